theorem i_37_0 : aIns 37 0 = some (.aload_n 0, 1, 0, 0, .null) := by decide +kernel
theorem i_37_1 : aIns 37 1 = some (.iconst 0, 1, 0, 0, .int (0)) := by decide +kernel
theorem i_37_2 : aIns 37 2 = some (.putfield 280, 3, 2, 18, .null) := by decide +kernel
theorem i_37_5 : aIns 37 5 = some (.aload_n 0, 1, 0, 0, .null) := by decide +kernel
theorem i_37_6 : aIns 37 6 = some (.iconst 0, 1, 0, 0, .int (0)) := by decide +kernel
theorem i_37_7 : aIns 37 7 = some (.putfield 283, 3, 2, 19, .null) := by decide +kernel
theorem i_37_10 : aIns 37 10 = some (.aload_n 0, 1, 0, 0, .null) := by decide +kernel
theorem i_37_11 : aIns 37 11 = some (.getfield 47, 3, 2, 0, .null) := by decide +kernel
theorem i_37_14 : aIns 37 14 = some (.getfield 59, 3, 10, 0, .null) := by decide +kernel
theorem i_37_17 : aIns 37 17 = some (.getfield 65, 3, 5, 4, .null) := by decide +kernel
theorem i_37_20 : aIns 37 20 = some (.istore_n 3, 1, 0, 0, .null) := by decide +kernel
theorem i_37_21 : aIns 37 21 = some (.iload_n 3, 1, 0, 0, .null) := by decide +kernel
theorem i_37_22 : aIns 37 22 = some (.iconst 1, 1, 0, 0, .int (1)) := by decide +kernel
theorem i_37_23 : aIns 37 23 = some (.if_icmp .ge 4, 3, 0, 0, .null) := by decide +kernel
theorem i_37_26 : aIns 37 26 = some (.return_, 1, 0, 0, .null) := by decide +kernel
theorem i_37_27 : aIns 37 27 = some (.aload_n 0, 1, 0, 0, .null) := by decide +kernel
theorem i_37_28 : aIns 37 28 = some (.getfield 47, 3, 2, 0, .null) := by decide +kernel
theorem i_37_31 : aIns 37 31 = some (.getfield 286, 3, 10, 3, .null) := by decide +kernel
theorem i_37_34 : aIns 37 34 = some (.i2l, 1, 0, 0, .null) := by decide +kernel
theorem i_37_35 : aIns 37 35 = some (.lstore 4, 2, 0, 0, .null) := by decide +kernel
theorem i_37_37 : aIns 37 37 = some (.iconst 0, 1, 0, 0, .int (0)) := by decide +kernel
theorem i_37_38 : aIns 37 38 = some (.istore 6, 2, 0, 0, .null) := by decide +kernel
theorem i_37_40 : aIns 37 40 = some (.iload 6, 2, 0, 0, .null) := by decide +kernel
theorem i_37_42 : aIns 37 42 = some (.iload_n 1, 1, 0, 0, .null) := by decide +kernel
theorem i_37_43 : aIns 37 43 = some (.if_icmp .ge 70, 3, 0, 0, .null) := by decide +kernel
theorem i_37_46 : aIns 37 46 = some (.aload_n 0, 1, 0, 0, .null) := by decide +kernel
theorem i_37_47 : aIns 37 47 = some (.getfield 43, 3, 2, 10, .null) := by decide +kernel
theorem i_37_50 : aIns 37 50 = some (.aload_n 0, 1, 0, 0, .null) := by decide +kernel
theorem i_37_51 : aIns 37 51 = some (.getfield 47, 3, 2, 0, .null) := by decide +kernel
theorem i_37_54 : aIns 37 54 = some (.getfield 76, 3, 10, 1, .null) := by decide +kernel
theorem i_37_57 : aIns 37 57 = some (.invokevirtual 289, 3, 72, 1, .int 7) := by decide +kernel
theorem i_37_60 : aIns 37 60 = some (.iconst 0, 1, 0, 0, .int (0)) := by decide +kernel
theorem i_37_61 : aIns 37 61 = some (.istore 7, 2, 0, 0, .null) := by decide +kernel
theorem i_37_63 : aIns 37 63 = some (.iload 7, 2, 0, 0, .null) := by decide +kernel
theorem i_37_65 : aIns 37 65 = some (.iload_n 2, 1, 0, 0, .null) := by decide +kernel
theorem i_37_66 : aIns 37 66 = some (.if_icmp .ge 41, 3, 0, 0, .null) := by decide +kernel
theorem i_37_69 : aIns 37 69 = some (.lload 4, 2, 0, 0, .null) := by decide +kernel
theorem i_37_71 : aIns 37 71 = some (.ldc2_w 293, 3, 0, 0, .long (1103515245)) := by decide +kernel
theorem i_37_74 : aIns 37 74 = some (.lmul, 1, 0, 0, .null) := by decide +kernel
theorem i_37_75 : aIns 37 75 = some (.ldc2_w 295, 3, 0, 0, .long (12345)) := by decide +kernel
theorem i_37_78 : aIns 37 78 = some (.ladd, 1, 0, 0, .null) := by decide +kernel
theorem i_37_79 : aIns 37 79 = some (.ldc2_w 297, 3, 0, 0, .long (2147483648)) := by decide +kernel
theorem i_37_82 : aIns 37 82 = some (.lrem, 1, 0, 0, .null) := by decide +kernel
theorem i_37_83 : aIns 37 83 = some (.lstore 4, 2, 0, 0, .null) := by decide +kernel
theorem i_37_85 : aIns 37 85 = some (.aload_n 0, 1, 0, 0, .null) := by decide +kernel
theorem i_37_86 : aIns 37 86 = some (.lload 4, 2, 0, 0, .null) := by decide +kernel
theorem i_37_88 : aIns 37 88 = some (.ldc2_w 299, 3, 0, 0, .long (65536)) := by decide +kernel
theorem i_37_91 : aIns 37 91 = some (.ldiv, 1, 0, 0, .null) := by decide +kernel
theorem i_37_92 : aIns 37 92 = some (.iload_n 3, 1, 0, 0, .null) := by decide +kernel
theorem i_37_93 : aIns 37 93 = some (.iconst 1, 1, 0, 0, .int (1)) := by decide +kernel
theorem i_37_94 : aIns 37 94 = some (.iadd, 1, 0, 0, .null) := by decide +kernel
theorem i_37_95 : aIns 37 95 = some (.i2l, 1, 0, 0, .null) := by decide +kernel
theorem i_37_96 : aIns 37 96 = some (.lrem, 1, 0, 0, .null) := by decide +kernel
theorem i_37_97 : aIns 37 97 = some (.l2i, 1, 0, 0, .null) := by decide +kernel
theorem i_37_98 : aIns 37 98 = some (.invokevirtual 301, 3, 38, 1, .int 2) := by decide +kernel
theorem i_37_101 : aIns 37 101 = some (.iinc 7 1, 3, 0, 0, .null) := by decide +kernel
theorem i_37_104 : aIns 37 104 = some (.goto (-41), 3, 0, 0, .null) := by decide +kernel
theorem i_37_107 : aIns 37 107 = some (.iinc 6 1, 3, 0, 0, .null) := by decide +kernel
theorem i_37_110 : aIns 37 110 = some (.goto (-70), 3, 0, 0, .null) := by decide +kernel
theorem i_37_113 : aIns 37 113 = some (.return_, 1, 0, 0, .null) := by decide +kernel
theorem i_38_0 : aIns 38 0 = some (.iload_n 1, 1, 0, 0, .null) := by decide +kernel
theorem i_38_1 : aIns 38 1 = some (.aload_n 0, 1, 0, 0, .null) := by decide +kernel
theorem i_38_2 : aIns 38 2 = some (.getfield 47, 3, 2, 0, .null) := by decide +kernel
theorem i_38_5 : aIns 38 5 = some (.getfield 59, 3, 10, 0, .null) := by decide +kernel
theorem i_38_8 : aIns 38 8 = some (.getfield 65, 3, 5, 4, .null) := by decide +kernel
theorem i_38_11 : aIns 38 11 = some (.if_icmp .lt 10, 3, 0, 0, .null) := by decide +kernel
theorem i_38_14 : aIns 38 14 = some (.aload_n 0, 1, 0, 0, .null) := by decide +kernel
theorem i_38_15 : aIns 38 15 = some (.invokevirtual 304, 3, 39, 0, .int 2) := by decide +kernel
theorem i_38_18 : aIns 38 18 = some (.goto 35, 3, 0, 0, .null) := by decide +kernel
theorem i_38_21 : aIns 38 21 = some (.aload_n 0, 1, 0, 0, .null) := by decide +kernel
theorem i_38_22 : aIns 38 22 = some (.getfield 43, 3, 2, 10, .null) := by decide +kernel
theorem i_38_25 : aIns 38 25 = some (.iload_n 1, 1, 0, 0, .null) := by decide +kernel
theorem i_38_26 : aIns 38 26 = some (.invokevirtual 307, 3, 75, 1, .int 7) := by decide +kernel
theorem i_38_29 : aIns 38 29 = some (.aload_n 0, 1, 0, 0, .null) := by decide +kernel
theorem i_38_30 : aIns 38 30 = some (.getfield 43, 3, 2, 10, .null) := by decide +kernel
theorem i_38_33 : aIns 38 33 = some (.iload_n 1, 1, 0, 0, .null) := by decide +kernel
theorem i_38_34 : aIns 38 34 = some (.invokevirtual 310, 3, 74, 1, .int 7) := by decide +kernel
theorem i_38_37 : aIns 38 37 = some (.ifCond .eq 16, 3, 0, 0, .null) := by decide +kernel
theorem i_38_40 : aIns 38 40 = some (.aload_n 0, 1, 0, 0, .null) := by decide +kernel
theorem i_38_41 : aIns 38 41 = some (.getfield 43, 3, 2, 10, .null) := by decide +kernel
theorem i_38_44 : aIns 38 44 = some (.getfield 79, 3, 7, 0, .null) := by decide +kernel
theorem i_38_47 : aIns 38 47 = some (.iload_n 1, 1, 0, 0, .null) := by decide +kernel
theorem i_38_48 : aIns 38 48 = some (.dup2, 1, 0, 0, .null) := by decide +kernel
theorem i_38_49 : aIns 38 49 = some (.iaload, 1, 0, 0, .null) := by decide +kernel
theorem i_38_50 : aIns 38 50 = some (.iconst 1, 1, 0, 0, .int (1)) := by decide +kernel
theorem i_38_51 : aIns 38 51 = some (.iadd, 1, 0, 0, .null) := by decide +kernel
theorem i_38_52 : aIns 38 52 = some (.iastore, 1, 0, 0, .null) := by decide +kernel
theorem i_38_53 : aIns 38 53 = some (.aload_n 0, 1, 0, 0, .null) := by decide +kernel
theorem i_38_54 : aIns 38 54 = some (.getfield 43, 3, 2, 10, .null) := by decide +kernel
theorem i_38_57 : aIns 38 57 = some (.sipush 999, 3, 0, 0, .int (999)) := by decide +kernel
theorem i_38_60 : aIns 38 60 = some (.aload_n 0, 1, 0, 0, .null) := by decide +kernel
theorem i_38_61 : aIns 38 61 = some (.getfield 43, 3, 2, 10, .null) := by decide +kernel
theorem i_38_64 : aIns 38 64 = some (.getfield 92, 3, 7, 13, .null) := by decide +kernel
theorem i_38_67 : aIns 38 67 = some (.iconst 1, 1, 0, 0, .int (1)) := by decide +kernel
theorem i_38_68 : aIns 38 68 = some (.iadd, 1, 0, 0, .null) := by decide +kernel
theorem i_38_69 : aIns 38 69 = some (.invokestatic 211, 3, 1002, 0, .null) := by decide +kernel
theorem i_38_72 : aIns 38 72 = some (.putfield 92, 3, 7, 13, .null) := by decide +kernel
theorem i_38_75 : aIns 38 75 = some (.return_, 1, 0, 0, .null) := by decide +kernel
theorem i_39_0 : aIns 39 0 = some (.iconst 0, 1, 0, 0, .int (0)) := by decide +kernel
theorem i_39_1 : aIns 39 1 = some (.istore_n 1, 1, 0, 0, .null) := by decide +kernel
theorem i_39_2 : aIns 39 2 = some (.iconst 0, 1, 0, 0, .int (0)) := by decide +kernel
theorem i_39_3 : aIns 39 3 = some (.istore_n 2, 1, 0, 0, .null) := by decide +kernel
theorem i_39_4 : aIns 39 4 = some (.iload_n 2, 1, 0, 0, .null) := by decide +kernel
theorem i_39_5 : aIns 39 5 = some (.aload_n 0, 1, 0, 0, .null) := by decide +kernel
theorem i_39_6 : aIns 39 6 = some (.getfield 47, 3, 2, 0, .null) := by decide +kernel
theorem i_39_9 : aIns 39 9 = some (.getfield 59, 3, 10, 0, .null) := by decide +kernel
theorem i_39_12 : aIns 39 12 = some (.getfield 65, 3, 5, 4, .null) := by decide +kernel
theorem i_39_15 : aIns 39 15 = some (.if_icmp .ge 69, 3, 0, 0, .null) := by decide +kernel
theorem i_39_18 : aIns 39 18 = some (.aload_n 0, 1, 0, 0, .null) := by decide +kernel
theorem i_39_19 : aIns 39 19 = some (.getfield 43, 3, 2, 10, .null) := by decide +kernel
theorem i_39_22 : aIns 39 22 = some (.getfield 79, 3, 7, 0, .null) := by decide +kernel
theorem i_39_25 : aIns 39 25 = some (.iload_n 2, 1, 0, 0, .null) := by decide +kernel
theorem i_39_26 : aIns 39 26 = some (.iaload, 1, 0, 0, .null) := by decide +kernel
theorem i_39_27 : aIns 39 27 = some (.ifCond .le 51, 3, 0, 0, .null) := by decide +kernel
theorem i_39_30 : aIns 39 30 = some (.iload_n 1, 1, 0, 0, .null) := by decide +kernel
theorem i_39_31 : aIns 39 31 = some (.aload_n 0, 1, 0, 0, .null) := by decide +kernel
theorem i_39_32 : aIns 39 32 = some (.getfield 43, 3, 2, 10, .null) := by decide +kernel
theorem i_39_35 : aIns 39 35 = some (.getfield 79, 3, 7, 0, .null) := by decide +kernel
theorem i_39_38 : aIns 39 38 = some (.iload_n 2, 1, 0, 0, .null) := by decide +kernel
theorem i_39_39 : aIns 39 39 = some (.iaload, 1, 0, 0, .null) := by decide +kernel
theorem i_39_40 : aIns 39 40 = some (.aload_n 0, 1, 0, 0, .null) := by decide +kernel
theorem i_39_41 : aIns 39 41 = some (.getfield 51, 3, 2, 1, .null) := by decide +kernel
theorem i_39_44 : aIns 39 44 = some (.aload_n 0, 1, 0, 0, .null) := by decide +kernel
theorem i_39_45 : aIns 39 45 = some (.getfield 43, 3, 2, 10, .null) := by decide +kernel
theorem i_39_48 : aIns 39 48 = some (.aload_n 0, 1, 0, 0, .null) := by decide +kernel
theorem i_39_49 : aIns 39 49 = some (.getfield 47, 3, 2, 0, .null) := by decide +kernel
theorem i_39_52 : aIns 39 52 = some (.getfield 313, 3, 10, 2, .null) := by decide +kernel
theorem i_39_55 : aIns 39 55 = some (.iload_n 2, 1, 0, 0, .null) := by decide +kernel
theorem i_39_56 : aIns 39 56 = some (.aload_n 0, 1, 0, 0, .null) := by decide +kernel
theorem i_39_57 : aIns 39 57 = some (.getfield 43, 3, 2, 10, .null) := by decide +kernel
theorem i_39_60 : aIns 39 60 = some (.getfield 92, 3, 7, 13, .null) := by decide +kernel
theorem i_39_63 : aIns 39 63 = some (.aload_n 0, 1, 0, 0, .null) := by decide +kernel
theorem i_39_64 : aIns 39 64 = some (.getfield 43, 3, 2, 10, .null) := by decide +kernel
theorem i_39_67 : aIns 39 67 = some (.getfield 316, 3, 7, 3, .null) := by decide +kernel
theorem i_39_70 : aIns 39 70 = some (.iload_n 2, 1, 0, 0, .null) := by decide +kernel
theorem i_39_71 : aIns 39 71 = some (.iaload, 1, 0, 0, .null) := by decide +kernel
theorem i_39_72 : aIns 39 72 = some (.invokevirtual 270, 3, 89, 5, .int 9) := by decide +kernel
theorem i_39_75 : aIns 39 75 = some (.imul, 1, 0, 0, .null) := by decide +kernel
theorem i_39_76 : aIns 39 76 = some (.iadd, 1, 0, 0, .null) := by decide +kernel
theorem i_39_77 : aIns 39 77 = some (.istore_n 1, 1, 0, 0, .null) := by decide +kernel
theorem i_39_78 : aIns 39 78 = some (.iinc 2 1, 3, 0, 0, .null) := by decide +kernel
theorem i_39_81 : aIns 39 81 = some (.goto (-77), 3, 0, 0, .null) := by decide +kernel
theorem i_39_84 : aIns 39 84 = some (.aload_n 0, 1, 0, 0, .null) := by decide +kernel
theorem i_39_85 : aIns 39 85 = some (.dup, 1, 0, 0, .null) := by decide +kernel
theorem i_39_86 : aIns 39 86 = some (.getfield 280, 3, 2, 18, .null) := by decide +kernel
theorem i_39_89 : aIns 39 89 = some (.aload_n 0, 1, 0, 0, .null) := by decide +kernel
theorem i_39_90 : aIns 39 90 = some (.getfield 51, 3, 2, 1, .null) := by decide +kernel
theorem i_39_93 : aIns 39 93 = some (.iload_n 1, 1, 0, 0, .null) := by decide +kernel
theorem i_39_94 : aIns 39 94 = some (.invokevirtual 197, 3, 95, 1, .int 9) := by decide +kernel
theorem i_39_97 : aIns 39 97 = some (.iadd, 1, 0, 0, .null) := by decide +kernel
theorem i_39_98 : aIns 39 98 = some (.putfield 280, 3, 2, 18, .null) := by decide +kernel
theorem i_39_101 : aIns 39 101 = some (.aload_n 0, 1, 0, 0, .null) := by decide +kernel
theorem i_39_102 : aIns 39 102 = some (.dup, 1, 0, 0, .null) := by decide +kernel
theorem i_39_103 : aIns 39 103 = some (.getfield 283, 3, 2, 19, .null) := by decide +kernel
theorem i_39_106 : aIns 39 106 = some (.aload_n 0, 1, 0, 0, .null) := by decide +kernel
theorem i_39_107 : aIns 39 107 = some (.getfield 43, 3, 2, 10, .null) := by decide +kernel
theorem i_39_110 : aIns 39 110 = some (.invokevirtual 82, 3, 73, 0, .int 7) := by decide +kernel
theorem i_39_113 : aIns 39 113 = some (.iadd, 1, 0, 0, .null) := by decide +kernel
theorem i_39_114 : aIns 39 114 = some (.putfield 283, 3, 2, 19, .null) := by decide +kernel
theorem i_39_117 : aIns 39 117 = some (.aload_n 0, 1, 0, 0, .null) := by decide +kernel
theorem i_39_118 : aIns 39 118 = some (.getfield 43, 3, 2, 10, .null) := by decide +kernel
theorem i_39_121 : aIns 39 121 = some (.invokevirtual 319, 3, 79, 0, .int 7) := by decide +kernel
theorem i_39_124 : aIns 39 124 = some (.return_, 1, 0, 0, .null) := by decide +kernel
theorem i_40_0 : aIns 40 0 = some (.aload_n 0, 1, 0, 0, .null) := by decide +kernel
theorem i_40_1 : aIns 40 1 = some (.invokespecial 3, 3, 1000, 0, .null) := by decide +kernel
theorem i_40_4 : aIns 40 4 = some (.aload_n 0, 1, 0, 0, .null) := by decide +kernel
theorem i_40_5 : aIns 40 5 = some (.sipush 400, 3, 0, 0, .int (400)) := by decide +kernel
theorem i_40_8 : aIns 40 8 = some (.newarray .int, 2, 0, 0, .null) := by decide +kernel
theorem i_40_10 : aIns 40 10 = some (.putfield 9, 3, 3, 0, .null) := by decide +kernel
theorem i_40_13 : aIns 40 13 = some (.aload_n 0, 1, 0, 0, .null) := by decide +kernel
theorem i_40_14 : aIns 40 14 = some (.bipush 12, 2, 0, 0, .int (12)) := by decide +kernel
theorem i_40_16 : aIns 40 16 = some (.newarray .int, 2, 0, 0, .null) := by decide +kernel
theorem i_40_18 : aIns 40 18 = some (.putfield 15, 3, 3, 1, .null) := by decide +kernel
theorem i_40_21 : aIns 40 21 = some (.aload_n 0, 1, 0, 0, .null) := by decide +kernel
theorem i_40_22 : aIns 40 22 = some (.bipush 12, 2, 0, 0, .int (12)) := by decide +kernel
theorem i_40_24 : aIns 40 24 = some (.newarray .int, 2, 0, 0, .null) := by decide +kernel
theorem i_40_26 : aIns 40 26 = some (.putfield 18, 3, 3, 2, .null) := by decide +kernel
theorem i_40_29 : aIns 40 29 = some (.aload_n 0, 1, 0, 0, .null) := by decide +kernel
theorem i_40_30 : aIns 40 30 = some (.bipush 12, 2, 0, 0, .int (12)) := by decide +kernel
theorem i_40_32 : aIns 40 32 = some (.newarray .int, 2, 0, 0, .null) := by decide +kernel
theorem i_40_34 : aIns 40 34 = some (.putfield 21, 3, 3, 3, .null) := by decide +kernel
theorem i_40_37 : aIns 40 37 = some (.aload_n 0, 1, 0, 0, .null) := by decide +kernel
theorem i_40_38 : aIns 40 38 = some (.bipush 62, 2, 0, 0, .int (62)) := by decide +kernel
theorem i_40_40 : aIns 40 40 = some (.newarray .long, 2, 3, 0, .null) := by decide +kernel
theorem i_40_42 : aIns 40 42 = some (.putfield 24, 3, 3, 4, .null) := by decide +kernel
theorem i_40_45 : aIns 40 45 = some (.return_, 1, 0, 0, .null) := by decide +kernel
theorem i_44_0 : aIns 44 0 = some (.aload_n 0, 1, 0, 0, .null) := by decide +kernel
theorem i_44_1 : aIns 44 1 = some (.invokespecial 3, 3, 1000, 0, .null) := by decide +kernel
theorem i_44_4 : aIns 44 4 = some (.aload_n 0, 1, 0, 0, .null) := by decide +kernel
theorem i_44_5 : aIns 44 5 = some (.aload_n 1, 1, 0, 0, .null) := by decide +kernel
theorem i_44_6 : aIns 44 6 = some (.putfield 9, 3, 4, 0, .null) := by decide +kernel
theorem i_44_9 : aIns 44 9 = some (.return_, 1, 0, 0, .null) := by decide +kernel
theorem i_50_0 : aIns 50 0 = some (.iload_n 1, 1, 0, 0, .null) := by decide +kernel
theorem i_50_1 : aIns 50 1 = some (.iconst 1, 1, 0, 0, .int (1)) := by decide +kernel
theorem i_50_2 : aIns 50 2 = some (.if_icmp .le 8, 3, 0, 0, .null) := by decide +kernel
theorem i_50_5 : aIns 50 5 = some (.aload_n 0, 1, 0, 0, .null) := by decide +kernel
theorem i_50_6 : aIns 50 6 = some (.invokevirtual 85, 3, 51, 0, .int 4) := by decide +kernel
theorem i_50_9 : aIns 50 9 = some (.return_, 1, 0, 0, .null) := by decide +kernel
theorem i_50_10 : aIns 50 10 = some (.iload_n 1, 1, 0, 0, .null) := by decide +kernel
theorem i_50_11 : aIns 50 11 = some (.ifCond .ne 8, 3, 0, 0, .null) := by decide +kernel
theorem i_50_14 : aIns 50 14 = some (.bipush 26, 2, 0, 0, .int (26)) := by decide +kernel
theorem i_50_16 : aIns 50 16 = some (.goto 5, 3, 0, 0, .null) := by decide +kernel
theorem i_50_19 : aIns 50 19 = some (.bipush 28, 2, 0, 0, .int (28)) := by decide +kernel
theorem i_50_21 : aIns 50 21 = some (.istore_n 2, 1, 0, 0, .null) := by decide +kernel
theorem i_50_22 : aIns 50 22 = some (.iload_n 1, 1, 0, 0, .null) := by decide +kernel
theorem i_50_23 : aIns 50 23 = some (.ifCond .ne 8, 3, 0, 0, .null) := by decide +kernel
theorem i_50_26 : aIns 50 26 = some (.bipush 27, 2, 0, 0, .int (27)) := by decide +kernel
theorem i_50_28 : aIns 50 28 = some (.goto 5, 3, 0, 0, .null) := by decide +kernel
theorem i_50_31 : aIns 50 31 = some (.bipush 30, 2, 0, 0, .int (30)) := by decide +kernel
theorem i_50_33 : aIns 50 33 = some (.istore_n 3, 1, 0, 0, .null) := by decide +kernel
theorem i_50_34 : aIns 50 34 = some (.aload_n 0, 1, 0, 0, .null) := by decide +kernel
theorem i_50_35 : aIns 50 35 = some (.iload_n 1, 1, 0, 0, .null) := by decide +kernel
theorem i_50_36 : aIns 50 36 = some (.iconst 1, 1, 0, 0, .int (1)) := by decide +kernel
theorem i_50_37 : aIns 50 37 = some (.iadd, 1, 0, 0, .null) := by decide +kernel
theorem i_50_38 : aIns 50 38 = some (.invokevirtual 56, 3, 50, 1, .int 4) := by decide +kernel
theorem i_50_41 : aIns 50 41 = some (.iconst 0, 1, 0, 0, .int (0)) := by decide +kernel
theorem i_50_42 : aIns 50 42 = some (.istore 4, 2, 0, 0, .null) := by decide +kernel
theorem i_50_44 : aIns 50 44 = some (.iload 4, 2, 0, 0, .null) := by decide +kernel
theorem i_50_46 : aIns 50 46 = some (.sipush 400, 3, 0, 0, .int (400)) := by decide +kernel
theorem i_50_49 : aIns 50 49 = some (.if_icmp .ge 55, 3, 0, 0, .null) := by decide +kernel
theorem i_50_52 : aIns 50 52 = some (.aload_n 0, 1, 0, 0, .null) := by decide +kernel
theorem i_50_53 : aIns 50 53 = some (.getfield 9, 3, 4, 0, .null) := by decide +kernel
theorem i_50_56 : aIns 50 56 = some (.getfield 39, 3, 8, 3, .null) := by decide +kernel
theorem i_50_59 : aIns 50 59 = some (.iload_n 2, 1, 0, 0, .null) := by decide +kernel
theorem i_50_60 : aIns 50 60 = some (.iload_n 3, 1, 0, 0, .null) := by decide +kernel
theorem i_50_61 : aIns 50 61 = some (.invokestatic 78, 3, 138, 3, .null) := by decide +kernel
theorem i_50_64 : aIns 50 64 = some (.ifCond .eq 40, 3, 0, 0, .null) := by decide +kernel
theorem i_50_67 : aIns 50 67 = some (.aload_n 0, 1, 0, 0, .null) := by decide +kernel
theorem i_50_68 : aIns 50 68 = some (.getfield 9, 3, 4, 0, .null) := by decide +kernel
theorem i_50_71 : aIns 50 71 = some (.getfield 39, 3, 8, 3, .null) := by decide +kernel
theorem i_50_74 : aIns 50 74 = some (.istore 5, 2, 0, 0, .null) := by decide +kernel
theorem i_50_76 : aIns 50 76 = some (.aload_n 0, 1, 0, 0, .null) := by decide +kernel
theorem i_50_77 : aIns 50 77 = some (.getfield 9, 3, 4, 0, .null) := by decide +kernel
theorem i_50_80 : aIns 50 80 = some (.invokevirtual 42, 3, 84, 0, .int 8) := by decide +kernel
theorem i_50_83 : aIns 50 83 = some (.aload_n 0, 1, 0, 0, .null) := by decide +kernel
theorem i_50_84 : aIns 50 84 = some (.iload_n 1, 1, 0, 0, .null) := by decide +kernel
theorem i_50_85 : aIns 50 85 = some (.iconst 1, 1, 0, 0, .int (1)) := by decide +kernel
theorem i_50_86 : aIns 50 86 = some (.iadd, 1, 0, 0, .null) := by decide +kernel
theorem i_50_87 : aIns 50 87 = some (.invokevirtual 56, 3, 50, 1, .int 4) := by decide +kernel
theorem i_50_90 : aIns 50 90 = some (.aload_n 0, 1, 0, 0, .null) := by decide +kernel
theorem i_50_91 : aIns 50 91 = some (.iconst (-1), 1, 0, 0, .int (-1)) := by decide +kernel
theorem i_50_92 : aIns 50 92 = some (.iload 5, 2, 0, 0, .null) := by decide +kernel
theorem i_50_94 : aIns 50 94 = some (.isub, 1, 0, 0, .null) := by decide +kernel
theorem i_50_95 : aIns 50 95 = some (.invokevirtual 72, 3, 53, 1, .int 4) := by decide +kernel
theorem i_50_98 : aIns 50 98 = some (.iinc 4 1, 3, 0, 0, .null) := by decide +kernel
theorem i_50_101 : aIns 50 101 = some (.goto (-57), 3, 0, 0, .null) := by decide +kernel
theorem i_50_104 : aIns 50 104 = some (.return_, 1, 0, 0, .null) := by decide +kernel
theorem i_51_0 : aIns 51 0 = some (.aload_n 0, 1, 0, 0, .null) := by decide +kernel
theorem i_51_1 : aIns 51 1 = some (.getfield 9, 3, 4, 0, .null) := by decide +kernel
theorem i_51_4 : aIns 51 4 = some (.getfield 39, 3, 8, 3, .null) := by decide +kernel
theorem i_51_7 : aIns 51 7 = some (.istore_n 1, 1, 0, 0, .null) := by decide +kernel
theorem i_51_8 : aIns 51 8 = some (.iload_n 1, 1, 0, 0, .null) := by decide +kernel
theorem i_51_9 : aIns 51 9 = some (.bipush 20, 2, 0, 0, .int (20)) := by decide +kernel
theorem i_51_11 : aIns 51 11 = some (.if_icmp .eq 18, 3, 0, 0, .null) := by decide +kernel
theorem i_51_14 : aIns 51 14 = some (.iload_n 1, 1, 0, 0, .null) := by decide +kernel
theorem i_51_15 : aIns 51 15 = some (.bipush 8, 2, 0, 0, .int (8)) := by decide +kernel
theorem i_51_17 : aIns 51 17 = some (.if_icmp .lt 12, 3, 0, 0, .null) := by decide +kernel
theorem i_51_20 : aIns 51 20 = some (.aload_n 0, 1, 0, 0, .null) := by decide +kernel
theorem i_51_21 : aIns 51 21 = some (.getfield 9, 3, 4, 0, .null) := by decide +kernel
theorem i_51_24 : aIns 51 24 = some (.iconst 0, 1, 0, 0, .int (0)) := by decide +kernel
theorem i_51_25 : aIns 51 25 = some (.invokevirtual 45, 3, 83, 1, .int 8) := by decide +kernel
theorem i_51_28 : aIns 51 28 = some (.return_, 1, 0, 0, .null) := by decide +kernel
theorem i_51_29 : aIns 51 29 = some (.iload_n 1, 1, 0, 0, .null) := by decide +kernel
theorem i_51_30 : aIns 51 30 = some (.bipush 20, 2, 0, 0, .int (20)) := by decide +kernel
theorem i_51_32 : aIns 51 32 = some (.if_icmp .ne 24, 3, 0, 0, .null) := by decide +kernel
theorem i_51_35 : aIns 51 35 = some (.aload_n 0, 1, 0, 0, .null) := by decide +kernel
theorem i_51_36 : aIns 51 36 = some (.getfield 9, 3, 4, 0, .null) := by decide +kernel
theorem i_51_39 : aIns 51 39 = some (.getfield 88, 3, 8, 5, .null) := by decide +kernel
theorem i_51_42 : aIns 51 42 = some (.ldc 91, 2, 0, 0, .int (99999)) := by decide +kernel
theorem i_51_44 : aIns 51 44 = some (.if_icmp .le 12, 3, 0, 0, .null) := by decide +kernel
theorem i_51_47 : aIns 51 47 = some (.aload_n 0, 1, 0, 0, .null) := by decide +kernel
theorem i_51_48 : aIns 51 48 = some (.getfield 9, 3, 4, 0, .null) := by decide +kernel
theorem i_51_51 : aIns 51 51 = some (.iconst 1, 1, 0, 0, .int (1)) := by decide +kernel
theorem i_51_52 : aIns 51 52 = some (.invokevirtual 45, 3, 83, 1, .int 8) := by decide +kernel
theorem i_51_55 : aIns 51 55 = some (.return_, 1, 0, 0, .null) := by decide +kernel
theorem i_51_56 : aIns 51 56 = some (.aload_n 0, 1, 0, 0, .null) := by decide +kernel
theorem i_51_57 : aIns 51 57 = some (.invokevirtual 82, 3, 52, 0, .int 4) := by decide +kernel
theorem i_51_60 : aIns 51 60 = some (.aload_n 0, 1, 0, 0, .null) := by decide +kernel
theorem i_51_61 : aIns 51 61 = some (.iload_n 1, 1, 0, 0, .null) := by decide +kernel
theorem i_51_62 : aIns 51 62 = some (.bipush 20, 2, 0, 0, .int (20)) := by decide +kernel
theorem i_51_64 : aIns 51 64 = some (.if_icmp .ne 13, 3, 0, 0, .null) := by decide +kernel
theorem i_51_67 : aIns 51 67 = some (.aload_n 0, 1, 0, 0, .null) := by decide +kernel
theorem i_51_68 : aIns 51 68 = some (.getfield 9, 3, 4, 0, .null) := by decide +kernel
theorem i_51_71 : aIns 51 71 = some (.getfield 88, 3, 8, 5, .null) := by decide +kernel
theorem i_51_74 : aIns 51 74 = some (.goto 6, 3, 0, 0, .null) := by decide +kernel
theorem i_51_77 : aIns 51 77 = some (.iconst (-1), 1, 0, 0, .int (-1)) := by decide +kernel
theorem i_51_78 : aIns 51 78 = some (.iload_n 1, 1, 0, 0, .null) := by decide +kernel
theorem i_51_79 : aIns 51 79 = some (.isub, 1, 0, 0, .null) := by decide +kernel
theorem i_51_80 : aIns 51 80 = some (.invokevirtual 72, 3, 53, 1, .int 4) := by decide +kernel
theorem i_51_83 : aIns 51 83 = some (.aload_n 0, 1, 0, 0, .null) := by decide +kernel
theorem i_51_84 : aIns 51 84 = some (.getfield 9, 3, 4, 0, .null) := by decide +kernel
theorem i_51_87 : aIns 51 87 = some (.invokevirtual 42, 3, 84, 0, .int 8) := by decide +kernel
theorem i_51_90 : aIns 51 90 = some (.return_, 1, 0, 0, .null) := by decide +kernel
theorem i_52_0 : aIns 52 0 = some (.aload_n 0, 1, 0, 0, .null) := by decide +kernel
theorem i_52_1 : aIns 52 1 = some (.getfield 28, 3, 4, 2, .null) := by decide +kernel
theorem i_52_4 : aIns 52 4 = some (.bipush 60, 2, 0, 0, .int (60)) := by decide +kernel
theorem i_52_6 : aIns 52 6 = some (.if_icmp .lt 11, 3, 0, 0, .null) := by decide +kernel
theorem i_52_9 : aIns 52 9 = some (.aload_n 0, 1, 0, 0, .null) := by decide +kernel
theorem i_52_10 : aIns 52 10 = some (.getfield 9, 3, 4, 0, .null) := by decide +kernel
theorem i_52_13 : aIns 52 13 = some (.iconst 3, 1, 0, 0, .int (3)) := by decide +kernel
theorem i_52_14 : aIns 52 14 = some (.invokevirtual 45, 3, 83, 1, .int 8) := by decide +kernel
theorem i_52_17 : aIns 52 17 = some (.aload_n 0, 1, 0, 0, .null) := by decide +kernel
theorem i_52_18 : aIns 52 18 = some (.dup, 1, 0, 0, .null) := by decide +kernel
theorem i_52_19 : aIns 52 19 = some (.getfield 28, 3, 4, 2, .null) := by decide +kernel
theorem i_52_22 : aIns 52 22 = some (.iconst 1, 1, 0, 0, .int (1)) := by decide +kernel
theorem i_52_23 : aIns 52 23 = some (.iadd, 1, 0, 0, .null) := by decide +kernel
theorem i_52_24 : aIns 52 24 = some (.putfield 28, 3, 4, 2, .null) := by decide +kernel
theorem i_52_27 : aIns 52 27 = some (.return_, 1, 0, 0, .null) := by decide +kernel
theorem i_53_0 : aIns 53 0 = some (.aload_n 0, 1, 0, 0, .null) := by decide +kernel
theorem i_53_1 : aIns 53 1 = some (.getfield 15, 3, 4, 1, .null) := by decide +kernel
theorem i_53_4 : aIns 53 4 = some (.getfield 19, 3, 3, 5, .null) := by decide +kernel
theorem i_53_7 : aIns 53 7 = some (.sipush 400, 3, 0, 0, .int (400)) := by decide +kernel
theorem i_53_10 : aIns 53 10 = some (.if_icmp .ge 32, 3, 0, 0, .null) := by decide +kernel
theorem i_53_13 : aIns 53 13 = some (.aload_n 0, 1, 0, 0, .null) := by decide +kernel
theorem i_53_14 : aIns 53 14 = some (.getfield 15, 3, 4, 1, .null) := by decide +kernel
theorem i_53_17 : aIns 53 17 = some (.getfield 92, 3, 3, 0, .null) := by decide +kernel
theorem i_53_20 : aIns 53 20 = some (.aload_n 0, 1, 0, 0, .null) := by decide +kernel
theorem i_53_21 : aIns 53 21 = some (.getfield 15, 3, 4, 1, .null) := by decide +kernel
theorem i_53_24 : aIns 53 24 = some (.getfield 19, 3, 3, 5, .null) := by decide +kernel
theorem i_53_27 : aIns 53 27 = some (.iload_n 1, 1, 0, 0, .null) := by decide +kernel
theorem i_53_28 : aIns 53 28 = some (.iastore, 1, 0, 0, .null) := by decide +kernel
theorem i_53_29 : aIns 53 29 = some (.aload_n 0, 1, 0, 0, .null) := by decide +kernel
theorem i_53_30 : aIns 53 30 = some (.getfield 15, 3, 4, 1, .null) := by decide +kernel
theorem i_53_33 : aIns 53 33 = some (.dup, 1, 0, 0, .null) := by decide +kernel
theorem i_53_34 : aIns 53 34 = some (.getfield 19, 3, 3, 5, .null) := by decide +kernel
theorem i_53_37 : aIns 53 37 = some (.iconst 1, 1, 0, 0, .int (1)) := by decide +kernel
theorem i_53_38 : aIns 53 38 = some (.iadd, 1, 0, 0, .null) := by decide +kernel
theorem i_53_39 : aIns 53 39 = some (.putfield 19, 3, 3, 5, .null) := by decide +kernel
theorem i_53_42 : aIns 53 42 = some (.return_, 1, 0, 0, .null) := by decide +kernel
theorem i_74_0 : aIns 74 0 = some (.aload_n 0, 1, 0, 0, .null) := by decide +kernel
theorem i_74_1 : aIns 74 1 = some (.getfield 9, 3, 7, 0, .null) := by decide +kernel
theorem i_74_4 : aIns 74 4 = some (.iload_n 1, 1, 0, 0, .null) := by decide +kernel
theorem i_74_5 : aIns 74 5 = some (.iaload, 1, 0, 0, .null) := by decide +kernel
theorem i_74_6 : aIns 74 6 = some (.aload_n 0, 1, 0, 0, .null) := by decide +kernel
theorem i_74_7 : aIns 74 7 = some (.getfield 15, 3, 7, 1, .null) := by decide +kernel
theorem i_74_10 : aIns 74 10 = some (.iload_n 1, 1, 0, 0, .null) := by decide +kernel
theorem i_74_11 : aIns 74 11 = some (.iaload, 1, 0, 0, .null) := by decide +kernel
theorem i_74_12 : aIns 74 12 = some (.if_icmp .ge 16, 3, 0, 0, .null) := by decide +kernel
theorem i_74_15 : aIns 74 15 = some (.aload_n 0, 1, 0, 0, .null) := by decide +kernel
theorem i_74_16 : aIns 74 16 = some (.invokevirtual 70, 3, 73, 0, .int 7) := by decide +kernel
theorem i_74_19 : aIns 74 19 = some (.bipush 12, 2, 0, 0, .int (12)) := by decide +kernel
theorem i_74_21 : aIns 74 21 = some (.if_icmp .ge 7, 3, 0, 0, .null) := by decide +kernel
theorem i_74_24 : aIns 74 24 = some (.iconst 1, 1, 0, 0, .int (1)) := by decide +kernel
theorem i_74_25 : aIns 74 25 = some (.goto 4, 3, 0, 0, .null) := by decide +kernel
theorem i_74_28 : aIns 74 28 = some (.iconst 0, 1, 0, 0, .int (0)) := by decide +kernel
theorem i_74_29 : aIns 74 29 = some (.ireturn, 1, 1, 0, .null) := by decide +kernel
theorem i_75_0 : aIns 75 0 = some (.aload_n 0, 1, 0, 0, .null) := by decide +kernel
theorem i_75_1 : aIns 75 1 = some (.getfield 21, 3, 7, 3, .null) := by decide +kernel
theorem i_75_4 : aIns 75 4 = some (.iload_n 1, 1, 0, 0, .null) := by decide +kernel
theorem i_75_5 : aIns 75 5 = some (.bipush 99, 2, 0, 0, .int (99)) := by decide +kernel
theorem i_75_7 : aIns 75 7 = some (.aload_n 0, 1, 0, 0, .null) := by decide +kernel
theorem i_75_8 : aIns 75 8 = some (.getfield 21, 3, 7, 3, .null) := by decide +kernel
theorem i_75_11 : aIns 75 11 = some (.iload_n 1, 1, 0, 0, .null) := by decide +kernel
theorem i_75_12 : aIns 75 12 = some (.iaload, 1, 0, 0, .null) := by decide +kernel
theorem i_75_13 : aIns 75 13 = some (.iconst 1, 1, 0, 0, .int (1)) := by decide +kernel
theorem i_75_14 : aIns 75 14 = some (.iadd, 1, 0, 0, .null) := by decide +kernel
theorem i_75_15 : aIns 75 15 = some (.invokestatic 74, 3, 1002, 0, .null) := by decide +kernel
theorem i_75_18 : aIns 75 18 = some (.iastore, 1, 0, 0, .null) := by decide +kernel
theorem i_75_19 : aIns 75 19 = some (.return_, 1, 0, 0, .null) := by decide +kernel
theorem i_83_0 : aIns 83 0 = some (.aload_n 0, 1, 0, 0, .null) := by decide +kernel
theorem i_83_1 : aIns 83 1 = some (.getfield 22, 3, 8, 6, .null) := by decide +kernel
theorem i_83_4 : aIns 83 4 = some (.ifCond .ne 18, 3, 0, 0, .null) := by decide +kernel
theorem i_83_7 : aIns 83 7 = some (.aload_n 0, 1, 0, 0, .null) := by decide +kernel
theorem i_83_8 : aIns 83 8 = some (.iconst 1, 1, 0, 0, .int (1)) := by decide +kernel
theorem i_83_9 : aIns 83 9 = some (.bipush 8, 2, 0, 0, .int (8)) := by decide +kernel
theorem i_83_11 : aIns 83 11 = some (.aload_n 0, 1, 0, 0, .null) := by decide +kernel
theorem i_83_12 : aIns 83 12 = some (.getfield 28, 3, 8, 4, .null) := by decide +kernel
theorem i_83_15 : aIns 83 15 = some (.imul, 1, 0, 0, .null) := by decide +kernel
theorem i_83_16 : aIns 83 16 = some (.iadd, 1, 0, 0, .null) := by decide +kernel
theorem i_83_17 : aIns 83 17 = some (.iload_n 1, 1, 0, 0, .null) := by decide +kernel
theorem i_83_18 : aIns 83 18 = some (.iadd, 1, 0, 0, .null) := by decide +kernel
theorem i_83_19 : aIns 83 19 = some (.putfield 22, 3, 8, 6, .null) := by decide +kernel
theorem i_83_22 : aIns 83 22 = some (.aload_n 0, 1, 0, 0, .null) := by decide +kernel
theorem i_83_23 : aIns 83 23 = some (.bipush 21, 2, 0, 0, .int (21)) := by decide +kernel
theorem i_83_25 : aIns 83 25 = some (.putfield 31, 3, 8, 3, .null) := by decide +kernel
theorem i_83_28 : aIns 83 28 = some (.aload_n 0, 1, 0, 0, .null) := by decide +kernel
theorem i_83_29 : aIns 83 29 = some (.aload_n 0, 1, 0, 0, .null) := by decide +kernel
theorem i_83_30 : aIns 83 30 = some (.getfield 15, 3, 8, 1, .null) := by decide +kernel
theorem i_83_33 : aIns 83 33 = some (.putfield 19, 3, 8, 2, .null) := by decide +kernel
theorem i_83_36 : aIns 83 36 = some (.return_, 1, 0, 0, .null) := by decide +kernel
theorem i_84_0 : aIns 84 0 = some (.aload_n 0, 1, 0, 0, .null) := by decide +kernel
theorem i_84_1 : aIns 84 1 = some (.getfield 19, 3, 8, 2, .null) := by decide +kernel
theorem i_84_4 : aIns 84 4 = some (.aload_n 0, 1, 0, 0, .null) := by decide +kernel
theorem i_84_5 : aIns 84 5 = some (.getfield 15, 3, 8, 1, .null) := by decide +kernel
theorem i_84_8 : aIns 84 8 = some (.if_icmp .ge 30, 3, 0, 0, .null) := by decide +kernel
theorem i_84_11 : aIns 84 11 = some (.aload_n 0, 1, 0, 0, .null) := by decide +kernel
theorem i_84_12 : aIns 84 12 = some (.getfield 9, 3, 8, 0, .null) := by decide +kernel
theorem i_84_15 : aIns 84 15 = some (.aload_n 0, 1, 0, 0, .null) := by decide +kernel
theorem i_84_16 : aIns 84 16 = some (.getfield 19, 3, 8, 2, .null) := by decide +kernel
theorem i_84_19 : aIns 84 19 = some (.baload, 1, 0, 0, .null) := by decide +kernel
theorem i_84_20 : aIns 84 20 = some (.bipush 32, 2, 0, 0, .int (32)) := by decide +kernel
theorem i_84_22 : aIns 84 22 = some (.if_icmp .ne 16, 3, 0, 0, .null) := by decide +kernel
theorem i_84_25 : aIns 84 25 = some (.aload_n 0, 1, 0, 0, .null) := by decide +kernel
theorem i_84_26 : aIns 84 26 = some (.dup, 1, 0, 0, .null) := by decide +kernel
theorem i_84_27 : aIns 84 27 = some (.getfield 19, 3, 8, 2, .null) := by decide +kernel
theorem i_84_30 : aIns 84 30 = some (.iconst 1, 1, 0, 0, .int (1)) := by decide +kernel
theorem i_84_31 : aIns 84 31 = some (.iadd, 1, 0, 0, .null) := by decide +kernel
theorem i_84_32 : aIns 84 32 = some (.putfield 19, 3, 8, 2, .null) := by decide +kernel
theorem i_84_35 : aIns 84 35 = some (.goto (-35), 3, 0, 0, .null) := by decide +kernel
theorem i_84_38 : aIns 84 38 = some (.aload_n 0, 1, 0, 0, .null) := by decide +kernel
theorem i_84_39 : aIns 84 39 = some (.aload_n 0, 1, 0, 0, .null) := by decide +kernel
theorem i_84_40 : aIns 84 40 = some (.getfield 19, 3, 8, 2, .null) := by decide +kernel
theorem i_84_43 : aIns 84 43 = some (.putfield 28, 3, 8, 4, .null) := by decide +kernel
theorem i_84_46 : aIns 84 46 = some (.aload_n 0, 1, 0, 0, .null) := by decide +kernel
theorem i_84_47 : aIns 84 47 = some (.getfield 19, 3, 8, 2, .null) := by decide +kernel
theorem i_84_50 : aIns 84 50 = some (.aload_n 0, 1, 0, 0, .null) := by decide +kernel
theorem i_84_51 : aIns 84 51 = some (.getfield 15, 3, 8, 1, .null) := by decide +kernel
theorem i_84_54 : aIns 84 54 = some (.if_icmp .lt 12, 3, 0, 0, .null) := by decide +kernel
theorem i_84_57 : aIns 84 57 = some (.aload_n 0, 1, 0, 0, .null) := by decide +kernel
theorem i_84_58 : aIns 84 58 = some (.bipush 21, 2, 0, 0, .int (21)) := by decide +kernel
theorem i_84_60 : aIns 84 60 = some (.putfield 31, 3, 8, 3, .null) := by decide +kernel
theorem i_84_63 : aIns 84 63 = some (.goto 77, 3, 0, 0, .null) := by decide +kernel
theorem i_84_66 : aIns 84 66 = some (.aload_n 0, 1, 0, 0, .null) := by decide +kernel
theorem i_84_67 : aIns 84 67 = some (.getfield 9, 3, 8, 0, .null) := by decide +kernel
theorem i_84_70 : aIns 84 70 = some (.aload_n 0, 1, 0, 0, .null) := by decide +kernel
theorem i_84_71 : aIns 84 71 = some (.getfield 19, 3, 8, 2, .null) := by decide +kernel
theorem i_84_74 : aIns 84 74 = some (.baload, 1, 0, 0, .null) := by decide +kernel
theorem i_84_75 : aIns 84 75 = some (.bipush 48, 2, 0, 0, .int (48)) := by decide +kernel
theorem i_84_77 : aIns 84 77 = some (.if_icmp .lt 24, 3, 0, 0, .null) := by decide +kernel
theorem i_84_80 : aIns 84 80 = some (.aload_n 0, 1, 0, 0, .null) := by decide +kernel
theorem i_84_81 : aIns 84 81 = some (.getfield 9, 3, 8, 0, .null) := by decide +kernel
theorem i_84_84 : aIns 84 84 = some (.aload_n 0, 1, 0, 0, .null) := by decide +kernel
theorem i_84_85 : aIns 84 85 = some (.getfield 19, 3, 8, 2, .null) := by decide +kernel
theorem i_84_88 : aIns 84 88 = some (.baload, 1, 0, 0, .null) := by decide +kernel
theorem i_84_89 : aIns 84 89 = some (.bipush 57, 2, 0, 0, .int (57)) := by decide +kernel
theorem i_84_91 : aIns 84 91 = some (.if_icmp .gt 10, 3, 0, 0, .null) := by decide +kernel
theorem i_84_94 : aIns 84 94 = some (.aload_n 0, 1, 0, 0, .null) := by decide +kernel
theorem i_84_95 : aIns 84 95 = some (.invokevirtual 34, 3, 85, 0, .int 8) := by decide +kernel
theorem i_84_98 : aIns 84 98 = some (.goto 42, 3, 0, 0, .null) := by decide +kernel
theorem i_84_101 : aIns 84 101 = some (.aload_n 0, 1, 0, 0, .null) := by decide +kernel
theorem i_84_102 : aIns 84 102 = some (.getfield 9, 3, 8, 0, .null) := by decide +kernel
theorem i_84_105 : aIns 84 105 = some (.aload_n 0, 1, 0, 0, .null) := by decide +kernel
theorem i_84_106 : aIns 84 106 = some (.getfield 19, 3, 8, 2, .null) := by decide +kernel
theorem i_84_109 : aIns 84 109 = some (.baload, 1, 0, 0, .null) := by decide +kernel
theorem i_84_110 : aIns 84 110 = some (.bipush 97, 2, 0, 0, .int (97)) := by decide +kernel
theorem i_84_112 : aIns 84 112 = some (.if_icmp .lt 24, 3, 0, 0, .null) := by decide +kernel
theorem i_84_115 : aIns 84 115 = some (.aload_n 0, 1, 0, 0, .null) := by decide +kernel
theorem i_84_116 : aIns 84 116 = some (.getfield 9, 3, 8, 0, .null) := by decide +kernel
theorem i_84_119 : aIns 84 119 = some (.aload_n 0, 1, 0, 0, .null) := by decide +kernel
theorem i_84_120 : aIns 84 120 = some (.getfield 19, 3, 8, 2, .null) := by decide +kernel
theorem i_84_123 : aIns 84 123 = some (.baload, 1, 0, 0, .null) := by decide +kernel
theorem i_84_124 : aIns 84 124 = some (.bipush 122, 2, 0, 0, .int (122)) := by decide +kernel
theorem i_84_126 : aIns 84 126 = some (.if_icmp .gt 10, 3, 0, 0, .null) := by decide +kernel
theorem i_84_129 : aIns 84 129 = some (.aload_n 0, 1, 0, 0, .null) := by decide +kernel
theorem i_84_130 : aIns 84 130 = some (.invokevirtual 37, 3, 86, 0, .int 8) := by decide +kernel
theorem i_84_133 : aIns 84 133 = some (.goto 7, 3, 0, 0, .null) := by decide +kernel
theorem i_84_136 : aIns 84 136 = some (.aload_n 0, 1, 0, 0, .null) := by decide +kernel
theorem i_84_137 : aIns 84 137 = some (.invokevirtual 40, 3, 87, 0, .int 8) := by decide +kernel
theorem i_84_140 : aIns 84 140 = some (.return_, 1, 0, 0, .null) := by decide +kernel
theorem i_85_0 : aIns 85 0 = some (.aload_n 0, 1, 0, 0, .null) := by decide +kernel
theorem i_85_1 : aIns 85 1 = some (.bipush 20, 2, 0, 0, .int (20)) := by decide +kernel
theorem i_85_3 : aIns 85 3 = some (.putfield 31, 3, 8, 3, .null) := by decide +kernel
theorem i_85_6 : aIns 85 6 = some (.aload_n 0, 1, 0, 0, .null) := by decide +kernel
theorem i_85_7 : aIns 85 7 = some (.iconst 0, 1, 0, 0, .int (0)) := by decide +kernel
theorem i_85_8 : aIns 85 8 = some (.putfield 43, 3, 8, 5, .null) := by decide +kernel
theorem i_85_11 : aIns 85 11 = some (.aload_n 0, 1, 0, 0, .null) := by decide +kernel
theorem i_85_12 : aIns 85 12 = some (.getfield 19, 3, 8, 2, .null) := by decide +kernel
theorem i_85_15 : aIns 85 15 = some (.aload_n 0, 1, 0, 0, .null) := by decide +kernel
theorem i_85_16 : aIns 85 16 = some (.getfield 15, 3, 8, 1, .null) := by decide +kernel
theorem i_85_19 : aIns 85 19 = some (.if_icmp .ge 86, 3, 0, 0, .null) := by decide +kernel
theorem i_85_22 : aIns 85 22 = some (.aload_n 0, 1, 0, 0, .null) := by decide +kernel
theorem i_85_23 : aIns 85 23 = some (.getfield 9, 3, 8, 0, .null) := by decide +kernel
theorem i_85_26 : aIns 85 26 = some (.aload_n 0, 1, 0, 0, .null) := by decide +kernel
theorem i_85_27 : aIns 85 27 = some (.getfield 19, 3, 8, 2, .null) := by decide +kernel
theorem i_85_30 : aIns 85 30 = some (.baload, 1, 0, 0, .null) := by decide +kernel
theorem i_85_31 : aIns 85 31 = some (.bipush 48, 2, 0, 0, .int (48)) := by decide +kernel
theorem i_85_33 : aIns 85 33 = some (.if_icmp .lt 72, 3, 0, 0, .null) := by decide +kernel
theorem i_85_36 : aIns 85 36 = some (.aload_n 0, 1, 0, 0, .null) := by decide +kernel
theorem i_85_37 : aIns 85 37 = some (.getfield 9, 3, 8, 0, .null) := by decide +kernel
theorem i_85_40 : aIns 85 40 = some (.aload_n 0, 1, 0, 0, .null) := by decide +kernel
theorem i_85_41 : aIns 85 41 = some (.getfield 19, 3, 8, 2, .null) := by decide +kernel
theorem i_85_44 : aIns 85 44 = some (.baload, 1, 0, 0, .null) := by decide +kernel
theorem i_85_45 : aIns 85 45 = some (.bipush 57, 2, 0, 0, .int (57)) := by decide +kernel
theorem i_85_47 : aIns 85 47 = some (.if_icmp .gt 58, 3, 0, 0, .null) := by decide +kernel
theorem i_85_50 : aIns 85 50 = some (.aload_n 0, 1, 0, 0, .null) := by decide +kernel
theorem i_85_51 : aIns 85 51 = some (.aload_n 0, 1, 0, 0, .null) := by decide +kernel
theorem i_85_52 : aIns 85 52 = some (.getfield 19, 3, 8, 2, .null) := by decide +kernel
theorem i_85_55 : aIns 85 55 = some (.aload_n 0, 1, 0, 0, .null) := by decide +kernel
theorem i_85_56 : aIns 85 56 = some (.getfield 28, 3, 8, 4, .null) := by decide +kernel
theorem i_85_59 : aIns 85 59 = some (.isub, 1, 0, 0, .null) := by decide +kernel
theorem i_85_60 : aIns 85 60 = some (.iconst 5, 1, 0, 0, .int (5)) := by decide +kernel
theorem i_85_61 : aIns 85 61 = some (.if_icmp .ge 26, 3, 0, 0, .null) := by decide +kernel
theorem i_85_64 : aIns 85 64 = some (.aload_n 0, 1, 0, 0, .null) := by decide +kernel
theorem i_85_65 : aIns 85 65 = some (.getfield 43, 3, 8, 5, .null) := by decide +kernel
theorem i_85_68 : aIns 85 68 = some (.bipush 10, 2, 0, 0, .int (10)) := by decide +kernel
theorem i_85_70 : aIns 85 70 = some (.imul, 1, 0, 0, .null) := by decide +kernel
theorem i_85_71 : aIns 85 71 = some (.aload_n 0, 1, 0, 0, .null) := by decide +kernel
theorem i_85_72 : aIns 85 72 = some (.getfield 9, 3, 8, 0, .null) := by decide +kernel
theorem i_85_75 : aIns 85 75 = some (.aload_n 0, 1, 0, 0, .null) := by decide +kernel
theorem i_85_76 : aIns 85 76 = some (.getfield 19, 3, 8, 2, .null) := by decide +kernel
theorem i_85_79 : aIns 85 79 = some (.baload, 1, 0, 0, .null) := by decide +kernel
theorem i_85_80 : aIns 85 80 = some (.iadd, 1, 0, 0, .null) := by decide +kernel
theorem i_85_81 : aIns 85 81 = some (.bipush 48, 2, 0, 0, .int (48)) := by decide +kernel
theorem i_85_83 : aIns 85 83 = some (.isub, 1, 0, 0, .null) := by decide +kernel
theorem i_85_84 : aIns 85 84 = some (.goto 5, 3, 0, 0, .null) := by decide +kernel
theorem i_85_87 : aIns 85 87 = some (.ldc 46, 2, 0, 0, .int (100000)) := by decide +kernel
theorem i_85_89 : aIns 85 89 = some (.putfield 43, 3, 8, 5, .null) := by decide +kernel
theorem i_85_92 : aIns 85 92 = some (.aload_n 0, 1, 0, 0, .null) := by decide +kernel
theorem i_85_93 : aIns 85 93 = some (.dup, 1, 0, 0, .null) := by decide +kernel
theorem i_85_94 : aIns 85 94 = some (.getfield 19, 3, 8, 2, .null) := by decide +kernel
theorem i_85_97 : aIns 85 97 = some (.iconst 1, 1, 0, 0, .int (1)) := by decide +kernel
theorem i_85_98 : aIns 85 98 = some (.iadd, 1, 0, 0, .null) := by decide +kernel
theorem i_85_99 : aIns 85 99 = some (.putfield 19, 3, 8, 2, .null) := by decide +kernel
theorem i_85_102 : aIns 85 102 = some (.goto (-91), 3, 0, 0, .null) := by decide +kernel
theorem i_85_105 : aIns 85 105 = some (.return_, 1, 0, 0, .null) := by decide +kernel
theorem i_86_0 : aIns 86 0 = some (.aload_n 0, 1, 0, 0, .null) := by decide +kernel
theorem i_86_1 : aIns 86 1 = some (.getfield 19, 3, 8, 2, .null) := by decide +kernel
theorem i_86_4 : aIns 86 4 = some (.aload_n 0, 1, 0, 0, .null) := by decide +kernel
theorem i_86_5 : aIns 86 5 = some (.getfield 15, 3, 8, 1, .null) := by decide +kernel
theorem i_86_8 : aIns 86 8 = some (.if_icmp .ge 44, 3, 0, 0, .null) := by decide +kernel
theorem i_86_11 : aIns 86 11 = some (.aload_n 0, 1, 0, 0, .null) := by decide +kernel
theorem i_86_12 : aIns 86 12 = some (.getfield 9, 3, 8, 0, .null) := by decide +kernel
theorem i_86_15 : aIns 86 15 = some (.aload_n 0, 1, 0, 0, .null) := by decide +kernel
theorem i_86_16 : aIns 86 16 = some (.getfield 19, 3, 8, 2, .null) := by decide +kernel
theorem i_86_19 : aIns 86 19 = some (.baload, 1, 0, 0, .null) := by decide +kernel
theorem i_86_20 : aIns 86 20 = some (.bipush 97, 2, 0, 0, .int (97)) := by decide +kernel
theorem i_86_22 : aIns 86 22 = some (.if_icmp .lt 30, 3, 0, 0, .null) := by decide +kernel
theorem i_86_25 : aIns 86 25 = some (.aload_n 0, 1, 0, 0, .null) := by decide +kernel
theorem i_86_26 : aIns 86 26 = some (.getfield 9, 3, 8, 0, .null) := by decide +kernel
theorem i_86_29 : aIns 86 29 = some (.aload_n 0, 1, 0, 0, .null) := by decide +kernel
theorem i_86_30 : aIns 86 30 = some (.getfield 19, 3, 8, 2, .null) := by decide +kernel
theorem i_86_33 : aIns 86 33 = some (.baload, 1, 0, 0, .null) := by decide +kernel
theorem i_86_34 : aIns 86 34 = some (.bipush 122, 2, 0, 0, .int (122)) := by decide +kernel
theorem i_86_36 : aIns 86 36 = some (.if_icmp .gt 16, 3, 0, 0, .null) := by decide +kernel
theorem i_86_39 : aIns 86 39 = some (.aload_n 0, 1, 0, 0, .null) := by decide +kernel
theorem i_86_40 : aIns 86 40 = some (.dup, 1, 0, 0, .null) := by decide +kernel
theorem i_86_41 : aIns 86 41 = some (.getfield 19, 3, 8, 2, .null) := by decide +kernel
theorem i_86_44 : aIns 86 44 = some (.iconst 1, 1, 0, 0, .int (1)) := by decide +kernel
theorem i_86_45 : aIns 86 45 = some (.iadd, 1, 0, 0, .null) := by decide +kernel
theorem i_86_46 : aIns 86 46 = some (.putfield 19, 3, 8, 2, .null) := by decide +kernel
theorem i_86_49 : aIns 86 49 = some (.goto (-49), 3, 0, 0, .null) := by decide +kernel
theorem i_86_52 : aIns 86 52 = some (.aload_n 0, 1, 0, 0, .null) := by decide +kernel
theorem i_86_53 : aIns 86 53 = some (.bipush 22, 2, 0, 0, .int (22)) := by decide +kernel
theorem i_86_55 : aIns 86 55 = some (.putfield 31, 3, 8, 3, .null) := by decide +kernel
theorem i_86_58 : aIns 86 58 = some (.aload_n 0, 1, 0, 0, .null) := by decide +kernel
theorem i_86_59 : aIns 86 59 = some (.getfield 19, 3, 8, 2, .null) := by decide +kernel
theorem i_86_62 : aIns 86 62 = some (.aload_n 0, 1, 0, 0, .null) := by decide +kernel
theorem i_86_63 : aIns 86 63 = some (.getfield 28, 3, 8, 4, .null) := by decide +kernel
theorem i_86_66 : aIns 86 66 = some (.isub, 1, 0, 0, .null) := by decide +kernel
theorem i_86_67 : aIns 86 67 = some (.istore_n 1, 1, 0, 0, .null) := by decide +kernel
theorem i_86_68 : aIns 86 68 = some (.iconst 0, 1, 0, 0, .int (0)) := by decide +kernel
theorem i_86_69 : aIns 86 69 = some (.istore_n 2, 1, 0, 0, .null) := by decide +kernel
theorem i_86_70 : aIns 86 70 = some (.iload_n 2, 1, 0, 0, .null) := by decide +kernel
theorem i_86_71 : aIns 86 71 = some (.bipush 20, 2, 0, 0, .int (20)) := by decide +kernel
theorem i_86_73 : aIns 86 73 = some (.if_icmp .ge 84, 3, 0, 0, .null) := by decide +kernel
theorem i_86_76 : aIns 86 76 = some (.iload_n 1, 1, 0, 0, .null) := by decide +kernel
theorem i_86_77 : aIns 86 77 = some (.bipush 8, 2, 0, 0, .int (8)) := by decide +kernel
theorem i_86_79 : aIns 86 79 = some (.if_icmp .ge 78, 3, 0, 0, .null) := by decide +kernel
theorem i_86_82 : aIns 86 82 = some (.iload_n 2, 1, 0, 0, .null) := by decide +kernel
theorem i_86_83 : aIns 86 83 = some (.bipush 8, 2, 0, 0, .int (8)) := by decide +kernel
theorem i_86_85 : aIns 86 85 = some (.imul, 1, 0, 0, .null) := by decide +kernel
theorem i_86_86 : aIns 86 86 = some (.istore_n 3, 1, 0, 0, .null) := by decide +kernel
theorem i_86_87 : aIns 86 87 = some (.iconst 0, 1, 0, 0, .int (0)) := by decide +kernel
theorem i_86_88 : aIns 86 88 = some (.istore 4, 2, 0, 0, .null) := by decide +kernel
theorem i_86_90 : aIns 86 90 = some (.iload 4, 2, 0, 0, .null) := by decide +kernel
theorem i_86_92 : aIns 86 92 = some (.iload_n 1, 1, 0, 0, .null) := by decide +kernel
theorem i_86_93 : aIns 86 93 = some (.if_icmp .ge 33, 3, 0, 0, .null) := by decide +kernel
theorem i_86_96 : aIns 86 96 = some (.ldc 47, 2, 0, 0, .float 0) := by decide +kernel
theorem i_86_98 : aIns 86 98 = some (.iload_n 3, 1, 0, 0, .null) := by decide +kernel
theorem i_86_99 : aIns 86 99 = some (.iload 4, 2, 0, 0, .null) := by decide +kernel
theorem i_86_101 : aIns 86 101 = some (.iadd, 1, 0, 0, .null) := by decide +kernel
theorem i_86_102 : aIns 86 102 = some (.invokevirtual 49, 3, 1000, 0, .null) := by decide +kernel
theorem i_86_105 : aIns 86 105 = some (.aload_n 0, 1, 0, 0, .null) := by decide +kernel
theorem i_86_106 : aIns 86 106 = some (.getfield 9, 3, 8, 0, .null) := by decide +kernel
theorem i_86_109 : aIns 86 109 = some (.aload_n 0, 1, 0, 0, .null) := by decide +kernel
theorem i_86_110 : aIns 86 110 = some (.getfield 28, 3, 8, 4, .null) := by decide +kernel
theorem i_86_113 : aIns 86 113 = some (.iload 4, 2, 0, 0, .null) := by decide +kernel
theorem i_86_115 : aIns 86 115 = some (.iadd, 1, 0, 0, .null) := by decide +kernel
theorem i_86_116 : aIns 86 116 = some (.baload, 1, 0, 0, .null) := by decide +kernel
theorem i_86_117 : aIns 86 117 = some (.if_icmp .ne 9, 3, 0, 0, .null) := by decide +kernel
theorem i_86_120 : aIns 86 120 = some (.iinc 4 1, 3, 0, 0, .null) := by decide +kernel
theorem i_86_123 : aIns 86 123 = some (.goto (-33), 3, 0, 0, .null) := by decide +kernel
theorem i_86_126 : aIns 86 126 = some (.iload 4, 2, 0, 0, .null) := by decide +kernel
theorem i_86_128 : aIns 86 128 = some (.iload_n 1, 1, 0, 0, .null) := by decide +kernel
theorem i_86_129 : aIns 86 129 = some (.if_icmp .ne 22, 3, 0, 0, .null) := by decide +kernel
theorem i_86_132 : aIns 86 132 = some (.ldc 47, 2, 0, 0, .float 0) := by decide +kernel
theorem i_86_134 : aIns 86 134 = some (.iload_n 3, 1, 0, 0, .null) := by decide +kernel
theorem i_86_135 : aIns 86 135 = some (.iload 4, 2, 0, 0, .null) := by decide +kernel
theorem i_86_137 : aIns 86 137 = some (.iadd, 1, 0, 0, .null) := by decide +kernel
theorem i_86_138 : aIns 86 138 = some (.invokevirtual 49, 3, 1000, 0, .null) := by decide +kernel
theorem i_86_141 : aIns 86 141 = some (.bipush 32, 2, 0, 0, .int (32)) := by decide +kernel
theorem i_86_143 : aIns 86 143 = some (.if_icmp .ne 8, 3, 0, 0, .null) := by decide +kernel
theorem i_86_146 : aIns 86 146 = some (.aload_n 0, 1, 0, 0, .null) := by decide +kernel
theorem i_86_147 : aIns 86 147 = some (.iload_n 2, 1, 0, 0, .null) := by decide +kernel
theorem i_86_148 : aIns 86 148 = some (.putfield 31, 3, 8, 3, .null) := by decide +kernel
theorem i_86_151 : aIns 86 151 = some (.iinc 2 1, 3, 0, 0, .null) := by decide +kernel
theorem i_86_154 : aIns 86 154 = some (.goto (-84), 3, 0, 0, .null) := by decide +kernel
theorem i_86_157 : aIns 86 157 = some (.return_, 1, 0, 0, .null) := by decide +kernel
theorem i_87_0 : aIns 87 0 = some (.aload_n 0, 1, 0, 0, .null) := by decide +kernel
theorem i_87_1 : aIns 87 1 = some (.getfield 19, 3, 8, 2, .null) := by decide +kernel
theorem i_87_4 : aIns 87 4 = some (.iconst 1, 1, 0, 0, .int (1)) := by decide +kernel
theorem i_87_5 : aIns 87 5 = some (.iadd, 1, 0, 0, .null) := by decide +kernel
theorem i_87_6 : aIns 87 6 = some (.aload_n 0, 1, 0, 0, .null) := by decide +kernel
theorem i_87_7 : aIns 87 7 = some (.getfield 15, 3, 8, 1, .null) := by decide +kernel
theorem i_87_10 : aIns 87 10 = some (.if_icmp .ge 23, 3, 0, 0, .null) := by decide +kernel
theorem i_87_13 : aIns 87 13 = some (.aload_n 0, 1, 0, 0, .null) := by decide +kernel
theorem i_87_14 : aIns 87 14 = some (.getfield 9, 3, 8, 0, .null) := by decide +kernel
theorem i_87_17 : aIns 87 17 = some (.aload_n 0, 1, 0, 0, .null) := by decide +kernel
theorem i_87_18 : aIns 87 18 = some (.getfield 19, 3, 8, 2, .null) := by decide +kernel
theorem i_87_21 : aIns 87 21 = some (.iconst 1, 1, 0, 0, .int (1)) := by decide +kernel
theorem i_87_22 : aIns 87 22 = some (.iadd, 1, 0, 0, .null) := by decide +kernel
theorem i_87_23 : aIns 87 23 = some (.baload, 1, 0, 0, .null) := by decide +kernel
theorem i_87_24 : aIns 87 24 = some (.bipush 61, 2, 0, 0, .int (61)) := by decide +kernel
theorem i_87_26 : aIns 87 26 = some (.if_icmp .ne 7, 3, 0, 0, .null) := by decide +kernel
theorem i_87_29 : aIns 87 29 = some (.iconst 1, 1, 0, 0, .int (1)) := by decide +kernel
theorem i_87_30 : aIns 87 30 = some (.goto 4, 3, 0, 0, .null) := by decide +kernel
theorem i_87_33 : aIns 87 33 = some (.iconst 0, 1, 0, 0, .int (0)) := by decide +kernel
theorem i_87_34 : aIns 87 34 = some (.istore_n 1, 1, 0, 0, .null) := by decide +kernel
theorem i_87_35 : aIns 87 35 = some (.aload_n 0, 1, 0, 0, .null) := by decide +kernel
theorem i_87_36 : aIns 87 36 = some (.getfield 9, 3, 8, 0, .null) := by decide +kernel
theorem i_87_39 : aIns 87 39 = some (.aload_n 0, 1, 0, 0, .null) := by decide +kernel
theorem i_87_40 : aIns 87 40 = some (.getfield 19, 3, 8, 2, .null) := by decide +kernel
theorem i_87_43 : aIns 87 43 = some (.baload, 1, 0, 0, .null) := by decide +kernel
theorem i_87_44 : aIns 87 44 = some (.lookupswitch 217 #[(37, 163), (42, 145), (43, 127), (45, 136), (47, 154), (59, 100), (60, 172), (61, 190), (62, 199), (91, 109), (93, 118)], 100, 0, 0, .null) := by decide +kernel
theorem i_87_144 : aIns 87 144 = some (.aload_n 0, 1, 0, 0, .null) := by decide +kernel
theorem i_87_145 : aIns 87 145 = some (.bipush 23, 2, 0, 0, .int (23)) := by decide +kernel
theorem i_87_147 : aIns 87 147 = some (.putfield 31, 3, 8, 3, .null) := by decide +kernel
theorem i_87_150 : aIns 87 150 = some (.goto 117, 3, 0, 0, .null) := by decide +kernel
theorem i_87_153 : aIns 87 153 = some (.aload_n 0, 1, 0, 0, .null) := by decide +kernel
theorem i_87_154 : aIns 87 154 = some (.bipush 24, 2, 0, 0, .int (24)) := by decide +kernel
theorem i_87_156 : aIns 87 156 = some (.putfield 31, 3, 8, 3, .null) := by decide +kernel
theorem i_87_159 : aIns 87 159 = some (.goto 108, 3, 0, 0, .null) := by decide +kernel
theorem i_87_162 : aIns 87 162 = some (.aload_n 0, 1, 0, 0, .null) := by decide +kernel
theorem i_87_163 : aIns 87 163 = some (.bipush 25, 2, 0, 0, .int (25)) := by decide +kernel
theorem i_87_165 : aIns 87 165 = some (.putfield 31, 3, 8, 3, .null) := by decide +kernel
theorem i_87_168 : aIns 87 168 = some (.goto 99, 3, 0, 0, .null) := by decide +kernel
theorem i_87_171 : aIns 87 171 = some (.aload_n 0, 1, 0, 0, .null) := by decide +kernel
theorem i_87_172 : aIns 87 172 = some (.bipush 26, 2, 0, 0, .int (26)) := by decide +kernel
theorem i_87_174 : aIns 87 174 = some (.putfield 31, 3, 8, 3, .null) := by decide +kernel
theorem i_87_177 : aIns 87 177 = some (.goto 90, 3, 0, 0, .null) := by decide +kernel
theorem i_87_180 : aIns 87 180 = some (.aload_n 0, 1, 0, 0, .null) := by decide +kernel
theorem i_87_181 : aIns 87 181 = some (.bipush 27, 2, 0, 0, .int (27)) := by decide +kernel
theorem i_87_183 : aIns 87 183 = some (.putfield 31, 3, 8, 3, .null) := by decide +kernel
theorem i_87_186 : aIns 87 186 = some (.goto 81, 3, 0, 0, .null) := by decide +kernel
theorem i_87_189 : aIns 87 189 = some (.aload_n 0, 1, 0, 0, .null) := by decide +kernel
theorem i_87_190 : aIns 87 190 = some (.bipush 28, 2, 0, 0, .int (28)) := by decide +kernel
theorem i_87_192 : aIns 87 192 = some (.putfield 31, 3, 8, 3, .null) := by decide +kernel
theorem i_87_195 : aIns 87 195 = some (.goto 72, 3, 0, 0, .null) := by decide +kernel
theorem i_87_198 : aIns 87 198 = some (.aload_n 0, 1, 0, 0, .null) := by decide +kernel
theorem i_87_199 : aIns 87 199 = some (.bipush 29, 2, 0, 0, .int (29)) := by decide +kernel
theorem i_87_201 : aIns 87 201 = some (.putfield 31, 3, 8, 3, .null) := by decide +kernel
theorem i_87_204 : aIns 87 204 = some (.goto 63, 3, 0, 0, .null) := by decide +kernel
theorem i_87_207 : aIns 87 207 = some (.aload_n 0, 1, 0, 0, .null) := by decide +kernel
theorem i_87_208 : aIns 87 208 = some (.bipush 30, 2, 0, 0, .int (30)) := by decide +kernel
theorem i_87_210 : aIns 87 210 = some (.putfield 31, 3, 8, 3, .null) := by decide +kernel
theorem i_87_213 : aIns 87 213 = some (.goto 54, 3, 0, 0, .null) := by decide +kernel
theorem i_87_216 : aIns 87 216 = some (.aload_n 0, 1, 0, 0, .null) := by decide +kernel
theorem i_87_217 : aIns 87 217 = some (.iload_n 1, 1, 0, 0, .null) := by decide +kernel
theorem i_87_218 : aIns 87 218 = some (.ifCond .eq 8, 3, 0, 0, .null) := by decide +kernel
theorem i_87_221 : aIns 87 221 = some (.bipush 32, 2, 0, 0, .int (32)) := by decide +kernel
theorem i_87_223 : aIns 87 223 = some (.goto 5, 3, 0, 0, .null) := by decide +kernel
theorem i_87_226 : aIns 87 226 = some (.bipush 31, 2, 0, 0, .int (31)) := by decide +kernel
theorem i_87_228 : aIns 87 228 = some (.putfield 31, 3, 8, 3, .null) := by decide +kernel
theorem i_87_231 : aIns 87 231 = some (.goto 36, 3, 0, 0, .null) := by decide +kernel
theorem i_87_234 : aIns 87 234 = some (.aload_n 0, 1, 0, 0, .null) := by decide +kernel
theorem i_87_235 : aIns 87 235 = some (.bipush 33, 2, 0, 0, .int (33)) := by decide +kernel
theorem i_87_237 : aIns 87 237 = some (.putfield 31, 3, 8, 3, .null) := by decide +kernel
theorem i_87_240 : aIns 87 240 = some (.goto 27, 3, 0, 0, .null) := by decide +kernel
theorem i_87_243 : aIns 87 243 = some (.aload_n 0, 1, 0, 0, .null) := by decide +kernel
theorem i_87_244 : aIns 87 244 = some (.iload_n 1, 1, 0, 0, .null) := by decide +kernel
theorem i_87_245 : aIns 87 245 = some (.ifCond .eq 8, 3, 0, 0, .null) := by decide +kernel
theorem i_87_248 : aIns 87 248 = some (.bipush 34, 2, 0, 0, .int (34)) := by decide +kernel
theorem i_87_250 : aIns 87 250 = some (.goto 5, 3, 0, 0, .null) := by decide +kernel
theorem i_87_253 : aIns 87 253 = some (.bipush 35, 2, 0, 0, .int (35)) := by decide +kernel
theorem i_87_255 : aIns 87 255 = some (.putfield 31, 3, 8, 3, .null) := by decide +kernel
theorem i_87_258 : aIns 87 258 = some (.goto 9, 3, 0, 0, .null) := by decide +kernel
theorem i_87_261 : aIns 87 261 = some (.aload_n 0, 1, 0, 0, .null) := by decide +kernel
theorem i_87_262 : aIns 87 262 = some (.bipush 22, 2, 0, 0, .int (22)) := by decide +kernel
theorem i_87_264 : aIns 87 264 = some (.putfield 31, 3, 8, 3, .null) := by decide +kernel
theorem i_87_267 : aIns 87 267 = some (.aload_n 0, 1, 0, 0, .null) := by decide +kernel
theorem i_87_268 : aIns 87 268 = some (.dup, 1, 0, 0, .null) := by decide +kernel
theorem i_87_269 : aIns 87 269 = some (.getfield 19, 3, 8, 2, .null) := by decide +kernel
theorem i_87_272 : aIns 87 272 = some (.aload_n 0, 1, 0, 0, .null) := by decide +kernel
theorem i_87_273 : aIns 87 273 = some (.getfield 31, 3, 8, 3, .null) := by decide +kernel
theorem i_87_276 : aIns 87 276 = some (.bipush 32, 2, 0, 0, .int (32)) := by decide +kernel
theorem i_87_278 : aIns 87 278 = some (.if_icmp .eq 12, 3, 0, 0, .null) := by decide +kernel
theorem i_87_281 : aIns 87 281 = some (.aload_n 0, 1, 0, 0, .null) := by decide +kernel
theorem i_87_282 : aIns 87 282 = some (.getfield 31, 3, 8, 3, .null) := by decide +kernel
theorem i_87_285 : aIns 87 285 = some (.bipush 34, 2, 0, 0, .int (34)) := by decide +kernel
theorem i_87_287 : aIns 87 287 = some (.if_icmp .ne 7, 3, 0, 0, .null) := by decide +kernel
theorem i_87_290 : aIns 87 290 = some (.iconst 2, 1, 0, 0, .int (2)) := by decide +kernel
theorem i_87_291 : aIns 87 291 = some (.goto 4, 3, 0, 0, .null) := by decide +kernel
theorem i_87_294 : aIns 87 294 = some (.iconst 1, 1, 0, 0, .int (1)) := by decide +kernel
theorem i_87_295 : aIns 87 295 = some (.iadd, 1, 0, 0, .null) := by decide +kernel
theorem i_87_296 : aIns 87 296 = some (.putfield 19, 3, 8, 2, .null) := by decide +kernel
theorem i_87_299 : aIns 87 299 = some (.return_, 1, 0, 0, .null) := by decide +kernel
def l_39 (g n tag : Nat) (a0 : Nat) (x1 : Int32) (x2 : Int32) (h0 : aH) : Option (aH) := match n with
  | 0 => none
  | n + 1 => if tag = 0 then ((gR h0 a0 2 0).bind (fun f_1 => ((gR h0 f_1 10 0).bind (fun f_3 => ((gI h0 f_3 5 4).bind (fun f_5 => (if f_5 ≤ x2 then ((gI h0 a0 2 18).bind (fun f_8 => ((gR h0 a0 2 1).bind (fun f_10 => (if isO h0 f_10 9 = true then ((d_95 g f_10 x1 h0).bind (fun z_15 => ((sF z_15.2 a0 2 18 (.int (f_8 + z_15.1))).bind (fun h_19 => ((gI h_19 a0 2 19).bind (fun f_21 => ((gR h_19 a0 2 10).bind (fun f_23 => (if isO h_19 f_23 7 = true then ((d_73 g f_23 h_19).bind (fun z_28 => ((sF z_28.2 a0 2 19 (.int (f_21 + z_28.1))).bind (fun h_32 => ((gR h_32 a0 2 10).bind (fun f_34 => (if isO h_32 f_34 7 = true then ((d_79 g f_34 h_32).bind (fun z_39 => some z_39)) else none))))))) else none))))))))) else none))))) else ((gR h0 a0 2 10).bind (fun f_43 => ((gR h0 f_43 7 0).bind (fun f_45 => ((gA h0 f_45 x2).bind (fun f_47 => (if f_47 ≤ 0 then (l_39 g n 1 a0 x1 x2 h0) else ((gR h0 a0 2 10).bind (fun f_50 => ((gR h0 f_50 7 0).bind (fun f_52 => ((gA h0 f_52 x2).bind (fun f_54 => ((gR h0 a0 2 1).bind (fun f_56 => ((gR h0 a0 2 10).bind (fun f_58 => ((gR h0 a0 2 0).bind (fun f_60 => ((gI h0 f_60 10 2).bind (fun f_62 => ((gR h0 a0 2 10).bind (fun f_64 => ((gI h0 f_64 7 13).bind (fun f_66 => ((gR h0 a0 2 10).bind (fun f_68 => ((gR h0 f_68 7 3).bind (fun f_70 => ((gA h0 f_70 x2).bind (fun f_72 => (if isO h0 f_56 9 = true then ((d_89 g f_56 f_58 f_62 x2 f_66 f_72 h0).bind (fun z_77 => (l_39 g n 1 a0 (x1 + (f_54 * z_77.1)) x2 z_77.2))) else none))))))))))))))))))))))))))))))))))))))) else if tag = 1 then (l_39 g n 0 a0 x1 (x2 + (1 : Int32)) h0) else none
set_option maxHeartbeats 4000000 in
set_option maxRecDepth 100000 in
theorem l_39_ok {X : aX} {g : Nat} {d : Nat} (hdp : 4 ≤ d) : ∀ n, (∀ (a0 : Nat) (x1 : Int32) (x2 : Int32) (h0 : aH) (zz : aH), l_39 g n 0 a0 x1 x2 h0 = some zz → aWp X d 39 4 [some (.ref a0), some (.int x1), some (.int x2)] [] h0 (fun w h' => w = none ∧ h' = zz)) ∧ (∀ (a0 : Nat) (x1 : Int32) (x2 : Int32) (h0 : aH) (zz : aH), l_39 g n 1 a0 x1 x2 h0 = some zz → aWp X d 39 78 [some (.ref a0), some (.int x1), some (.int x2)] [] h0 (fun w h' => w = none ∧ h' = zz)) := by
  intro n
  induction n with
  | zero => exact ⟨fun _ _ _ _ _ hd => by simp [l_39] at hd, fun _ _ _ _ _ hd => by simp [l_39] at hd⟩
  | succ n ih =>
    refine ⟨?_, ?_⟩
    · intro a0 x1 x2 h0 zz hd
      unfold l_39 at hd
      rw [if_pos rfl] at hd
      obtain ⟨e, rfl⟩ : ∃ e, d = e + 1 := ⟨d - 1, by omega⟩
      refine wp_s 5 [some (.ref a0), some (.int x1), some (.int x2)] [.int x2] h0 i_39_4 rfl ?_
      refine wp_s 6 [some (.ref a0), some (.int x1), some (.int x2)] [.ref a0, .int x2] h0 i_39_5 rfl ?_
      obtain ⟨f_1, q_2, hd⟩ := dk_bind hd
      refine hp_gR 9 rfl i_39_6 q_2 ?_
      obtain ⟨f_3, q_4, hd⟩ := dk_bind hd
      refine hp_gR 12 rfl i_39_9 q_4 ?_
      obtain ⟨f_5, q_6, hd⟩ := dk_bind hd
      refine hp_gI 15 rfl i_39_12 q_6 ?_
      refine wp_cmp_ge 84 18 rfl rfl i_39_15 (fun c_7 => ?_) (fun c_7 => ?_)
      · rw [if_pos c_7] at hd
        refine wp_s 85 [some (.ref a0), some (.int x1), some (.int x2)] [.ref a0] h0 i_39_84 rfl ?_
        refine wp_s 86 [some (.ref a0), some (.int x1), some (.int x2)] [.ref a0, .ref a0] h0 i_39_85 rfl ?_
        obtain ⟨f_8, q_9, hd⟩ := dk_bind hd
        refine hp_gI 89 rfl i_39_86 q_9 ?_
        refine wp_s 90 [some (.ref a0), some (.int x1), some (.int x2)] [.ref a0, .int f_8, .ref a0] h0 i_39_89 rfl ?_
        obtain ⟨f_10, q_11, hd⟩ := dk_bind hd
        refine hp_gR 93 rfl i_39_90 q_11 ?_
        refine wp_s 94 [some (.ref a0), some (.int x1), some (.int x2)] [.int x1, .ref f_10, .int f_8, .ref a0] h0 i_39_93 rfl ?_
        obtain ⟨k_12, hd⟩ := dk_if hd
        obtain ⟨fs_13, o_14⟩ := isO_of k_12
        obtain ⟨z_15, q_16, hd⟩ := dk_bind hd
        refine wp_callV 97 rfl i_39_94 (by decide) rfl (vs := [.int x1]) (rest := [.int f_8, .ref a0]) rfl rfl rfl o_14 (y := m_95) rfl (Nat.le_of_ble_eq_true rfl) (d_95_ok (d := e) (by omega) q_16) ?_
        rintro v_17 h_18 ⟨rfl, rfl⟩
        refine wp_s 98 [some (.ref a0), some (.int x1), some (.int x2)] [.int (f_8 + z_15.1), .ref a0] z_15.2 i_39_97 rfl ?_
        obtain ⟨h_19, q_20, hd⟩ := dk_bind hd
        refine hp_sF 101 rfl i_39_98 q_20 ?_
        refine wp_s 102 [some (.ref a0), some (.int x1), some (.int x2)] [.ref a0] h_19 i_39_101 rfl ?_
        refine wp_s 103 [some (.ref a0), some (.int x1), some (.int x2)] [.ref a0, .ref a0] h_19 i_39_102 rfl ?_
        obtain ⟨f_21, q_22, hd⟩ := dk_bind hd
        refine hp_gI 106 rfl i_39_103 q_22 ?_
        refine wp_s 107 [some (.ref a0), some (.int x1), some (.int x2)] [.ref a0, .int f_21, .ref a0] h_19 i_39_106 rfl ?_
        obtain ⟨f_23, q_24, hd⟩ := dk_bind hd
        refine hp_gR 110 rfl i_39_107 q_24 ?_
        obtain ⟨k_25, hd⟩ := dk_if hd
        obtain ⟨fs_26, o_27⟩ := isO_of k_25
        obtain ⟨z_28, q_29, hd⟩ := dk_bind hd
        refine wp_callV 113 rfl i_39_110 (by decide) rfl (vs := []) (rest := [.int f_21, .ref a0]) rfl rfl rfl o_27 (y := m_73) rfl (Nat.le_of_ble_eq_true rfl) (d_73_ok (d := e) (by omega) q_29) ?_
        rintro v_30 h_31 ⟨rfl, rfl⟩
        refine wp_s 114 [some (.ref a0), some (.int x1), some (.int x2)] [.int (f_21 + z_28.1), .ref a0] z_28.2 i_39_113 rfl ?_
        obtain ⟨h_32, q_33, hd⟩ := dk_bind hd
        refine hp_sF 117 rfl i_39_114 q_33 ?_
        refine wp_s 118 [some (.ref a0), some (.int x1), some (.int x2)] [.ref a0] h_32 i_39_117 rfl ?_
        obtain ⟨f_34, q_35, hd⟩ := dk_bind hd
        refine hp_gR 121 rfl i_39_118 q_35 ?_
        obtain ⟨k_36, hd⟩ := dk_if hd
        obtain ⟨fs_37, o_38⟩ := isO_of k_36
        obtain ⟨z_39, q_40, hd⟩ := dk_bind hd
        refine wp_callV 124 rfl i_39_121 (by decide) rfl (vs := []) (rest := []) rfl rfl rfl o_38 (y := m_79) rfl (Nat.le_of_ble_eq_true rfl) (d_79_ok (d := e) (by omega) q_40) ?_
        rintro v_41 h_42 ⟨rfl, hz⟩
        have hz := hz.symm
        subst hz
        obtain rfl := Option.some.inj hd
        exact wp_ret i_39_124 rfl ⟨rfl, rfl⟩
      · rw [if_neg c_7] at hd
        refine wp_s 19 [some (.ref a0), some (.int x1), some (.int x2)] [.ref a0] h0 i_39_18 rfl ?_
        obtain ⟨f_43, q_44, hd⟩ := dk_bind hd
        refine hp_gR 22 rfl i_39_19 q_44 ?_
        obtain ⟨f_45, q_46, hd⟩ := dk_bind hd
        refine hp_gR 25 rfl i_39_22 q_46 ?_
        refine wp_s 26 [some (.ref a0), some (.int x1), some (.int x2)] [.int x2, .ref f_45] h0 i_39_25 rfl ?_
        obtain ⟨f_47, q_48, hd⟩ := dk_bind hd
        refine hp_gA 27 rfl i_39_26 q_48 ?_
        refine wp_if_le 78 30 rfl rfl i_39_27 (fun c_49 => ?_) (fun c_49 => ?_)
        · rw [if_pos c_49] at hd
          exact aWp.forget (ih.2 _ _ _ _ _ hd) (lvS (lvS (lvS lvE)))
        · rw [if_neg c_49] at hd
          refine wp_s 31 [some (.ref a0), some (.int x1), some (.int x2)] [.int x1] h0 i_39_30 rfl ?_
          refine wp_s 32 [some (.ref a0), some (.int x1), some (.int x2)] [.ref a0, .int x1] h0 i_39_31 rfl ?_
          obtain ⟨f_50, q_51, hd⟩ := dk_bind hd
          refine hp_gR 35 rfl i_39_32 q_51 ?_
          obtain ⟨f_52, q_53, hd⟩ := dk_bind hd
          refine hp_gR 38 rfl i_39_35 q_53 ?_
          refine wp_s 39 [some (.ref a0), some (.int x1), some (.int x2)] [.int x2, .ref f_52, .int x1] h0 i_39_38 rfl ?_
          obtain ⟨f_54, q_55, hd⟩ := dk_bind hd
          refine hp_gA 40 rfl i_39_39 q_55 ?_
          refine wp_s 41 [some (.ref a0), some (.int x1), some (.int x2)] [.ref a0, .int f_54, .int x1] h0 i_39_40 rfl ?_
          obtain ⟨f_56, q_57, hd⟩ := dk_bind hd
          refine hp_gR 44 rfl i_39_41 q_57 ?_
          refine wp_s 45 [some (.ref a0), some (.int x1), some (.int x2)] [.ref a0, .ref f_56, .int f_54, .int x1] h0 i_39_44 rfl ?_
          obtain ⟨f_58, q_59, hd⟩ := dk_bind hd
          refine hp_gR 48 rfl i_39_45 q_59 ?_
          refine wp_s 49 [some (.ref a0), some (.int x1), some (.int x2)] [.ref a0, .ref f_58, .ref f_56, .int f_54, .int x1] h0 i_39_48 rfl ?_
          obtain ⟨f_60, q_61, hd⟩ := dk_bind hd
          refine hp_gR 52 rfl i_39_49 q_61 ?_
          obtain ⟨f_62, q_63, hd⟩ := dk_bind hd
          refine hp_gI 55 rfl i_39_52 q_63 ?_
          refine wp_s 56 [some (.ref a0), some (.int x1), some (.int x2)] [.int x2, .int f_62, .ref f_58, .ref f_56, .int f_54, .int x1] h0 i_39_55 rfl ?_
          refine wp_s 57 [some (.ref a0), some (.int x1), some (.int x2)] [.ref a0, .int x2, .int f_62, .ref f_58, .ref f_56, .int f_54, .int x1] h0 i_39_56 rfl ?_
          obtain ⟨f_64, q_65, hd⟩ := dk_bind hd
          refine hp_gR 60 rfl i_39_57 q_65 ?_
          obtain ⟨f_66, q_67, hd⟩ := dk_bind hd
          refine hp_gI 63 rfl i_39_60 q_67 ?_
          refine wp_s 64 [some (.ref a0), some (.int x1), some (.int x2)] [.ref a0, .int f_66, .int x2, .int f_62, .ref f_58, .ref f_56, .int f_54, .int x1] h0 i_39_63 rfl ?_
          obtain ⟨f_68, q_69, hd⟩ := dk_bind hd
          refine hp_gR 67 rfl i_39_64 q_69 ?_
          obtain ⟨f_70, q_71, hd⟩ := dk_bind hd
          refine hp_gR 70 rfl i_39_67 q_71 ?_
          refine wp_s 71 [some (.ref a0), some (.int x1), some (.int x2)] [.int x2, .ref f_70, .int f_66, .int x2, .int f_62, .ref f_58, .ref f_56, .int f_54, .int x1] h0 i_39_70 rfl ?_
          obtain ⟨f_72, q_73, hd⟩ := dk_bind hd
          refine hp_gA 72 rfl i_39_71 q_73 ?_
          obtain ⟨k_74, hd⟩ := dk_if hd
          obtain ⟨fs_75, o_76⟩ := isO_of k_74
          obtain ⟨z_77, q_78, hd⟩ := dk_bind hd
          refine wp_callV 75 rfl i_39_72 (by decide) rfl (vs := [.ref f_58, .int f_62, .int x2, .int f_66, .int f_72]) (rest := [.int f_54, .int x1]) rfl rfl rfl o_76 (y := m_89) rfl (Nat.le_of_ble_eq_true rfl) (d_89_ok (d := e) (by omega) q_78) ?_
          rintro v_79 h_80 ⟨rfl, rfl⟩
          refine wp_s 76 [some (.ref a0), some (.int x1), some (.int x2)] [.int (f_54 * z_77.1), .int x1] z_77.2 i_39_75 rfl ?_
          refine wp_s 77 [some (.ref a0), some (.int x1), some (.int x2)] [.int (x1 + (f_54 * z_77.1))] z_77.2 i_39_76 rfl ?_
          refine wp_s 78 [some (.ref a0), some (.int (x1 + (f_54 * z_77.1))), some (.int x2)] [] z_77.2 i_39_77 rfl ?_
          exact aWp.forget (ih.2 _ _ _ _ _ hd) (lvS (lvS (lvS lvE)))
    · intro a0 x1 x2 h0 zz hd
      unfold l_39 at hd
      rw [if_neg (by decide), if_pos rfl] at hd
      obtain ⟨e, rfl⟩ : ∃ e, d = e + 1 := ⟨d - 1, by omega⟩
      refine wp_s 81 [some (.ref a0), some (.int x1), some (.int (x2 + (1 : Int32)))] [] h0 i_39_78 rfl ?_
      refine wp_s 4 [some (.ref a0), some (.int x1), some (.int (x2 + (1 : Int32)))] [] h0 i_39_81 rfl ?_
      exact aWp.forget (ih.1 _ _ _ _ _ hd) (lvS (lvS (lvS lvE)))
def d_39 (g : Nat) (a0 : Nat) (h0 : aH) : Option (aH) := (l_39 g g 0 a0 (0 : Int32) (0 : Int32) h0)
set_option maxHeartbeats 4000000 in
set_option maxRecDepth 100000 in
theorem d_39_ok {X : aX} {g : Nat} {a0 : Nat} {h0 : aH} {zz : aH} {d : Nat} (hdp : 4 ≤ d) (hd : d_39 g a0 h0 = some zz) : aWp X d 39 0 (aEntL [.ref a0] 3) [] h0 (fun w h' => w = none ∧ h' = zz) := by
  unfold d_39 at hd
  refine wp_lv (l2 := [some (.ref a0), none, none]) rfl ?_
  obtain ⟨e, rfl⟩ : ∃ e, d = e + 1 := ⟨d - 1, by omega⟩
  refine wp_s 1 [some (.ref a0), none, none] [.int (0 : Int32)] h0 i_39_0 rfl ?_
  refine wp_s 2 [some (.ref a0), some (.int (0 : Int32)), none] [] h0 i_39_1 rfl ?_
  refine wp_s 3 [some (.ref a0), some (.int (0 : Int32)), none] [.int (0 : Int32)] h0 i_39_2 rfl ?_
  refine wp_s 4 [some (.ref a0), some (.int (0 : Int32)), some (.int (0 : Int32))] [] h0 i_39_3 rfl ?_
  exact aWp.forget ((l_39_ok hdp g).1 _ _ _ _ _ hd) (lvS (lvS (lvS lvE)))
def d_74 (g : Nat) (a0 : Nat) (x1 : Int32) (h0 : aH) : Option (Int32 × aH) := ((gR h0 a0 7 0).bind (fun f_1 => ((gA h0 f_1 x1).bind (fun f_3 => ((gR h0 a0 7 1).bind (fun f_5 => ((gA h0 f_5 x1).bind (fun f_7 => (if f_7 ≤ f_3 then some ((0 : Int32), h0) else (if isO h0 a0 7 = true then ((d_73 g a0 h0).bind (fun z_13 => (if (12 : Int32) ≤ z_13.1 then some ((0 : Int32), z_13.2) else some ((1 : Int32), z_13.2)))) else none))))))))))
set_option maxHeartbeats 4000000 in
set_option maxRecDepth 100000 in
theorem d_74_ok {X : aX} {g : Nat} {a0 : Nat} {x1 : Int32} {h0 : aH} {zz : Int32 × aH} {d : Nat} (hdp : 1 ≤ d) (hd : d_74 g a0 x1 h0 = some zz) : aWp X d 74 0 (aEntL [.ref a0, .int x1] 2) [] h0 (fun w h' => w = some (.int zz.1) ∧ h' = zz.2) := by
  unfold d_74 at hd
  refine wp_lv (l2 := [some (.ref a0), some (.int x1)]) rfl ?_
  obtain ⟨e, rfl⟩ : ∃ e, d = e + 1 := ⟨d - 1, by omega⟩
  refine wp_s 1 [some (.ref a0), some (.int x1)] [.ref a0] h0 i_74_0 rfl ?_
  obtain ⟨f_1, q_2, hd⟩ := dk_bind hd
  refine hp_gR 4 rfl i_74_1 q_2 ?_
  refine wp_s 5 [some (.ref a0), some (.int x1)] [.int x1, .ref f_1] h0 i_74_4 rfl ?_
  obtain ⟨f_3, q_4, hd⟩ := dk_bind hd
  refine hp_gA 6 rfl i_74_5 q_4 ?_
  refine wp_s 7 [some (.ref a0), some (.int x1)] [.ref a0, .int f_3] h0 i_74_6 rfl ?_
  obtain ⟨f_5, q_6, hd⟩ := dk_bind hd
  refine hp_gR 10 rfl i_74_7 q_6 ?_
  refine wp_s 11 [some (.ref a0), some (.int x1)] [.int x1, .ref f_5, .int f_3] h0 i_74_10 rfl ?_
  obtain ⟨f_7, q_8, hd⟩ := dk_bind hd
  refine hp_gA 12 rfl i_74_11 q_8 ?_
  refine wp_cmp_ge 28 15 rfl rfl i_74_12 (fun c_9 => ?_) (fun c_9 => ?_)
  · rw [if_pos c_9] at hd
    refine wp_s 29 [some (.ref a0), some (.int x1)] [.int (0 : Int32)] h0 i_74_28 rfl ?_
    obtain rfl := Option.some.inj hd
    exact wp_iretZ (z := 0) i_74_29 (by decide) ⟨rfl, rfl⟩
  · rw [if_neg c_9] at hd
    refine wp_s 16 [some (.ref a0), some (.int x1)] [.ref a0] h0 i_74_15 rfl ?_
    obtain ⟨k_10, hd⟩ := dk_if hd
    obtain ⟨fs_11, o_12⟩ := isO_of k_10
    obtain ⟨z_13, q_14, hd⟩ := dk_bind hd
    refine wp_callV 19 rfl i_74_16 (by decide) rfl (vs := []) (rest := []) rfl rfl rfl o_12 (y := m_73) rfl (Nat.le_of_ble_eq_true rfl) (d_73_ok (d := e) (by omega) q_14) ?_
    rintro v_15 h_16 ⟨rfl, rfl⟩
    refine wp_s 21 [some (.ref a0), some (.int x1)] [.int (12 : Int32), .int z_13.1] z_13.2 i_74_19 rfl ?_
    refine wp_cmp_ge 28 24 rfl rfl i_74_21 (fun c_17 => ?_) (fun c_17 => ?_)
    · rw [if_pos c_17] at hd
      refine wp_s 29 [some (.ref a0), some (.int x1)] [.int (0 : Int32)] z_13.2 i_74_28 rfl ?_
      obtain rfl := Option.some.inj hd
      exact wp_iretZ (z := 0) i_74_29 (by decide) ⟨rfl, rfl⟩
    · rw [if_neg c_17] at hd
      refine wp_s 25 [some (.ref a0), some (.int x1)] [.int (1 : Int32)] z_13.2 i_74_24 rfl ?_
      refine wp_s 29 [some (.ref a0), some (.int x1)] [.int (1 : Int32)] z_13.2 i_74_25 rfl ?_
      obtain rfl := Option.some.inj hd
      exact wp_iretZ (z := 0) i_74_29 (by decide) ⟨rfl, rfl⟩
def d_75 (g : Nat) (a0 : Nat) (x1 : Int32) (h0 : aH) : Option (aH) := ((gR h0 a0 7 3).bind (fun f_1 => ((gR h0 a0 7 3).bind (fun f_3 => ((gA h0 f_3 x1).bind (fun f_5 => ((sA h0 f_1 x1 (if (f_5 + (1 : Int32)) < (99 : Int32) then (f_5 + (1 : Int32)) else (99 : Int32))).bind (fun h_7 => some h_7))))))))
set_option maxHeartbeats 4000000 in
set_option maxRecDepth 100000 in
theorem d_75_ok {X : aX} {g : Nat} {a0 : Nat} {x1 : Int32} {h0 : aH} {zz : aH} {d : Nat} (hdp : 0 ≤ d) (hd : d_75 g a0 x1 h0 = some zz) : aWp X d 75 0 (aEntL [.ref a0, .int x1] 2) [] h0 (fun w h' => w = none ∧ h' = zz) := by
  unfold d_75 at hd
  refine wp_lv (l2 := [some (.ref a0), some (.int x1)]) rfl ?_
  refine wp_s 1 [some (.ref a0), some (.int x1)] [.ref a0] h0 i_75_0 rfl ?_
  obtain ⟨f_1, q_2, hd⟩ := dk_bind hd
  refine hp_gR 4 rfl i_75_1 q_2 ?_
  refine wp_s 5 [some (.ref a0), some (.int x1)] [.int x1, .ref f_1] h0 i_75_4 rfl ?_
  refine wp_s 7 [some (.ref a0), some (.int x1)] [.int (99 : Int32), .int x1, .ref f_1] h0 i_75_5 rfl ?_
  refine wp_s 8 [some (.ref a0), some (.int x1)] [.ref a0, .int (99 : Int32), .int x1, .ref f_1] h0 i_75_7 rfl ?_
  obtain ⟨f_3, q_4, hd⟩ := dk_bind hd
  refine hp_gR 11 rfl i_75_8 q_4 ?_
  refine wp_s 12 [some (.ref a0), some (.int x1)] [.int x1, .ref f_3, .int (99 : Int32), .int x1, .ref f_1] h0 i_75_11 rfl ?_
  obtain ⟨f_5, q_6, hd⟩ := dk_bind hd
  refine hp_gA 13 rfl i_75_12 q_6 ?_
  refine wp_s 14 [some (.ref a0), some (.int x1)] [.int (1 : Int32), .int f_5, .int (99 : Int32), .int x1, .ref f_1] h0 i_75_13 rfl ?_
  refine wp_s 15 [some (.ref a0), some (.int x1)] [.int (f_5 + (1 : Int32)), .int (99 : Int32), .int x1, .ref f_1] h0 i_75_14 rfl ?_
  refine hp_min 18 rfl i_75_15 rfl ?_
  obtain ⟨h_7, q_8, hd⟩ := dk_bind hd
  refine hp_sA 19 rfl i_75_18 q_8 ?_
  obtain rfl := Option.some.inj hd
  exact wp_ret i_75_19 rfl ⟨rfl, rfl⟩
def j_38_53 (g : Nat) (a0 : Nat) (x1 : Int32) (h0 : aH) : Option (aH) := ((gR h0 a0 2 10).bind (fun f_1 => ((gR h0 a0 2 10).bind (fun f_3 => ((gI h0 f_3 7 13).bind (fun f_5 => ((sF h0 f_1 7 13 (.int (if (f_5 + (1 : Int32)) < (999 : Int32) then (f_5 + (1 : Int32)) else (999 : Int32)))).bind (fun h_7 => some h_7))))))))
set_option maxHeartbeats 4000000 in
set_option maxRecDepth 100000 in
theorem j_38_53_ok {X : aX} {g : Nat} {a0 : Nat} {x1 : Int32} {h0 : aH} {zz : aH} {d : Nat} (hdp : 5 ≤ d) (hd : j_38_53 g a0 x1 h0 = some zz) : aWp X d 38 53 [some (.ref a0), some (.int x1)] [] h0 (fun w h' => w = none ∧ h' = zz) := by
  unfold j_38_53 at hd
  obtain ⟨e, rfl⟩ : ∃ e, d = e + 1 := ⟨d - 1, by omega⟩
  refine wp_s 54 [some (.ref a0), some (.int x1)] [.ref a0] h0 i_38_53 rfl ?_
  obtain ⟨f_1, q_2, hd⟩ := dk_bind hd
  refine hp_gR 57 rfl i_38_54 q_2 ?_
  refine wp_s 60 [some (.ref a0), some (.int x1)] [.int (999 : Int32), .ref f_1] h0 i_38_57 rfl ?_
  refine wp_s 61 [some (.ref a0), some (.int x1)] [.ref a0, .int (999 : Int32), .ref f_1] h0 i_38_60 rfl ?_
  obtain ⟨f_3, q_4, hd⟩ := dk_bind hd
  refine hp_gR 64 rfl i_38_61 q_4 ?_
  obtain ⟨f_5, q_6, hd⟩ := dk_bind hd
  refine hp_gI 67 rfl i_38_64 q_6 ?_
  refine wp_s 68 [some (.ref a0), some (.int x1)] [.int (1 : Int32), .int f_5, .int (999 : Int32), .ref f_1] h0 i_38_67 rfl ?_
  refine wp_s 69 [some (.ref a0), some (.int x1)] [.int (f_5 + (1 : Int32)), .int (999 : Int32), .ref f_1] h0 i_38_68 rfl ?_
  refine hp_min 72 rfl i_38_69 rfl ?_
  obtain ⟨h_7, q_8, hd⟩ := dk_bind hd
  refine hp_sF 75 rfl i_38_72 q_8 ?_
  obtain rfl := Option.some.inj hd
  exact wp_ret i_38_75 rfl ⟨rfl, rfl⟩
def d_38 (g : Nat) (a0 : Nat) (x1 : Int32) (h0 : aH) : Option (aH) := ((gR h0 a0 2 0).bind (fun f_1 => ((gR h0 f_1 10 0).bind (fun f_3 => ((gI h0 f_3 5 4).bind (fun f_5 => (if x1 < f_5 then ((gR h0 a0 2 10).bind (fun f_8 => (if isO h0 f_8 7 = true then ((d_75 g f_8 x1 h0).bind (fun z_13 => ((gR z_13 a0 2 10).bind (fun f_17 => (if isO z_13 f_17 7 = true then ((d_74 g f_17 x1 z_13).bind (fun z_22 => (if z_22.1 = 0 then (j_38_53 g a0 x1 z_22.2) else ((gR z_22.2 a0 2 10).bind (fun f_27 => ((gR z_22.2 f_27 7 0).bind (fun f_29 => ((gA z_22.2 f_29 x1).bind (fun f_31 => ((sA z_22.2 f_29 x1 (f_31 + (1 : Int32))).bind (fun h_33 => (j_38_53 g a0 x1 h_33)))))))))))) else none))))) else none))) else (if isO h0 a0 2 = true then ((d_39 g a0 h0).bind (fun z_38 => (j_38_53 g a0 x1 z_38))) else none))))))))
set_option maxHeartbeats 4000000 in
set_option maxRecDepth 100000 in
theorem d_38_ok {X : aX} {g : Nat} {a0 : Nat} {x1 : Int32} {h0 : aH} {zz : aH} {d : Nat} (hdp : 5 ≤ d) (hd : d_38 g a0 x1 h0 = some zz) : aWp X d 38 0 (aEntL [.ref a0, .int x1] 2) [] h0 (fun w h' => w = none ∧ h' = zz) := by
  unfold d_38 at hd
  refine wp_lv (l2 := [some (.ref a0), some (.int x1)]) rfl ?_
  obtain ⟨e, rfl⟩ : ∃ e, d = e + 1 := ⟨d - 1, by omega⟩
  refine wp_s 1 [some (.ref a0), some (.int x1)] [.int x1] h0 i_38_0 rfl ?_
  refine wp_s 2 [some (.ref a0), some (.int x1)] [.ref a0, .int x1] h0 i_38_1 rfl ?_
  obtain ⟨f_1, q_2, hd⟩ := dk_bind hd
  refine hp_gR 5 rfl i_38_2 q_2 ?_
  obtain ⟨f_3, q_4, hd⟩ := dk_bind hd
  refine hp_gR 8 rfl i_38_5 q_4 ?_
  obtain ⟨f_5, q_6, hd⟩ := dk_bind hd
  refine hp_gI 11 rfl i_38_8 q_6 ?_
  refine wp_cmp_lt 21 14 rfl rfl i_38_11 (fun c_7 => ?_) (fun c_7 => ?_)
  · rw [if_pos c_7] at hd
    refine wp_s 22 [some (.ref a0), some (.int x1)] [.ref a0] h0 i_38_21 rfl ?_
    obtain ⟨f_8, q_9, hd⟩ := dk_bind hd
    refine hp_gR 25 rfl i_38_22 q_9 ?_
    refine wp_s 26 [some (.ref a0), some (.int x1)] [.int x1, .ref f_8] h0 i_38_25 rfl ?_
    obtain ⟨k_10, hd⟩ := dk_if hd
    obtain ⟨fs_11, o_12⟩ := isO_of k_10
    obtain ⟨z_13, q_14, hd⟩ := dk_bind hd
    refine wp_callV 29 rfl i_38_26 (by decide) rfl (vs := [.int x1]) (rest := []) rfl rfl rfl o_12 (y := m_75) rfl (Nat.le_of_ble_eq_true rfl) (d_75_ok (d := e) (by omega) q_14) ?_
    rintro v_15 h_16 ⟨rfl, hz⟩
    have hz := hz.symm
    subst hz
    refine wp_s 30 [some (.ref a0), some (.int x1)] [.ref a0] z_13 i_38_29 rfl ?_
    obtain ⟨f_17, q_18, hd⟩ := dk_bind hd
    refine hp_gR 33 rfl i_38_30 q_18 ?_
    refine wp_s 34 [some (.ref a0), some (.int x1)] [.int x1, .ref f_17] z_13 i_38_33 rfl ?_
    obtain ⟨k_19, hd⟩ := dk_if hd
    obtain ⟨fs_20, o_21⟩ := isO_of k_19
    obtain ⟨z_22, q_23, hd⟩ := dk_bind hd
    refine wp_callV 37 rfl i_38_34 (by decide) rfl (vs := [.int x1]) (rest := []) rfl rfl rfl o_21 (y := m_74) rfl (Nat.le_of_ble_eq_true rfl) (d_74_ok (d := e) (by omega) q_23) ?_
    rintro v_24 h_25 ⟨rfl, rfl⟩
    refine wp_if_eq 53 40 rfl rfl i_38_37 (fun c_26 => ?_) (fun c_26 => ?_)
    · rw [if_pos c_26] at hd
      exact aWp.forget (j_38_53_ok hdp hd) (lvS (lvS lvE))
    · rw [if_neg c_26] at hd
      refine wp_s 41 [some (.ref a0), some (.int x1)] [.ref a0] z_22.2 i_38_40 rfl ?_
      obtain ⟨f_27, q_28, hd⟩ := dk_bind hd
      refine hp_gR 44 rfl i_38_41 q_28 ?_
      obtain ⟨f_29, q_30, hd⟩ := dk_bind hd
      refine hp_gR 47 rfl i_38_44 q_30 ?_
      refine wp_s 48 [some (.ref a0), some (.int x1)] [.int x1, .ref f_29] z_22.2 i_38_47 rfl ?_
      refine wp_s 49 [some (.ref a0), some (.int x1)] [.int x1, .ref f_29, .int x1, .ref f_29] z_22.2 i_38_48 rfl ?_
      obtain ⟨f_31, q_32, hd⟩ := dk_bind hd
      refine hp_gA 50 rfl i_38_49 q_32 ?_
      refine wp_s 51 [some (.ref a0), some (.int x1)] [.int (1 : Int32), .int f_31, .int x1, .ref f_29] z_22.2 i_38_50 rfl ?_
      refine wp_s 52 [some (.ref a0), some (.int x1)] [.int (f_31 + (1 : Int32)), .int x1, .ref f_29] z_22.2 i_38_51 rfl ?_
      obtain ⟨h_33, q_34, hd⟩ := dk_bind hd
      refine hp_sA 53 rfl i_38_52 q_34 ?_
      exact aWp.forget (j_38_53_ok hdp hd) (lvS (lvS lvE))
  · rw [if_neg c_7] at hd
    refine wp_s 15 [some (.ref a0), some (.int x1)] [.ref a0] h0 i_38_14 rfl ?_
    obtain ⟨k_35, hd⟩ := dk_if hd
    obtain ⟨fs_36, o_37⟩ := isO_of k_35
    obtain ⟨z_38, q_39, hd⟩ := dk_bind hd
    refine wp_callV 18 rfl i_38_15 (by decide) rfl (vs := []) (rest := []) rfl rfl rfl o_37 (y := m_39) rfl (Nat.le_of_ble_eq_true rfl) (d_39_ok (d := e) (by omega) q_39) ?_
    rintro v_40 h_41 ⟨rfl, hz⟩
    have hz := hz.symm
    subst hz
    refine wp_s 53 [some (.ref a0), some (.int x1)] [] z_38 i_38_18 rfl ?_
    exact aWp.forget (j_38_53_ok hdp hd) (lvS (lvS lvE))
def l_37 (g n tag : Nat) (a0 : Nat) (x1 : Int32) (x2 : Int32) (x3 : Int32) (w4 : Int64) (x6 : Int32) (x7 : Int32) (h0 : aH) : Option (aH) := match n with
  | 0 => none
  | n + 1 => if tag = 0 then (if x1 ≤ x6 then some h0 else ((gR h0 a0 2 10).bind (fun f_2 => ((gR h0 a0 2 0).bind (fun f_4 => ((gR h0 f_4 10 1).bind (fun f_6 => (if isO h0 f_2 7 = true then ((d_72 g f_2 f_6 h0).bind (fun z_11 => (l_37 g n 1 a0 x1 x2 x3 w4 x6 (0 : Int32) z_11))) else none)))))))) else if tag = 1 then (if x2 ≤ x7 then (l_37 g n 0 a0 x1 x2 x3 w4 (x6 + (1 : Int32)) 0 h0) else (if ¬ (2147483648 : Int64) = 0 then (if ¬ (65536 : Int64) = 0 then (if ¬ ((x3 + (1 : Int32)).toInt64) = 0 then (if isO h0 a0 2 = true then ((d_38 g a0 ((((((w4 * (1103515245 : Int64)) + (12345 : Int64)) - ((w4 * (1103515245 : Int64)) + (12345 : Int64)) / (2147483648 : Int64) * (2147483648 : Int64)) / (65536 : Int64)) - ((((w4 * (1103515245 : Int64)) + (12345 : Int64)) - ((w4 * (1103515245 : Int64)) + (12345 : Int64)) / (2147483648 : Int64) * (2147483648 : Int64)) / (65536 : Int64)) / ((x3 + (1 : Int32)).toInt64) * ((x3 + (1 : Int32)).toInt64)).toInt32) h0).bind (fun z_22 => (l_37 g n 1 a0 x1 x2 x3 (((w4 * (1103515245 : Int64)) + (12345 : Int64)) - ((w4 * (1103515245 : Int64)) + (12345 : Int64)) / (2147483648 : Int64) * (2147483648 : Int64)) x6 (x7 + (1 : Int32)) z_22))) else none) else none) else none) else none)) else none
set_option maxHeartbeats 4000000 in
set_option maxRecDepth 100000 in
theorem l_37_ok {X : aX} {g : Nat} {d : Nat} (hdp : 6 ≤ d) : ∀ n, (∀ (a0 : Nat) (x1 : Int32) (x2 : Int32) (x3 : Int32) (w4 : Int64) (x6 : Int32) (x7 : Int32) (h0 : aH) (zz : aH), l_37 g n 0 a0 x1 x2 x3 w4 x6 x7 h0 = some zz → aWp X d 37 40 [some (.ref a0), some (.int x1), some (.int x2), some (.int x3), some (.long w4), none, some (.int x6), none] [] h0 (fun w h' => w = none ∧ h' = zz)) ∧ (∀ (a0 : Nat) (x1 : Int32) (x2 : Int32) (x3 : Int32) (w4 : Int64) (x6 : Int32) (x7 : Int32) (h0 : aH) (zz : aH), l_37 g n 1 a0 x1 x2 x3 w4 x6 x7 h0 = some zz → aWp X d 37 63 [some (.ref a0), some (.int x1), some (.int x2), some (.int x3), some (.long w4), none, some (.int x6), some (.int x7)] [] h0 (fun w h' => w = none ∧ h' = zz)) := by
  intro n
  induction n with
  | zero => exact ⟨fun _ _ _ _ _ _ _ _ _ hd => by simp [l_37] at hd, fun _ _ _ _ _ _ _ _ _ hd => by simp [l_37] at hd⟩
  | succ n ih =>
    refine ⟨?_, ?_⟩
    · intro a0 x1 x2 x3 w4 x6 x7 h0 zz hd
      unfold l_37 at hd
      rw [if_pos rfl] at hd
      obtain ⟨e, rfl⟩ : ∃ e, d = e + 1 := ⟨d - 1, by omega⟩
      refine wp_s 42 [some (.ref a0), some (.int x1), some (.int x2), some (.int x3), some (.long w4), none, some (.int x6), none] [.int x6] h0 i_37_40 rfl ?_
      refine wp_s 43 [some (.ref a0), some (.int x1), some (.int x2), some (.int x3), some (.long w4), none, some (.int x6), none] [.int x1, .int x6] h0 i_37_42 rfl ?_
      refine wp_cmp_ge 113 46 rfl rfl i_37_43 (fun c_1 => ?_) (fun c_1 => ?_)
      · rw [if_pos c_1] at hd
        obtain rfl := Option.some.inj hd
        exact wp_ret i_37_113 rfl ⟨rfl, rfl⟩
      · rw [if_neg c_1] at hd
        refine wp_s 47 [some (.ref a0), some (.int x1), some (.int x2), some (.int x3), some (.long w4), none, some (.int x6), none] [.ref a0] h0 i_37_46 rfl ?_
        obtain ⟨f_2, q_3, hd⟩ := dk_bind hd
        refine hp_gR 50 rfl i_37_47 q_3 ?_
        refine wp_s 51 [some (.ref a0), some (.int x1), some (.int x2), some (.int x3), some (.long w4), none, some (.int x6), none] [.ref a0, .ref f_2] h0 i_37_50 rfl ?_
        obtain ⟨f_4, q_5, hd⟩ := dk_bind hd
        refine hp_gR 54 rfl i_37_51 q_5 ?_
        obtain ⟨f_6, q_7, hd⟩ := dk_bind hd
        refine hp_gR 57 rfl i_37_54 q_7 ?_
        obtain ⟨k_8, hd⟩ := dk_if hd
        obtain ⟨fs_9, o_10⟩ := isO_of k_8
        obtain ⟨z_11, q_12, hd⟩ := dk_bind hd
        refine wp_callV 60 rfl i_37_57 (by decide) rfl (vs := [.ref f_6]) (rest := []) rfl rfl rfl o_10 (y := m_72) rfl (Nat.le_of_ble_eq_true rfl) (d_72_ok (d := e) (by omega) q_12) ?_
        rintro v_13 h_14 ⟨rfl, hz⟩
        have hz := hz.symm
        subst hz
        refine wp_s 61 [some (.ref a0), some (.int x1), some (.int x2), some (.int x3), some (.long w4), none, some (.int x6), none] [.int (0 : Int32)] z_11 i_37_60 rfl ?_
        refine wp_s 63 [some (.ref a0), some (.int x1), some (.int x2), some (.int x3), some (.long w4), none, some (.int x6), some (.int (0 : Int32))] [] z_11 i_37_61 rfl ?_
        exact aWp.forget (ih.2 _ _ _ _ _ _ _ _ _ hd) (lvS (lvS (lvS (lvS (lvS (lvN (lvS (lvS lvE))))))))
    · intro a0 x1 x2 x3 w4 x6 x7 h0 zz hd
      unfold l_37 at hd
      rw [if_neg (by decide), if_pos rfl] at hd
      obtain ⟨e, rfl⟩ : ∃ e, d = e + 1 := ⟨d - 1, by omega⟩
      refine wp_s 65 [some (.ref a0), some (.int x1), some (.int x2), some (.int x3), some (.long w4), none, some (.int x6), some (.int x7)] [.int x7] h0 i_37_63 rfl ?_
      refine wp_s 66 [some (.ref a0), some (.int x1), some (.int x2), some (.int x3), some (.long w4), none, some (.int x6), some (.int x7)] [.int x2, .int x7] h0 i_37_65 rfl ?_
      refine wp_cmp_ge 107 69 rfl rfl i_37_66 (fun c_15 => ?_) (fun c_15 => ?_)
      · rw [if_pos c_15] at hd
        refine wp_s 110 [some (.ref a0), some (.int x1), some (.int x2), some (.int x3), some (.long w4), none, some (.int (x6 + (1 : Int32))), some (.int x7)] [] h0 i_37_107 rfl ?_
        refine wp_s 40 [some (.ref a0), some (.int x1), some (.int x2), some (.int x3), some (.long w4), none, some (.int (x6 + (1 : Int32))), some (.int x7)] [] h0 i_37_110 rfl ?_
        exact aWp.forget (ih.1 _ _ _ _ _ _ _ _ _ hd) (lvS (lvS (lvS (lvS (lvS (lvN (lvS (lvN lvE))))))))
      · rw [if_neg c_15] at hd
        refine wp_s 71 [some (.ref a0), some (.int x1), some (.int x2), some (.int x3), some (.long w4), none, some (.int x6), some (.int x7)] [.long w4] h0 i_37_69 rfl ?_
        refine wp_s 74 [some (.ref a0), some (.int x1), some (.int x2), some (.int x3), some (.long w4), none, some (.int x6), some (.int x7)] [.long (1103515245 : Int64), .long w4] h0 i_37_71 rfl ?_
        refine wp_s 75 [some (.ref a0), some (.int x1), some (.int x2), some (.int x3), some (.long w4), none, some (.int x6), some (.int x7)] [.long (w4 * (1103515245 : Int64))] h0 i_37_74 rfl ?_
        refine wp_s 78 [some (.ref a0), some (.int x1), some (.int x2), some (.int x3), some (.long w4), none, some (.int x6), some (.int x7)] [.long (12345 : Int64), .long (w4 * (1103515245 : Int64))] h0 i_37_75 rfl ?_
        refine wp_s 79 [some (.ref a0), some (.int x1), some (.int x2), some (.int x3), some (.long w4), none, some (.int x6), some (.int x7)] [.long ((w4 * (1103515245 : Int64)) + (12345 : Int64))] h0 i_37_78 rfl ?_
        refine wp_s 82 [some (.ref a0), some (.int x1), some (.int x2), some (.int x3), some (.long w4), none, some (.int x6), some (.int x7)] [.long (2147483648 : Int64), .long ((w4 * (1103515245 : Int64)) + (12345 : Int64))] h0 i_37_79 rfl ?_
        obtain ⟨k_16, hd⟩ := dk_if hd
        refine wp_lrem 83 rfl i_37_82 k_16 ?_
        refine wp_s 85 [some (.ref a0), some (.int x1), some (.int x2), some (.int x3), some (.long (((w4 * (1103515245 : Int64)) + (12345 : Int64)) - ((w4 * (1103515245 : Int64)) + (12345 : Int64)) / (2147483648 : Int64) * (2147483648 : Int64))), none, some (.int x6), some (.int x7)] [] h0 i_37_83 rfl ?_
        refine wp_s 86 [some (.ref a0), some (.int x1), some (.int x2), some (.int x3), some (.long (((w4 * (1103515245 : Int64)) + (12345 : Int64)) - ((w4 * (1103515245 : Int64)) + (12345 : Int64)) / (2147483648 : Int64) * (2147483648 : Int64))), none, some (.int x6), some (.int x7)] [.ref a0] h0 i_37_85 rfl ?_
        refine wp_s 88 [some (.ref a0), some (.int x1), some (.int x2), some (.int x3), some (.long (((w4 * (1103515245 : Int64)) + (12345 : Int64)) - ((w4 * (1103515245 : Int64)) + (12345 : Int64)) / (2147483648 : Int64) * (2147483648 : Int64))), none, some (.int x6), some (.int x7)] [.long (((w4 * (1103515245 : Int64)) + (12345 : Int64)) - ((w4 * (1103515245 : Int64)) + (12345 : Int64)) / (2147483648 : Int64) * (2147483648 : Int64)), .ref a0] h0 i_37_86 rfl ?_
        refine wp_s 91 [some (.ref a0), some (.int x1), some (.int x2), some (.int x3), some (.long (((w4 * (1103515245 : Int64)) + (12345 : Int64)) - ((w4 * (1103515245 : Int64)) + (12345 : Int64)) / (2147483648 : Int64) * (2147483648 : Int64))), none, some (.int x6), some (.int x7)] [.long (65536 : Int64), .long (((w4 * (1103515245 : Int64)) + (12345 : Int64)) - ((w4 * (1103515245 : Int64)) + (12345 : Int64)) / (2147483648 : Int64) * (2147483648 : Int64)), .ref a0] h0 i_37_88 rfl ?_
        obtain ⟨k_17, hd⟩ := dk_if hd
        refine wp_ldiv 92 rfl i_37_91 k_17 ?_
        refine wp_s 93 [some (.ref a0), some (.int x1), some (.int x2), some (.int x3), some (.long (((w4 * (1103515245 : Int64)) + (12345 : Int64)) - ((w4 * (1103515245 : Int64)) + (12345 : Int64)) / (2147483648 : Int64) * (2147483648 : Int64))), none, some (.int x6), some (.int x7)] [.int x3, .long ((((w4 * (1103515245 : Int64)) + (12345 : Int64)) - ((w4 * (1103515245 : Int64)) + (12345 : Int64)) / (2147483648 : Int64) * (2147483648 : Int64)) / (65536 : Int64)), .ref a0] h0 i_37_92 rfl ?_
        refine wp_s 94 [some (.ref a0), some (.int x1), some (.int x2), some (.int x3), some (.long (((w4 * (1103515245 : Int64)) + (12345 : Int64)) - ((w4 * (1103515245 : Int64)) + (12345 : Int64)) / (2147483648 : Int64) * (2147483648 : Int64))), none, some (.int x6), some (.int x7)] [.int (1 : Int32), .int x3, .long ((((w4 * (1103515245 : Int64)) + (12345 : Int64)) - ((w4 * (1103515245 : Int64)) + (12345 : Int64)) / (2147483648 : Int64) * (2147483648 : Int64)) / (65536 : Int64)), .ref a0] h0 i_37_93 rfl ?_
        refine wp_s 95 [some (.ref a0), some (.int x1), some (.int x2), some (.int x3), some (.long (((w4 * (1103515245 : Int64)) + (12345 : Int64)) - ((w4 * (1103515245 : Int64)) + (12345 : Int64)) / (2147483648 : Int64) * (2147483648 : Int64))), none, some (.int x6), some (.int x7)] [.int (x3 + (1 : Int32)), .long ((((w4 * (1103515245 : Int64)) + (12345 : Int64)) - ((w4 * (1103515245 : Int64)) + (12345 : Int64)) / (2147483648 : Int64) * (2147483648 : Int64)) / (65536 : Int64)), .ref a0] h0 i_37_94 rfl ?_
        refine wp_s 96 [some (.ref a0), some (.int x1), some (.int x2), some (.int x3), some (.long (((w4 * (1103515245 : Int64)) + (12345 : Int64)) - ((w4 * (1103515245 : Int64)) + (12345 : Int64)) / (2147483648 : Int64) * (2147483648 : Int64))), none, some (.int x6), some (.int x7)] [.long ((x3 + (1 : Int32)).toInt64), .long ((((w4 * (1103515245 : Int64)) + (12345 : Int64)) - ((w4 * (1103515245 : Int64)) + (12345 : Int64)) / (2147483648 : Int64) * (2147483648 : Int64)) / (65536 : Int64)), .ref a0] h0 i_37_95 rfl ?_
        obtain ⟨k_18, hd⟩ := dk_if hd
        refine wp_lrem 97 rfl i_37_96 k_18 ?_
        refine wp_s 98 [some (.ref a0), some (.int x1), some (.int x2), some (.int x3), some (.long (((w4 * (1103515245 : Int64)) + (12345 : Int64)) - ((w4 * (1103515245 : Int64)) + (12345 : Int64)) / (2147483648 : Int64) * (2147483648 : Int64))), none, some (.int x6), some (.int x7)] [.int ((((((w4 * (1103515245 : Int64)) + (12345 : Int64)) - ((w4 * (1103515245 : Int64)) + (12345 : Int64)) / (2147483648 : Int64) * (2147483648 : Int64)) / (65536 : Int64)) - ((((w4 * (1103515245 : Int64)) + (12345 : Int64)) - ((w4 * (1103515245 : Int64)) + (12345 : Int64)) / (2147483648 : Int64) * (2147483648 : Int64)) / (65536 : Int64)) / ((x3 + (1 : Int32)).toInt64) * ((x3 + (1 : Int32)).toInt64)).toInt32), .ref a0] h0 i_37_97 rfl ?_
        obtain ⟨k_19, hd⟩ := dk_if hd
        obtain ⟨fs_20, o_21⟩ := isO_of k_19
        obtain ⟨z_22, q_23, hd⟩ := dk_bind hd
        refine wp_callV 101 rfl i_37_98 (by decide) rfl (vs := [.int ((((((w4 * (1103515245 : Int64)) + (12345 : Int64)) - ((w4 * (1103515245 : Int64)) + (12345 : Int64)) / (2147483648 : Int64) * (2147483648 : Int64)) / (65536 : Int64)) - ((((w4 * (1103515245 : Int64)) + (12345 : Int64)) - ((w4 * (1103515245 : Int64)) + (12345 : Int64)) / (2147483648 : Int64) * (2147483648 : Int64)) / (65536 : Int64)) / ((x3 + (1 : Int32)).toInt64) * ((x3 + (1 : Int32)).toInt64)).toInt32)]) (rest := []) rfl rfl rfl o_21 (y := m_38) rfl (Nat.le_of_ble_eq_true rfl) (d_38_ok (d := e) (by omega) q_23) ?_
        rintro v_24 h_25 ⟨rfl, hz⟩
        have hz := hz.symm
        subst hz
        refine wp_s 104 [some (.ref a0), some (.int x1), some (.int x2), some (.int x3), some (.long (((w4 * (1103515245 : Int64)) + (12345 : Int64)) - ((w4 * (1103515245 : Int64)) + (12345 : Int64)) / (2147483648 : Int64) * (2147483648 : Int64))), none, some (.int x6), some (.int (x7 + (1 : Int32)))] [] z_22 i_37_101 rfl ?_
        refine wp_s 63 [some (.ref a0), some (.int x1), some (.int x2), some (.int x3), some (.long (((w4 * (1103515245 : Int64)) + (12345 : Int64)) - ((w4 * (1103515245 : Int64)) + (12345 : Int64)) / (2147483648 : Int64) * (2147483648 : Int64))), none, some (.int x6), some (.int (x7 + (1 : Int32)))] [] z_22 i_37_104 rfl ?_
        exact aWp.forget (ih.2 _ _ _ _ _ _ _ _ _ hd) (lvS (lvS (lvS (lvS (lvS (lvN (lvS (lvS lvE))))))))
def d_37 (g : Nat) (a0 : Nat) (x1 : Int32) (x2 : Int32) (h0 : aH) : Option (aH) := ((sF h0 a0 2 18 (.int (0 : Int32))).bind (fun h_1001 => ((sF h_1001 a0 2 19 (.int (0 : Int32))).bind (fun h_1003 => ((gR h_1003 a0 2 0).bind (fun f_1005 => ((gR h_1003 f_1005 10 0).bind (fun f_1007 => ((gI h_1003 f_1007 5 4).bind (fun f_1009 => (if (1 : Int32) ≤ f_1009 then ((gR h_1003 a0 2 0).bind (fun f_1012 => ((gI h_1003 f_1012 10 3).bind (fun f_1014 => (l_37 g g 0 a0 x1 x2 f_1009 (f_1014.toInt64) (0 : Int32) 0 h_1003))))) else some h_1003)))))))))))
set_option maxHeartbeats 4000000 in
set_option maxRecDepth 100000 in
theorem d_37_ok {X : aX} {g : Nat} {a0 : Nat} {x1 : Int32} {x2 : Int32} {h0 : aH} {zz : aH} {d : Nat} (hdp : 6 ≤ d) (hd : d_37 g a0 x1 x2 h0 = some zz) : aWp X d 37 0 (aEntL [.ref a0, .int x1, .int x2] 8) [] h0 (fun w h' => w = none ∧ h' = zz) := by
  unfold d_37 at hd
  refine wp_lv (l2 := [some (.ref a0), some (.int x1), some (.int x2), none, none, none, none, none]) rfl ?_
  obtain ⟨e, rfl⟩ : ∃ e, d = e + 1 := ⟨d - 1, by omega⟩
  refine wp_s 1 [some (.ref a0), some (.int x1), some (.int x2), none, none, none, none, none] [.ref a0] h0 i_37_0 rfl ?_
  refine wp_s 2 [some (.ref a0), some (.int x1), some (.int x2), none, none, none, none, none] [.int (0 : Int32), .ref a0] h0 i_37_1 rfl ?_
  obtain ⟨h_1001, q_1002, hd⟩ := dk_bind hd
  refine hp_sF 5 rfl i_37_2 q_1002 ?_
  refine wp_s 6 [some (.ref a0), some (.int x1), some (.int x2), none, none, none, none, none] [.ref a0] h_1001 i_37_5 rfl ?_
  refine wp_s 7 [some (.ref a0), some (.int x1), some (.int x2), none, none, none, none, none] [.int (0 : Int32), .ref a0] h_1001 i_37_6 rfl ?_
  obtain ⟨h_1003, q_1004, hd⟩ := dk_bind hd
  refine hp_sF 10 rfl i_37_7 q_1004 ?_
  refine wp_s 11 [some (.ref a0), some (.int x1), some (.int x2), none, none, none, none, none] [.ref a0] h_1003 i_37_10 rfl ?_
  obtain ⟨f_1005, q_1006, hd⟩ := dk_bind hd
  refine hp_gR 14 rfl i_37_11 q_1006 ?_
  obtain ⟨f_1007, q_1008, hd⟩ := dk_bind hd
  refine hp_gR 17 rfl i_37_14 q_1008 ?_
  obtain ⟨f_1009, q_1010, hd⟩ := dk_bind hd
  refine hp_gI 20 rfl i_37_17 q_1010 ?_
  refine wp_s 21 [some (.ref a0), some (.int x1), some (.int x2), some (.int f_1009), none, none, none, none] [] h_1003 i_37_20 rfl ?_
  refine wp_s 22 [some (.ref a0), some (.int x1), some (.int x2), some (.int f_1009), none, none, none, none] [.int f_1009] h_1003 i_37_21 rfl ?_
  refine wp_s 23 [some (.ref a0), some (.int x1), some (.int x2), some (.int f_1009), none, none, none, none] [.int (1 : Int32), .int f_1009] h_1003 i_37_22 rfl ?_
  refine wp_cmp_ge 27 26 rfl rfl i_37_23 (fun c_1011 => ?_) (fun c_1011 => ?_)
  · rw [if_pos c_1011] at hd
    refine wp_s 28 [some (.ref a0), some (.int x1), some (.int x2), some (.int f_1009), none, none, none, none] [.ref a0] h_1003 i_37_27 rfl ?_
    obtain ⟨f_1012, q_1013, hd⟩ := dk_bind hd
    refine hp_gR 31 rfl i_37_28 q_1013 ?_
    obtain ⟨f_1014, q_1015, hd⟩ := dk_bind hd
    refine hp_gI 34 rfl i_37_31 q_1015 ?_
    refine wp_s 35 [some (.ref a0), some (.int x1), some (.int x2), some (.int f_1009), none, none, none, none] [.long (f_1014.toInt64)] h_1003 i_37_34 rfl ?_
    refine wp_s 37 [some (.ref a0), some (.int x1), some (.int x2), some (.int f_1009), some (.long (f_1014.toInt64)), none, none, none] [] h_1003 i_37_35 rfl ?_
    refine wp_s 38 [some (.ref a0), some (.int x1), some (.int x2), some (.int f_1009), some (.long (f_1014.toInt64)), none, none, none] [.int (0 : Int32)] h_1003 i_37_37 rfl ?_
    refine wp_s 40 [some (.ref a0), some (.int x1), some (.int x2), some (.int f_1009), some (.long (f_1014.toInt64)), none, some (.int (0 : Int32)), none] [] h_1003 i_37_38 rfl ?_
    exact aWp.forget ((l_37_ok hdp g).1 _ _ _ _ _ _ _ _ _ hd) (lvS (lvS (lvS (lvS (lvS (lvN (lvS (lvN lvE))))))))
  · rw [if_neg c_1011] at hd
    obtain rfl := Option.some.inj hd
    exact wp_ret i_37_26 rfl ⟨rfl, rfl⟩
def d_40 (g : Nat) (a0 : Nat) (h0 : aH) : Option (aH) := ((sF (nA h0 0 400) a0 3 0 (.ref (h0).length)).bind (fun h_1 => ((sF (nA h_1 0 12) a0 3 1 (.ref (h_1).length)).bind (fun h_3 => ((sF (nA h_3 0 12) a0 3 2 (.ref (h_3).length)).bind (fun h_5 => ((sF (nA h_5 0 12) a0 3 3 (.ref (h_5).length)).bind (fun h_7 => ((sF (nA h_7 3 62) a0 3 4 (.ref (h_7).length)).bind (fun h_9 => some h_9))))))))))
set_option maxHeartbeats 4000000 in
set_option maxRecDepth 100000 in
theorem d_40_ok {X : aX} {g : Nat} {a0 : Nat} {h0 : aH} {zz : aH} {d : Nat} (hdp : 0 ≤ d) (hd : d_40 g a0 h0 = some zz) : aWp X d 40 0 (aEntL [.ref a0] 1) [] h0 (fun w h' => w = none ∧ h' = zz) := by
  unfold d_40 at hd
  refine wp_lv (l2 := [some (.ref a0)]) rfl ?_
  refine wp_s 1 [some (.ref a0)] [.ref a0] h0 i_40_0 rfl ?_
  refine hp_obj 4 rfl i_40_1 rfl ?_
  refine wp_s 5 [some (.ref a0)] [.ref a0] h0 i_40_4 rfl ?_
  refine wp_s 8 [some (.ref a0)] [.int (400 : Int32), .ref a0] h0 i_40_5 rfl ?_
  refine hp_newa (N := 400) 10 rfl i_40_8 (by decide) (by decide) (by decide) ?_
  obtain ⟨h_1, q_2, hd⟩ := dk_bind hd
  refine hp_sF 13 rfl i_40_10 q_2 ?_
  refine wp_s 14 [some (.ref a0)] [.ref a0] h_1 i_40_13 rfl ?_
  refine wp_s 16 [some (.ref a0)] [.int (12 : Int32), .ref a0] h_1 i_40_14 rfl ?_
  refine hp_newa (N := 12) 18 rfl i_40_16 (by decide) (by decide) (by decide) ?_
  obtain ⟨h_3, q_4, hd⟩ := dk_bind hd
  refine hp_sF 21 rfl i_40_18 q_4 ?_
  refine wp_s 22 [some (.ref a0)] [.ref a0] h_3 i_40_21 rfl ?_
  refine wp_s 24 [some (.ref a0)] [.int (12 : Int32), .ref a0] h_3 i_40_22 rfl ?_
  refine hp_newa (N := 12) 26 rfl i_40_24 (by decide) (by decide) (by decide) ?_
  obtain ⟨h_5, q_6, hd⟩ := dk_bind hd
  refine hp_sF 29 rfl i_40_26 q_6 ?_
  refine wp_s 30 [some (.ref a0)] [.ref a0] h_5 i_40_29 rfl ?_
  refine wp_s 32 [some (.ref a0)] [.int (12 : Int32), .ref a0] h_5 i_40_30 rfl ?_
  refine hp_newa (N := 12) 34 rfl i_40_32 (by decide) (by decide) (by decide) ?_
  obtain ⟨h_7, q_8, hd⟩ := dk_bind hd
  refine hp_sF 37 rfl i_40_34 q_8 ?_
  refine wp_s 38 [some (.ref a0)] [.ref a0] h_7 i_40_37 rfl ?_
  refine wp_s 40 [some (.ref a0)] [.int (62 : Int32), .ref a0] h_7 i_40_38 rfl ?_
  refine hp_newa (N := 62) 42 rfl i_40_40 (by decide) (by decide) (by decide) ?_
  obtain ⟨h_9, q_10, hd⟩ := dk_bind hd
  refine hp_sF 45 rfl i_40_42 q_10 ?_
  obtain rfl := Option.some.inj hd
  exact wp_ret i_40_45 rfl ⟨rfl, rfl⟩
def d_44 (g : Nat) (a0 : Nat) (a1 : Nat) (h0 : aH) : Option (aH) := ((sF h0 a0 4 0 (.ref a1)).bind (fun h_1 => some h_1))
set_option maxHeartbeats 4000000 in
set_option maxRecDepth 100000 in
theorem d_44_ok {X : aX} {g : Nat} {a0 : Nat} {a1 : Nat} {h0 : aH} {zz : aH} {d : Nat} (hdp : 0 ≤ d) (hd : d_44 g a0 a1 h0 = some zz) : aWp X d 44 0 (aEntL [.ref a0, .ref a1] 2) [] h0 (fun w h' => w = none ∧ h' = zz) := by
  unfold d_44 at hd
  refine wp_lv (l2 := [some (.ref a0), some (.ref a1)]) rfl ?_
  refine wp_s 1 [some (.ref a0), some (.ref a1)] [.ref a0] h0 i_44_0 rfl ?_
  refine hp_obj 4 rfl i_44_1 rfl ?_
  refine wp_s 5 [some (.ref a0), some (.ref a1)] [.ref a0] h0 i_44_4 rfl ?_
  refine wp_s 6 [some (.ref a0), some (.ref a1)] [.ref a1, .ref a0] h0 i_44_5 rfl ?_
  obtain ⟨h_1, q_2, hd⟩ := dk_bind hd
  refine hp_sF 9 rfl i_44_6 q_2 ?_
  obtain rfl := Option.some.inj hd
  exact wp_ret i_44_9 rfl ⟨rfl, rfl⟩
def d_53 (g : Nat) (a0 : Nat) (x1 : Int32) (h0 : aH) : Option (aH) := ((gR h0 a0 4 1).bind (fun f_1 => ((gI h0 f_1 3 5).bind (fun f_3 => (if (400 : Int32) ≤ f_3 then some h0 else ((gR h0 a0 4 1).bind (fun f_6 => ((gR h0 f_6 3 0).bind (fun f_8 => ((gR h0 a0 4 1).bind (fun f_10 => ((gI h0 f_10 3 5).bind (fun f_12 => ((sA h0 f_8 f_12 x1).bind (fun h_14 => ((gR h_14 a0 4 1).bind (fun f_16 => ((gI h_14 f_16 3 5).bind (fun f_18 => ((sF h_14 f_16 3 5 (.int (f_18 + (1 : Int32)))).bind (fun h_20 => some h_20)))))))))))))))))))))
set_option maxHeartbeats 4000000 in
set_option maxRecDepth 100000 in
theorem d_53_ok {X : aX} {g : Nat} {a0 : Nat} {x1 : Int32} {h0 : aH} {zz : aH} {d : Nat} (hdp : 0 ≤ d) (hd : d_53 g a0 x1 h0 = some zz) : aWp X d 53 0 (aEntL [.ref a0, .int x1] 2) [] h0 (fun w h' => w = none ∧ h' = zz) := by
  unfold d_53 at hd
  refine wp_lv (l2 := [some (.ref a0), some (.int x1)]) rfl ?_
  refine wp_s 1 [some (.ref a0), some (.int x1)] [.ref a0] h0 i_53_0 rfl ?_
  obtain ⟨f_1, q_2, hd⟩ := dk_bind hd
  refine hp_gR 4 rfl i_53_1 q_2 ?_
  obtain ⟨f_3, q_4, hd⟩ := dk_bind hd
  refine hp_gI 7 rfl i_53_4 q_4 ?_
  refine wp_s 10 [some (.ref a0), some (.int x1)] [.int (400 : Int32), .int f_3] h0 i_53_7 rfl ?_
  refine wp_cmp_ge 42 13 rfl rfl i_53_10 (fun c_5 => ?_) (fun c_5 => ?_)
  · rw [if_pos c_5] at hd
    obtain rfl := Option.some.inj hd
    exact wp_ret i_53_42 rfl ⟨rfl, rfl⟩
  · rw [if_neg c_5] at hd
    refine wp_s 14 [some (.ref a0), some (.int x1)] [.ref a0] h0 i_53_13 rfl ?_
    obtain ⟨f_6, q_7, hd⟩ := dk_bind hd
    refine hp_gR 17 rfl i_53_14 q_7 ?_
    obtain ⟨f_8, q_9, hd⟩ := dk_bind hd
    refine hp_gR 20 rfl i_53_17 q_9 ?_
    refine wp_s 21 [some (.ref a0), some (.int x1)] [.ref a0, .ref f_8] h0 i_53_20 rfl ?_
    obtain ⟨f_10, q_11, hd⟩ := dk_bind hd
    refine hp_gR 24 rfl i_53_21 q_11 ?_
    obtain ⟨f_12, q_13, hd⟩ := dk_bind hd
    refine hp_gI 27 rfl i_53_24 q_13 ?_
    refine wp_s 28 [some (.ref a0), some (.int x1)] [.int x1, .int f_12, .ref f_8] h0 i_53_27 rfl ?_
    obtain ⟨h_14, q_15, hd⟩ := dk_bind hd
    refine hp_sA 29 rfl i_53_28 q_15 ?_
    refine wp_s 30 [some (.ref a0), some (.int x1)] [.ref a0] h_14 i_53_29 rfl ?_
    obtain ⟨f_16, q_17, hd⟩ := dk_bind hd
    refine hp_gR 33 rfl i_53_30 q_17 ?_
    refine wp_s 34 [some (.ref a0), some (.int x1)] [.ref f_16, .ref f_16] h_14 i_53_33 rfl ?_
    obtain ⟨f_18, q_19, hd⟩ := dk_bind hd
    refine hp_gI 37 rfl i_53_34 q_19 ?_
    refine wp_s 38 [some (.ref a0), some (.int x1)] [.int (1 : Int32), .int f_18, .ref f_16] h_14 i_53_37 rfl ?_
    refine wp_s 39 [some (.ref a0), some (.int x1)] [.int (f_18 + (1 : Int32)), .ref f_16] h_14 i_53_38 rfl ?_
    obtain ⟨h_20, q_21, hd⟩ := dk_bind hd
    refine hp_sF 42 rfl i_53_39 q_21 ?_
    obtain rfl := Option.some.inj hd
    exact wp_ret i_53_42 rfl ⟨rfl, rfl⟩
def l_85 (g n tag : Nat) (a0 : Nat) (s0 : Int32) (b1 : Nat) (h0 : aH) : Option (aH) := match n with
  | 0 => none
  | n + 1 => if tag = 0 then ((gI h0 a0 8 2).bind (fun f_1 => ((gI h0 a0 8 1).bind (fun f_3 => (if f_3 ≤ f_1 then some h0 else ((gR h0 a0 8 0).bind (fun f_6 => ((gI h0 a0 8 2).bind (fun f_8 => ((gB h0 f_6 f_8).bind (fun f_10 => (if f_10 < (48 : Int32) then some h0 else ((gR h0 a0 8 0).bind (fun f_13 => ((gI h0 a0 8 2).bind (fun f_15 => ((gB h0 f_13 f_15).bind (fun f_17 => (if (57 : Int32) < f_17 then some h0 else ((gI h0 a0 8 2).bind (fun f_20 => ((gI h0 a0 8 4).bind (fun f_22 => (if (5 : Int32) ≤ (f_20 - f_22) then (l_85 g n 1 a0 (100000 : Int32) a0 h0) else ((gI h0 a0 8 5).bind (fun f_25 => ((gR h0 a0 8 0).bind (fun f_27 => ((gI h0 a0 8 2).bind (fun f_29 => ((gB h0 f_27 f_29).bind (fun f_31 => (l_85 g n 1 a0 (((f_25 * (10 : Int32)) + f_31) - (48 : Int32)) a0 h0))))))))))))))))))))))))))))))))) else if tag = 1 then ((sF h0 b1 8 5 (.int s0)).bind (fun h_33 => ((gI h_33 a0 8 2).bind (fun f_35 => ((sF h_33 a0 8 2 (.int (f_35 + (1 : Int32)))).bind (fun h_37 => (l_85 g n 0 a0 0 0 h_37))))))) else none
set_option maxHeartbeats 4000000 in
set_option maxRecDepth 100000 in
theorem l_85_ok {X : aX} {g : Nat} {d : Nat} (hdp : 0 ≤ d) : ∀ n, (∀ (a0 : Nat) (s0 : Int32) (b1 : Nat) (h0 : aH) (zz : aH), l_85 g n 0 a0 s0 b1 h0 = some zz → aWp X d 85 11 [some (.ref a0)] [] h0 (fun w h' => w = none ∧ h' = zz)) ∧ (∀ (a0 : Nat) (s0 : Int32) (b1 : Nat) (h0 : aH) (zz : aH), l_85 g n 1 a0 s0 b1 h0 = some zz → aWp X d 85 89 [some (.ref a0)] [.int s0, .ref b1] h0 (fun w h' => w = none ∧ h' = zz)) := by
  intro n
  induction n with
  | zero => exact ⟨fun _ _ _ _ _ hd => by simp [l_85] at hd, fun _ _ _ _ _ hd => by simp [l_85] at hd⟩
  | succ n ih =>
    refine ⟨?_, ?_⟩
    · intro a0 s0 b1 h0 zz hd
      unfold l_85 at hd
      rw [if_pos rfl] at hd
      refine wp_s 12 [some (.ref a0)] [.ref a0] h0 i_85_11 rfl ?_
      obtain ⟨f_1, q_2, hd⟩ := dk_bind hd
      refine hp_gI 15 rfl i_85_12 q_2 ?_
      refine wp_s 16 [some (.ref a0)] [.ref a0, .int f_1] h0 i_85_15 rfl ?_
      obtain ⟨f_3, q_4, hd⟩ := dk_bind hd
      refine hp_gI 19 rfl i_85_16 q_4 ?_
      refine wp_cmp_ge 105 22 rfl rfl i_85_19 (fun c_5 => ?_) (fun c_5 => ?_)
      · rw [if_pos c_5] at hd
        obtain rfl := Option.some.inj hd
        exact wp_ret i_85_105 rfl ⟨rfl, rfl⟩
      · rw [if_neg c_5] at hd
        refine wp_s 23 [some (.ref a0)] [.ref a0] h0 i_85_22 rfl ?_
        obtain ⟨f_6, q_7, hd⟩ := dk_bind hd
        refine hp_gR 26 rfl i_85_23 q_7 ?_
        refine wp_s 27 [some (.ref a0)] [.ref a0, .ref f_6] h0 i_85_26 rfl ?_
        obtain ⟨f_8, q_9, hd⟩ := dk_bind hd
        refine hp_gI 30 rfl i_85_27 q_9 ?_
        obtain ⟨f_10, q_11, hd⟩ := dk_bind hd
        refine hp_gB 31 rfl i_85_30 q_11 ?_
        refine wp_s 33 [some (.ref a0)] [.int (48 : Int32), .int f_10] h0 i_85_31 rfl ?_
        refine wp_cmp_lt 105 36 rfl rfl i_85_33 (fun c_12 => ?_) (fun c_12 => ?_)
        · rw [if_pos c_12] at hd
          obtain rfl := Option.some.inj hd
          exact wp_ret i_85_105 rfl ⟨rfl, rfl⟩
        · rw [if_neg c_12] at hd
          refine wp_s 37 [some (.ref a0)] [.ref a0] h0 i_85_36 rfl ?_
          obtain ⟨f_13, q_14, hd⟩ := dk_bind hd
          refine hp_gR 40 rfl i_85_37 q_14 ?_
          refine wp_s 41 [some (.ref a0)] [.ref a0, .ref f_13] h0 i_85_40 rfl ?_
          obtain ⟨f_15, q_16, hd⟩ := dk_bind hd
          refine hp_gI 44 rfl i_85_41 q_16 ?_
          obtain ⟨f_17, q_18, hd⟩ := dk_bind hd
          refine hp_gB 45 rfl i_85_44 q_18 ?_
          refine wp_s 47 [some (.ref a0)] [.int (57 : Int32), .int f_17] h0 i_85_45 rfl ?_
          refine wp_cmp_gt 105 50 rfl rfl i_85_47 (fun c_19 => ?_) (fun c_19 => ?_)
          · rw [if_pos c_19] at hd
            obtain rfl := Option.some.inj hd
            exact wp_ret i_85_105 rfl ⟨rfl, rfl⟩
          · rw [if_neg c_19] at hd
            refine wp_s 51 [some (.ref a0)] [.ref a0] h0 i_85_50 rfl ?_
            refine wp_s 52 [some (.ref a0)] [.ref a0, .ref a0] h0 i_85_51 rfl ?_
            obtain ⟨f_20, q_21, hd⟩ := dk_bind hd
            refine hp_gI 55 rfl i_85_52 q_21 ?_
            refine wp_s 56 [some (.ref a0)] [.ref a0, .int f_20, .ref a0] h0 i_85_55 rfl ?_
            obtain ⟨f_22, q_23, hd⟩ := dk_bind hd
            refine hp_gI 59 rfl i_85_56 q_23 ?_
            refine wp_s 60 [some (.ref a0)] [.int (f_20 - f_22), .ref a0] h0 i_85_59 rfl ?_
            refine wp_s 61 [some (.ref a0)] [.int (5 : Int32), .int (f_20 - f_22), .ref a0] h0 i_85_60 rfl ?_
            refine wp_cmp_ge 87 64 rfl rfl i_85_61 (fun c_24 => ?_) (fun c_24 => ?_)
            · rw [if_pos c_24] at hd
              refine wp_s 89 [some (.ref a0)] [.int (100000 : Int32), .ref a0] h0 i_85_87 rfl ?_
              exact aWp.forget (ih.2 _ _ _ _ _ hd) (lvS lvE)
            · rw [if_neg c_24] at hd
              refine wp_s 65 [some (.ref a0)] [.ref a0, .ref a0] h0 i_85_64 rfl ?_
              obtain ⟨f_25, q_26, hd⟩ := dk_bind hd
              refine hp_gI 68 rfl i_85_65 q_26 ?_
              refine wp_s 70 [some (.ref a0)] [.int (10 : Int32), .int f_25, .ref a0] h0 i_85_68 rfl ?_
              refine wp_s 71 [some (.ref a0)] [.int (f_25 * (10 : Int32)), .ref a0] h0 i_85_70 rfl ?_
              refine wp_s 72 [some (.ref a0)] [.ref a0, .int (f_25 * (10 : Int32)), .ref a0] h0 i_85_71 rfl ?_
              obtain ⟨f_27, q_28, hd⟩ := dk_bind hd
              refine hp_gR 75 rfl i_85_72 q_28 ?_
              refine wp_s 76 [some (.ref a0)] [.ref a0, .ref f_27, .int (f_25 * (10 : Int32)), .ref a0] h0 i_85_75 rfl ?_
              obtain ⟨f_29, q_30, hd⟩ := dk_bind hd
              refine hp_gI 79 rfl i_85_76 q_30 ?_
              obtain ⟨f_31, q_32, hd⟩ := dk_bind hd
              refine hp_gB 80 rfl i_85_79 q_32 ?_
              refine wp_s 81 [some (.ref a0)] [.int ((f_25 * (10 : Int32)) + f_31), .ref a0] h0 i_85_80 rfl ?_
              refine wp_s 83 [some (.ref a0)] [.int (48 : Int32), .int ((f_25 * (10 : Int32)) + f_31), .ref a0] h0 i_85_81 rfl ?_
              refine wp_s 84 [some (.ref a0)] [.int (((f_25 * (10 : Int32)) + f_31) - (48 : Int32)), .ref a0] h0 i_85_83 rfl ?_
              refine wp_s 89 [some (.ref a0)] [.int (((f_25 * (10 : Int32)) + f_31) - (48 : Int32)), .ref a0] h0 i_85_84 rfl ?_
              exact aWp.forget (ih.2 _ _ _ _ _ hd) (lvS lvE)
    · intro a0 s0 b1 h0 zz hd
      unfold l_85 at hd
      rw [if_neg (by decide), if_pos rfl] at hd
      obtain ⟨h_33, q_34, hd⟩ := dk_bind hd
      refine hp_sF 92 rfl i_85_89 q_34 ?_
      refine wp_s 93 [some (.ref a0)] [.ref a0] h_33 i_85_92 rfl ?_
      refine wp_s 94 [some (.ref a0)] [.ref a0, .ref a0] h_33 i_85_93 rfl ?_
      obtain ⟨f_35, q_36, hd⟩ := dk_bind hd
      refine hp_gI 97 rfl i_85_94 q_36 ?_
      refine wp_s 98 [some (.ref a0)] [.int (1 : Int32), .int f_35, .ref a0] h_33 i_85_97 rfl ?_
      refine wp_s 99 [some (.ref a0)] [.int (f_35 + (1 : Int32)), .ref a0] h_33 i_85_98 rfl ?_
      obtain ⟨h_37, q_38, hd⟩ := dk_bind hd
      refine hp_sF 102 rfl i_85_99 q_38 ?_
      refine wp_s 11 [some (.ref a0)] [] h_37 i_85_102 rfl ?_
      exact aWp.forget (ih.1 _ _ _ _ _ hd) (lvS lvE)
def d_85 (g : Nat) (a0 : Nat) (h0 : aH) : Option (aH) := ((sF h0 a0 8 3 (.int (20 : Int32))).bind (fun h_1001 => ((sF h_1001 a0 8 5 (.int (0 : Int32))).bind (fun h_1003 => (l_85 g g 0 a0 0 0 h_1003)))))
set_option maxHeartbeats 4000000 in
set_option maxRecDepth 100000 in
theorem d_85_ok {X : aX} {g : Nat} {a0 : Nat} {h0 : aH} {zz : aH} {d : Nat} (hdp : 0 ≤ d) (hd : d_85 g a0 h0 = some zz) : aWp X d 85 0 (aEntL [.ref a0] 1) [] h0 (fun w h' => w = none ∧ h' = zz) := by
  unfold d_85 at hd
  refine wp_lv (l2 := [some (.ref a0)]) rfl ?_
  refine wp_s 1 [some (.ref a0)] [.ref a0] h0 i_85_0 rfl ?_
  refine wp_s 3 [some (.ref a0)] [.int (20 : Int32), .ref a0] h0 i_85_1 rfl ?_
  obtain ⟨h_1001, q_1002, hd⟩ := dk_bind hd
  refine hp_sF 6 rfl i_85_3 q_1002 ?_
  refine wp_s 7 [some (.ref a0)] [.ref a0] h_1001 i_85_6 rfl ?_
  refine wp_s 8 [some (.ref a0)] [.int (0 : Int32), .ref a0] h_1001 i_85_7 rfl ?_
  obtain ⟨h_1003, q_1004, hd⟩ := dk_bind hd
  refine hp_sF 11 rfl i_85_8 q_1004 ?_
  exact aWp.forget ((l_85_ok hdp g).1 _ _ _ _ _ hd) (lvS lvE)
def l_86 (g n tag : Nat) (a0 : Nat) (x1 : Int32) (x2 : Int32) (x3 : Int32) (x4 : Int32) (h0 : aH) : Option (aH) := match n with
  | 0 => none
  | n + 1 => if tag = 0 then ((gI h0 a0 8 2).bind (fun f_1 => ((gI h0 a0 8 1).bind (fun f_3 => (if f_3 ≤ f_1 then (l_86 g n 1 a0 0 0 0 0 h0) else ((gR h0 a0 8 0).bind (fun f_6 => ((gI h0 a0 8 2).bind (fun f_8 => ((gB h0 f_6 f_8).bind (fun f_10 => (if f_10 < (97 : Int32) then (l_86 g n 1 a0 0 0 0 0 h0) else ((gR h0 a0 8 0).bind (fun f_13 => ((gI h0 a0 8 2).bind (fun f_15 => ((gB h0 f_13 f_15).bind (fun f_17 => (if (122 : Int32) < f_17 then (l_86 g n 1 a0 0 0 0 0 h0) else ((gI h0 a0 8 2).bind (fun f_20 => ((sF h0 a0 8 2 (.int (f_20 + (1 : Int32)))).bind (fun h_22 => (l_86 g n 0 a0 0 0 0 0 h_22)))))))))))))))))))))))) else if tag = 1 then ((sF h0 a0 8 3 (.int (22 : Int32))).bind (fun h_24 => ((gI h_24 a0 8 2).bind (fun f_26 => ((gI h_24 a0 8 4).bind (fun f_28 => (l_86 g n 2 a0 (f_26 - f_28) (0 : Int32) 0 0 h_24))))))) else if tag = 2 then (if (20 : Int32) ≤ x2 then some h0 else (if (8 : Int32) ≤ x1 then some h0 else (l_86 g n 3 a0 x1 x2 (x2 * (8 : Int32)) (0 : Int32) h0))) else if tag = 3 then (if x1 ≤ x4 then (l_86 g n 4 a0 x1 x2 x3 x4 h0) else (if aIn (x3 + x4) 160 = true then ((gR h0 a0 8 0).bind (fun f_34 => ((gI h0 a0 8 4).bind (fun f_36 => ((gB h0 f_34 (f_36 + x4)).bind (fun f_38 => (if ¬ (aTxt ((x3 + x4)).toNatClampNeg) = f_38 then (l_86 g n 4 a0 x1 x2 x3 x4 h0) else (l_86 g n 3 a0 x1 x2 x3 (x4 + (1 : Int32)) h0)))))))) else none)) else if tag = 4 then (if ¬ x4 = x1 then (l_86 g n 5 a0 x1 x2 x3 x4 h0) else (if aIn (x3 + x4) 160 = true then (if ¬ (aTxt ((x3 + x4)).toNatClampNeg) = (32 : Int32) then (l_86 g n 5 a0 x1 x2 x3 x4 h0) else ((sF h0 a0 8 3 (.int x2)).bind (fun h_44 => (l_86 g n 5 a0 x1 x2 x3 x4 h_44)))) else none)) else if tag = 5 then (l_86 g n 2 a0 x1 (x2 + (1 : Int32)) 0 0 h0) else none
set_option maxHeartbeats 4000000 in
set_option maxRecDepth 100000 in
theorem l_86_ok {X : aX} {g : Nat} {d : Nat} (hdp : 0 ≤ d) : ∀ n, (∀ (a0 : Nat) (x1 : Int32) (x2 : Int32) (x3 : Int32) (x4 : Int32) (h0 : aH) (zz : aH), l_86 g n 0 a0 x1 x2 x3 x4 h0 = some zz → aWp X d 86 0 [some (.ref a0), none, none, none, none] [] h0 (fun w h' => w = none ∧ h' = zz)) ∧ (∀ (a0 : Nat) (x1 : Int32) (x2 : Int32) (x3 : Int32) (x4 : Int32) (h0 : aH) (zz : aH), l_86 g n 1 a0 x1 x2 x3 x4 h0 = some zz → aWp X d 86 52 [some (.ref a0), none, none, none, none] [] h0 (fun w h' => w = none ∧ h' = zz)) ∧ (∀ (a0 : Nat) (x1 : Int32) (x2 : Int32) (x3 : Int32) (x4 : Int32) (h0 : aH) (zz : aH), l_86 g n 2 a0 x1 x2 x3 x4 h0 = some zz → aWp X d 86 70 [some (.ref a0), some (.int x1), some (.int x2), none, none] [] h0 (fun w h' => w = none ∧ h' = zz)) ∧ (∀ (a0 : Nat) (x1 : Int32) (x2 : Int32) (x3 : Int32) (x4 : Int32) (h0 : aH) (zz : aH), l_86 g n 3 a0 x1 x2 x3 x4 h0 = some zz → aWp X d 86 90 [some (.ref a0), some (.int x1), some (.int x2), some (.int x3), some (.int x4)] [] h0 (fun w h' => w = none ∧ h' = zz)) ∧ (∀ (a0 : Nat) (x1 : Int32) (x2 : Int32) (x3 : Int32) (x4 : Int32) (h0 : aH) (zz : aH), l_86 g n 4 a0 x1 x2 x3 x4 h0 = some zz → aWp X d 86 126 [some (.ref a0), some (.int x1), some (.int x2), some (.int x3), some (.int x4)] [] h0 (fun w h' => w = none ∧ h' = zz)) ∧ (∀ (a0 : Nat) (x1 : Int32) (x2 : Int32) (x3 : Int32) (x4 : Int32) (h0 : aH) (zz : aH), l_86 g n 5 a0 x1 x2 x3 x4 h0 = some zz → aWp X d 86 151 [some (.ref a0), some (.int x1), some (.int x2), some (.int x3), some (.int x4)] [] h0 (fun w h' => w = none ∧ h' = zz)) := by
  intro n
  induction n with
  | zero => exact ⟨fun _ _ _ _ _ _ _ hd => by simp [l_86] at hd, fun _ _ _ _ _ _ _ hd => by simp [l_86] at hd, fun _ _ _ _ _ _ _ hd => by simp [l_86] at hd, fun _ _ _ _ _ _ _ hd => by simp [l_86] at hd, fun _ _ _ _ _ _ _ hd => by simp [l_86] at hd, fun _ _ _ _ _ _ _ hd => by simp [l_86] at hd⟩
  | succ n ih =>
    refine ⟨?_, ?_, ?_, ?_, ?_, ?_⟩
    · intro a0 x1 x2 x3 x4 h0 zz hd
      unfold l_86 at hd
      rw [if_pos rfl] at hd
      refine wp_s 1 [some (.ref a0), none, none, none, none] [.ref a0] h0 i_86_0 rfl ?_
      obtain ⟨f_1, q_2, hd⟩ := dk_bind hd
      refine hp_gI 4 rfl i_86_1 q_2 ?_
      refine wp_s 5 [some (.ref a0), none, none, none, none] [.ref a0, .int f_1] h0 i_86_4 rfl ?_
      obtain ⟨f_3, q_4, hd⟩ := dk_bind hd
      refine hp_gI 8 rfl i_86_5 q_4 ?_
      refine wp_cmp_ge 52 11 rfl rfl i_86_8 (fun c_5 => ?_) (fun c_5 => ?_)
      · rw [if_pos c_5] at hd
        exact aWp.forget (ih.2.1 _ _ _ _ _ _ _ hd) (lvS (lvN (lvN (lvN (lvN lvE)))))
      · rw [if_neg c_5] at hd
        refine wp_s 12 [some (.ref a0), none, none, none, none] [.ref a0] h0 i_86_11 rfl ?_
        obtain ⟨f_6, q_7, hd⟩ := dk_bind hd
        refine hp_gR 15 rfl i_86_12 q_7 ?_
        refine wp_s 16 [some (.ref a0), none, none, none, none] [.ref a0, .ref f_6] h0 i_86_15 rfl ?_
        obtain ⟨f_8, q_9, hd⟩ := dk_bind hd
        refine hp_gI 19 rfl i_86_16 q_9 ?_
        obtain ⟨f_10, q_11, hd⟩ := dk_bind hd
        refine hp_gB 20 rfl i_86_19 q_11 ?_
        refine wp_s 22 [some (.ref a0), none, none, none, none] [.int (97 : Int32), .int f_10] h0 i_86_20 rfl ?_
        refine wp_cmp_lt 52 25 rfl rfl i_86_22 (fun c_12 => ?_) (fun c_12 => ?_)
        · rw [if_pos c_12] at hd
          exact aWp.forget (ih.2.1 _ _ _ _ _ _ _ hd) (lvS (lvN (lvN (lvN (lvN lvE)))))
        · rw [if_neg c_12] at hd
          refine wp_s 26 [some (.ref a0), none, none, none, none] [.ref a0] h0 i_86_25 rfl ?_
          obtain ⟨f_13, q_14, hd⟩ := dk_bind hd
          refine hp_gR 29 rfl i_86_26 q_14 ?_
          refine wp_s 30 [some (.ref a0), none, none, none, none] [.ref a0, .ref f_13] h0 i_86_29 rfl ?_
          obtain ⟨f_15, q_16, hd⟩ := dk_bind hd
          refine hp_gI 33 rfl i_86_30 q_16 ?_
          obtain ⟨f_17, q_18, hd⟩ := dk_bind hd
          refine hp_gB 34 rfl i_86_33 q_18 ?_
          refine wp_s 36 [some (.ref a0), none, none, none, none] [.int (122 : Int32), .int f_17] h0 i_86_34 rfl ?_
          refine wp_cmp_gt 52 39 rfl rfl i_86_36 (fun c_19 => ?_) (fun c_19 => ?_)
          · rw [if_pos c_19] at hd
            exact aWp.forget (ih.2.1 _ _ _ _ _ _ _ hd) (lvS (lvN (lvN (lvN (lvN lvE)))))
          · rw [if_neg c_19] at hd
            refine wp_s 40 [some (.ref a0), none, none, none, none] [.ref a0] h0 i_86_39 rfl ?_
            refine wp_s 41 [some (.ref a0), none, none, none, none] [.ref a0, .ref a0] h0 i_86_40 rfl ?_
            obtain ⟨f_20, q_21, hd⟩ := dk_bind hd
            refine hp_gI 44 rfl i_86_41 q_21 ?_
            refine wp_s 45 [some (.ref a0), none, none, none, none] [.int (1 : Int32), .int f_20, .ref a0] h0 i_86_44 rfl ?_
            refine wp_s 46 [some (.ref a0), none, none, none, none] [.int (f_20 + (1 : Int32)), .ref a0] h0 i_86_45 rfl ?_
            obtain ⟨h_22, q_23, hd⟩ := dk_bind hd
            refine hp_sF 49 rfl i_86_46 q_23 ?_
            refine wp_s 0 [some (.ref a0), none, none, none, none] [] h_22 i_86_49 rfl ?_
            exact aWp.forget (ih.1 _ _ _ _ _ _ _ hd) (lvS (lvN (lvN (lvN (lvN lvE)))))
    · intro a0 x1 x2 x3 x4 h0 zz hd
      unfold l_86 at hd
      rw [if_neg (by decide), if_pos rfl] at hd
      refine wp_s 53 [some (.ref a0), none, none, none, none] [.ref a0] h0 i_86_52 rfl ?_
      refine wp_s 55 [some (.ref a0), none, none, none, none] [.int (22 : Int32), .ref a0] h0 i_86_53 rfl ?_
      obtain ⟨h_24, q_25, hd⟩ := dk_bind hd
      refine hp_sF 58 rfl i_86_55 q_25 ?_
      refine wp_s 59 [some (.ref a0), none, none, none, none] [.ref a0] h_24 i_86_58 rfl ?_
      obtain ⟨f_26, q_27, hd⟩ := dk_bind hd
      refine hp_gI 62 rfl i_86_59 q_27 ?_
      refine wp_s 63 [some (.ref a0), none, none, none, none] [.ref a0, .int f_26] h_24 i_86_62 rfl ?_
      obtain ⟨f_28, q_29, hd⟩ := dk_bind hd
      refine hp_gI 66 rfl i_86_63 q_29 ?_
      refine wp_s 67 [some (.ref a0), none, none, none, none] [.int (f_26 - f_28)] h_24 i_86_66 rfl ?_
      refine wp_s 68 [some (.ref a0), some (.int (f_26 - f_28)), none, none, none] [] h_24 i_86_67 rfl ?_
      refine wp_s 69 [some (.ref a0), some (.int (f_26 - f_28)), none, none, none] [.int (0 : Int32)] h_24 i_86_68 rfl ?_
      refine wp_s 70 [some (.ref a0), some (.int (f_26 - f_28)), some (.int (0 : Int32)), none, none] [] h_24 i_86_69 rfl ?_
      exact aWp.forget (ih.2.2.1 _ _ _ _ _ _ _ hd) (lvS (lvS (lvS (lvN (lvN lvE)))))
    · intro a0 x1 x2 x3 x4 h0 zz hd
      unfold l_86 at hd
      rw [if_neg (by decide), if_neg (by decide), if_pos rfl] at hd
      refine wp_s 71 [some (.ref a0), some (.int x1), some (.int x2), none, none] [.int x2] h0 i_86_70 rfl ?_
      refine wp_s 73 [some (.ref a0), some (.int x1), some (.int x2), none, none] [.int (20 : Int32), .int x2] h0 i_86_71 rfl ?_
      refine wp_cmp_ge 157 76 rfl rfl i_86_73 (fun c_30 => ?_) (fun c_30 => ?_)
      · rw [if_pos c_30] at hd
        obtain rfl := Option.some.inj hd
        exact wp_ret i_86_157 rfl ⟨rfl, rfl⟩
      · rw [if_neg c_30] at hd
        refine wp_s 77 [some (.ref a0), some (.int x1), some (.int x2), none, none] [.int x1] h0 i_86_76 rfl ?_
        refine wp_s 79 [some (.ref a0), some (.int x1), some (.int x2), none, none] [.int (8 : Int32), .int x1] h0 i_86_77 rfl ?_
        refine wp_cmp_ge 157 82 rfl rfl i_86_79 (fun c_31 => ?_) (fun c_31 => ?_)
        · rw [if_pos c_31] at hd
          obtain rfl := Option.some.inj hd
          exact wp_ret i_86_157 rfl ⟨rfl, rfl⟩
        · rw [if_neg c_31] at hd
          refine wp_s 83 [some (.ref a0), some (.int x1), some (.int x2), none, none] [.int x2] h0 i_86_82 rfl ?_
          refine wp_s 85 [some (.ref a0), some (.int x1), some (.int x2), none, none] [.int (8 : Int32), .int x2] h0 i_86_83 rfl ?_
          refine wp_s 86 [some (.ref a0), some (.int x1), some (.int x2), none, none] [.int (x2 * (8 : Int32))] h0 i_86_85 rfl ?_
          refine wp_s 87 [some (.ref a0), some (.int x1), some (.int x2), some (.int (x2 * (8 : Int32))), none] [] h0 i_86_86 rfl ?_
          refine wp_s 88 [some (.ref a0), some (.int x1), some (.int x2), some (.int (x2 * (8 : Int32))), none] [.int (0 : Int32)] h0 i_86_87 rfl ?_
          refine wp_s 90 [some (.ref a0), some (.int x1), some (.int x2), some (.int (x2 * (8 : Int32))), some (.int (0 : Int32))] [] h0 i_86_88 rfl ?_
          exact aWp.forget (ih.2.2.2.1 _ _ _ _ _ _ _ hd) (lvS (lvS (lvS (lvS (lvS lvE)))))
    · intro a0 x1 x2 x3 x4 h0 zz hd
      unfold l_86 at hd
      rw [if_neg (by decide), if_neg (by decide), if_neg (by decide), if_pos rfl] at hd
      refine wp_s 92 [some (.ref a0), some (.int x1), some (.int x2), some (.int x3), some (.int x4)] [.int x4] h0 i_86_90 rfl ?_
      refine wp_s 93 [some (.ref a0), some (.int x1), some (.int x2), some (.int x3), some (.int x4)] [.int x1, .int x4] h0 i_86_92 rfl ?_
      refine wp_cmp_ge 126 96 rfl rfl i_86_93 (fun c_32 => ?_) (fun c_32 => ?_)
      · rw [if_pos c_32] at hd
        exact aWp.forget (ih.2.2.2.2.1 _ _ _ _ _ _ _ hd) (lvS (lvS (lvS (lvS (lvS lvE)))))
      · rw [if_neg c_32] at hd
        refine wp_s 98 [some (.ref a0), some (.int x1), some (.int x2), some (.int x3), some (.int x4)] [.float 0] h0 i_86_96 rfl ?_
        refine wp_s 99 [some (.ref a0), some (.int x1), some (.int x2), some (.int x3), some (.int x4)] [.int x3, .float 0] h0 i_86_98 rfl ?_
        refine wp_s 101 [some (.ref a0), some (.int x1), some (.int x2), some (.int x3), some (.int x4)] [.int x4, .int x3, .float 0] h0 i_86_99 rfl ?_
        refine wp_s 102 [some (.ref a0), some (.int x1), some (.int x2), some (.int x3), some (.int x4)] [.int (x3 + x4), .float 0] h0 i_86_101 rfl ?_
        obtain ⟨k_33, hd⟩ := dk_if hd
        refine hp_chr 105 rfl i_86_102 rfl k_33 ?_
        refine wp_s 106 [some (.ref a0), some (.int x1), some (.int x2), some (.int x3), some (.int x4)] [.ref a0, .int (aTxt ((x3 + x4)).toNatClampNeg)] h0 i_86_105 rfl ?_
        obtain ⟨f_34, q_35, hd⟩ := dk_bind hd
        refine hp_gR 109 rfl i_86_106 q_35 ?_
        refine wp_s 110 [some (.ref a0), some (.int x1), some (.int x2), some (.int x3), some (.int x4)] [.ref a0, .ref f_34, .int (aTxt ((x3 + x4)).toNatClampNeg)] h0 i_86_109 rfl ?_
        obtain ⟨f_36, q_37, hd⟩ := dk_bind hd
        refine hp_gI 113 rfl i_86_110 q_37 ?_
        refine wp_s 115 [some (.ref a0), some (.int x1), some (.int x2), some (.int x3), some (.int x4)] [.int x4, .int f_36, .ref f_34, .int (aTxt ((x3 + x4)).toNatClampNeg)] h0 i_86_113 rfl ?_
        refine wp_s 116 [some (.ref a0), some (.int x1), some (.int x2), some (.int x3), some (.int x4)] [.int (f_36 + x4), .ref f_34, .int (aTxt ((x3 + x4)).toNatClampNeg)] h0 i_86_115 rfl ?_
        obtain ⟨f_38, q_39, hd⟩ := dk_bind hd
        refine hp_gB 117 rfl i_86_116 q_39 ?_
        refine wp_cmp_ne 126 120 rfl rfl i_86_117 (fun c_40 => ?_) (fun c_40 => ?_)
        · rw [if_pos c_40] at hd
          exact aWp.forget (ih.2.2.2.2.1 _ _ _ _ _ _ _ hd) (lvS (lvS (lvS (lvS (lvS lvE)))))
        · rw [if_neg c_40] at hd
          refine wp_s 123 [some (.ref a0), some (.int x1), some (.int x2), some (.int x3), some (.int (x4 + (1 : Int32)))] [] h0 i_86_120 rfl ?_
          refine wp_s 90 [some (.ref a0), some (.int x1), some (.int x2), some (.int x3), some (.int (x4 + (1 : Int32)))] [] h0 i_86_123 rfl ?_
          exact aWp.forget (ih.2.2.2.1 _ _ _ _ _ _ _ hd) (lvS (lvS (lvS (lvS (lvS lvE)))))
    · intro a0 x1 x2 x3 x4 h0 zz hd
      unfold l_86 at hd
      rw [if_neg (by decide), if_neg (by decide), if_neg (by decide), if_neg (by decide), if_pos rfl] at hd
      refine wp_s 128 [some (.ref a0), some (.int x1), some (.int x2), some (.int x3), some (.int x4)] [.int x4] h0 i_86_126 rfl ?_
      refine wp_s 129 [some (.ref a0), some (.int x1), some (.int x2), some (.int x3), some (.int x4)] [.int x1, .int x4] h0 i_86_128 rfl ?_
      refine wp_cmp_ne 151 132 rfl rfl i_86_129 (fun c_41 => ?_) (fun c_41 => ?_)
      · rw [if_pos c_41] at hd
        exact aWp.forget (ih.2.2.2.2.2 _ _ _ _ _ _ _ hd) (lvS (lvS (lvS (lvS (lvS lvE)))))
      · rw [if_neg c_41] at hd
        refine wp_s 134 [some (.ref a0), some (.int x1), some (.int x2), some (.int x3), some (.int x4)] [.float 0] h0 i_86_132 rfl ?_
        refine wp_s 135 [some (.ref a0), some (.int x1), some (.int x2), some (.int x3), some (.int x4)] [.int x3, .float 0] h0 i_86_134 rfl ?_
        refine wp_s 137 [some (.ref a0), some (.int x1), some (.int x2), some (.int x3), some (.int x4)] [.int x4, .int x3, .float 0] h0 i_86_135 rfl ?_
        refine wp_s 138 [some (.ref a0), some (.int x1), some (.int x2), some (.int x3), some (.int x4)] [.int (x3 + x4), .float 0] h0 i_86_137 rfl ?_
        obtain ⟨k_42, hd⟩ := dk_if hd
        refine hp_chr 141 rfl i_86_138 rfl k_42 ?_
        refine wp_s 143 [some (.ref a0), some (.int x1), some (.int x2), some (.int x3), some (.int x4)] [.int (32 : Int32), .int (aTxt ((x3 + x4)).toNatClampNeg)] h0 i_86_141 rfl ?_
        refine wp_cmp_ne 151 146 rfl rfl i_86_143 (fun c_43 => ?_) (fun c_43 => ?_)
        · rw [if_pos c_43] at hd
          exact aWp.forget (ih.2.2.2.2.2 _ _ _ _ _ _ _ hd) (lvS (lvS (lvS (lvS (lvS lvE)))))
        · rw [if_neg c_43] at hd
          refine wp_s 147 [some (.ref a0), some (.int x1), some (.int x2), some (.int x3), some (.int x4)] [.ref a0] h0 i_86_146 rfl ?_
          refine wp_s 148 [some (.ref a0), some (.int x1), some (.int x2), some (.int x3), some (.int x4)] [.int x2, .ref a0] h0 i_86_147 rfl ?_
          obtain ⟨h_44, q_45, hd⟩ := dk_bind hd
          refine hp_sF 151 rfl i_86_148 q_45 ?_
          exact aWp.forget (ih.2.2.2.2.2 _ _ _ _ _ _ _ hd) (lvS (lvS (lvS (lvS (lvS lvE)))))
    · intro a0 x1 x2 x3 x4 h0 zz hd
      unfold l_86 at hd
      rw [if_neg (by decide), if_neg (by decide), if_neg (by decide), if_neg (by decide), if_neg (by decide), if_pos rfl] at hd
      refine wp_s 154 [some (.ref a0), some (.int x1), some (.int (x2 + (1 : Int32))), some (.int x3), some (.int x4)] [] h0 i_86_151 rfl ?_
      refine wp_s 70 [some (.ref a0), some (.int x1), some (.int (x2 + (1 : Int32))), some (.int x3), some (.int x4)] [] h0 i_86_154 rfl ?_
      exact aWp.forget (ih.2.2.1 _ _ _ _ _ _ _ hd) (lvS (lvS (lvS (lvN (lvN lvE)))))
def d_86 (g : Nat) (a0 : Nat) (h0 : aH) : Option (aH) := (l_86 g g 0 a0 0 0 0 0 h0)
set_option maxHeartbeats 4000000 in
set_option maxRecDepth 100000 in
theorem d_86_ok {X : aX} {g : Nat} {a0 : Nat} {h0 : aH} {zz : aH} {d : Nat} (hdp : 0 ≤ d) (hd : d_86 g a0 h0 = some zz) : aWp X d 86 0 (aEntL [.ref a0] 5) [] h0 (fun w h' => w = none ∧ h' = zz) := by
  unfold d_86 at hd
  refine wp_lv (l2 := [some (.ref a0), none, none, none, none]) rfl ?_
  exact aWp.forget ((l_86_ok hdp g).1 _ _ _ _ _ _ _ hd) (lvS (lvN (lvN (lvN (lvN lvE)))))
def j_87_295 (g : Nat) (a0 : Nat) (x1 : Int32) (s0 : Int32) (s1 : Int32) (b2 : Nat) (h0 : aH) : Option (aH) := ((sF h0 b2 8 2 (.int (s1 + s0))).bind (fun h_1 => some h_1))
set_option maxHeartbeats 4000000 in
set_option maxRecDepth 100000 in
theorem j_87_295_ok {X : aX} {g : Nat} {a0 : Nat} {x1 : Int32} {s0 : Int32} {s1 : Int32} {b2 : Nat} {h0 : aH} {zz : aH} {d : Nat} (hdp : 0 ≤ d) (hd : j_87_295 g a0 x1 s0 s1 b2 h0 = some zz) : aWp X d 87 295 [some (.ref a0), some (.int x1)] [.int s0, .int s1, .ref b2] h0 (fun w h' => w = none ∧ h' = zz) := by
  unfold j_87_295 at hd
  refine wp_s 296 [some (.ref a0), some (.int x1)] [.int (s1 + s0), .ref b2] h0 i_87_295 rfl ?_
  obtain ⟨h_1, q_2, hd⟩ := dk_bind hd
  refine hp_sF 299 rfl i_87_296 q_2 ?_
  obtain rfl := Option.some.inj hd
  exact wp_ret i_87_299 rfl ⟨rfl, rfl⟩
def j_87_290 (g : Nat) (a0 : Nat) (x1 : Int32) (s0 : Int32) (b1 : Nat) (h0 : aH) : Option (aH) := (j_87_295 g a0 x1 (2 : Int32) s0 b1 h0)
set_option maxHeartbeats 4000000 in
set_option maxRecDepth 100000 in
theorem j_87_290_ok {X : aX} {g : Nat} {a0 : Nat} {x1 : Int32} {s0 : Int32} {b1 : Nat} {h0 : aH} {zz : aH} {d : Nat} (hdp : 0 ≤ d) (hd : j_87_290 g a0 x1 s0 b1 h0 = some zz) : aWp X d 87 290 [some (.ref a0), some (.int x1)] [.int s0, .ref b1] h0 (fun w h' => w = none ∧ h' = zz) := by
  unfold j_87_290 at hd
  refine wp_s 291 [some (.ref a0), some (.int x1)] [.int (2 : Int32), .int s0, .ref b1] h0 i_87_290 rfl ?_
  refine wp_s 295 [some (.ref a0), some (.int x1)] [.int (2 : Int32), .int s0, .ref b1] h0 i_87_291 rfl ?_
  exact aWp.forget (j_87_295_ok hdp hd) (lvS (lvS lvE))
def j_87_267 (g : Nat) (a0 : Nat) (x1 : Int32) (h0 : aH) : Option (aH) := ((gI h0 a0 8 2).bind (fun f_1 => ((gI h0 a0 8 3).bind (fun f_3 => (if f_3 = (32 : Int32) then (j_87_290 g a0 x1 f_1 a0 h0) else ((gI h0 a0 8 3).bind (fun f_6 => (if ¬ f_6 = (34 : Int32) then (j_87_295 g a0 x1 (1 : Int32) f_1 a0 h0) else (j_87_290 g a0 x1 f_1 a0 h0)))))))))
set_option maxHeartbeats 4000000 in
set_option maxRecDepth 100000 in
theorem j_87_267_ok {X : aX} {g : Nat} {a0 : Nat} {x1 : Int32} {h0 : aH} {zz : aH} {d : Nat} (hdp : 0 ≤ d) (hd : j_87_267 g a0 x1 h0 = some zz) : aWp X d 87 267 [some (.ref a0), some (.int x1)] [] h0 (fun w h' => w = none ∧ h' = zz) := by
  unfold j_87_267 at hd
  refine wp_s 268 [some (.ref a0), some (.int x1)] [.ref a0] h0 i_87_267 rfl ?_
  refine wp_s 269 [some (.ref a0), some (.int x1)] [.ref a0, .ref a0] h0 i_87_268 rfl ?_
  obtain ⟨f_1, q_2, hd⟩ := dk_bind hd
  refine hp_gI 272 rfl i_87_269 q_2 ?_
  refine wp_s 273 [some (.ref a0), some (.int x1)] [.ref a0, .int f_1, .ref a0] h0 i_87_272 rfl ?_
  obtain ⟨f_3, q_4, hd⟩ := dk_bind hd
  refine hp_gI 276 rfl i_87_273 q_4 ?_
  refine wp_s 278 [some (.ref a0), some (.int x1)] [.int (32 : Int32), .int f_3, .int f_1, .ref a0] h0 i_87_276 rfl ?_
  refine wp_cmp_eq 290 281 rfl rfl i_87_278 (fun c_5 => ?_) (fun c_5 => ?_)
  · rw [if_pos c_5] at hd
    exact aWp.forget (j_87_290_ok hdp hd) (lvS (lvS lvE))
  · rw [if_neg c_5] at hd
    refine wp_s 282 [some (.ref a0), some (.int x1)] [.ref a0, .int f_1, .ref a0] h0 i_87_281 rfl ?_
    obtain ⟨f_6, q_7, hd⟩ := dk_bind hd
    refine hp_gI 285 rfl i_87_282 q_7 ?_
    refine wp_s 287 [some (.ref a0), some (.int x1)] [.int (34 : Int32), .int f_6, .int f_1, .ref a0] h0 i_87_285 rfl ?_
    refine wp_cmp_ne 294 290 rfl rfl i_87_287 (fun c_8 => ?_) (fun c_8 => ?_)
    · rw [if_pos c_8] at hd
      refine wp_s 295 [some (.ref a0), some (.int x1)] [.int (1 : Int32), .int f_1, .ref a0] h0 i_87_294 rfl ?_
      exact aWp.forget (j_87_295_ok hdp hd) (lvS (lvS lvE))
    · rw [if_neg c_8] at hd
      exact aWp.forget (j_87_290_ok hdp hd) (lvS (lvS lvE))
def j_87_255 (g : Nat) (a0 : Nat) (x1 : Int32) (s0 : Int32) (b1 : Nat) (h0 : aH) : Option (aH) := ((sF h0 b1 8 3 (.int s0)).bind (fun h_1 => (j_87_267 g a0 x1 h_1)))
set_option maxHeartbeats 4000000 in
set_option maxRecDepth 100000 in
theorem j_87_255_ok {X : aX} {g : Nat} {a0 : Nat} {x1 : Int32} {s0 : Int32} {b1 : Nat} {h0 : aH} {zz : aH} {d : Nat} (hdp : 0 ≤ d) (hd : j_87_255 g a0 x1 s0 b1 h0 = some zz) : aWp X d 87 255 [some (.ref a0), some (.int x1)] [.int s0, .ref b1] h0 (fun w h' => w = none ∧ h' = zz) := by
  unfold j_87_255 at hd
  obtain ⟨h_1, q_2, hd⟩ := dk_bind hd
  refine hp_sF 258 rfl i_87_255 q_2 ?_
  refine wp_s 267 [some (.ref a0), some (.int x1)] [] h_1 i_87_258 rfl ?_
  exact aWp.forget (j_87_267_ok hdp hd) (lvS (lvS lvE))
def j_87_228 (g : Nat) (a0 : Nat) (x1 : Int32) (s0 : Int32) (b1 : Nat) (h0 : aH) : Option (aH) := ((sF h0 b1 8 3 (.int s0)).bind (fun h_1 => (j_87_267 g a0 x1 h_1)))
set_option maxHeartbeats 4000000 in
set_option maxRecDepth 100000 in
theorem j_87_228_ok {X : aX} {g : Nat} {a0 : Nat} {x1 : Int32} {s0 : Int32} {b1 : Nat} {h0 : aH} {zz : aH} {d : Nat} (hdp : 0 ≤ d) (hd : j_87_228 g a0 x1 s0 b1 h0 = some zz) : aWp X d 87 228 [some (.ref a0), some (.int x1)] [.int s0, .ref b1] h0 (fun w h' => w = none ∧ h' = zz) := by
  unfold j_87_228 at hd
  obtain ⟨h_1, q_2, hd⟩ := dk_bind hd
  refine hp_sF 231 rfl i_87_228 q_2 ?_
  refine wp_s 267 [some (.ref a0), some (.int x1)] [] h_1 i_87_231 rfl ?_
  exact aWp.forget (j_87_267_ok hdp hd) (lvS (lvS lvE))
def j_87_34 (g : Nat) (a0 : Nat) (s0 : Int32) (h0 : aH) : Option (aH) := ((gR h0 a0 8 0).bind (fun f_1 => ((gI h0 a0 8 2).bind (fun f_3 => ((gB h0 f_1 f_3).bind (fun f_5 => (if f_5 = (37 : Int32) then ((sF h0 a0 8 3 (.int (30 : Int32))).bind (fun h_8 => (j_87_267 g a0 s0 h_8))) else (if f_5 = (42 : Int32) then ((sF h0 a0 8 3 (.int (28 : Int32))).bind (fun h_11 => (j_87_267 g a0 s0 h_11))) else (if f_5 = (43 : Int32) then ((sF h0 a0 8 3 (.int (26 : Int32))).bind (fun h_14 => (j_87_267 g a0 s0 h_14))) else (if f_5 = (45 : Int32) then ((sF h0 a0 8 3 (.int (27 : Int32))).bind (fun h_17 => (j_87_267 g a0 s0 h_17))) else (if f_5 = (47 : Int32) then ((sF h0 a0 8 3 (.int (29 : Int32))).bind (fun h_20 => (j_87_267 g a0 s0 h_20))) else (if f_5 = (59 : Int32) then ((sF h0 a0 8 3 (.int (23 : Int32))).bind (fun h_23 => (j_87_267 g a0 s0 h_23))) else (if f_5 = (60 : Int32) then (if s0 = 0 then (j_87_228 g a0 s0 (31 : Int32) a0 h0) else (j_87_228 g a0 s0 (32 : Int32) a0 h0)) else (if f_5 = (61 : Int32) then ((sF h0 a0 8 3 (.int (33 : Int32))).bind (fun h_28 => (j_87_267 g a0 s0 h_28))) else (if f_5 = (62 : Int32) then (if s0 = 0 then (j_87_255 g a0 s0 (35 : Int32) a0 h0) else (j_87_255 g a0 s0 (34 : Int32) a0 h0)) else (if f_5 = (91 : Int32) then ((sF h0 a0 8 3 (.int (24 : Int32))).bind (fun h_33 => (j_87_267 g a0 s0 h_33))) else (if f_5 = (93 : Int32) then ((sF h0 a0 8 3 (.int (25 : Int32))).bind (fun h_36 => (j_87_267 g a0 s0 h_36))) else ((sF h0 a0 8 3 (.int (22 : Int32))).bind (fun h_38 => (j_87_267 g a0 s0 h_38))))))))))))))))))))
set_option maxHeartbeats 4000000 in
set_option maxRecDepth 100000 in
theorem j_87_34_ok {X : aX} {g : Nat} {a0 : Nat} {s0 : Int32} {h0 : aH} {zz : aH} {d : Nat} (hdp : 0 ≤ d) (hd : j_87_34 g a0 s0 h0 = some zz) : aWp X d 87 34 [some (.ref a0), none] [.int s0] h0 (fun w h' => w = none ∧ h' = zz) := by
  unfold j_87_34 at hd
  refine wp_s 35 [some (.ref a0), some (.int s0)] [] h0 i_87_34 rfl ?_
  refine wp_s 36 [some (.ref a0), some (.int s0)] [.ref a0] h0 i_87_35 rfl ?_
  obtain ⟨f_1, q_2, hd⟩ := dk_bind hd
  refine hp_gR 39 rfl i_87_36 q_2 ?_
  refine wp_s 40 [some (.ref a0), some (.int s0)] [.ref a0, .ref f_1] h0 i_87_39 rfl ?_
  obtain ⟨f_3, q_4, hd⟩ := dk_bind hd
  refine hp_gI 43 rfl i_87_40 q_4 ?_
  obtain ⟨f_5, q_6, hd⟩ := dk_bind hd
  refine hp_gB 44 rfl i_87_43 q_6 ?_
  by_cases c_7 : f_5 = (37 : Int32)
  · rw [if_pos c_7] at hd
    refine hp_lsw 207 i_87_44 (by rw [c_7]; decide) ?_
    refine wp_s 208 [some (.ref a0), some (.int s0)] [.ref a0] h0 i_87_207 rfl ?_
    refine wp_s 210 [some (.ref a0), some (.int s0)] [.int (30 : Int32), .ref a0] h0 i_87_208 rfl ?_
    obtain ⟨h_8, q_9, hd⟩ := dk_bind hd
    refine hp_sF 213 rfl i_87_210 q_9 ?_
    refine wp_s 267 [some (.ref a0), some (.int s0)] [] h_8 i_87_213 rfl ?_
    exact aWp.forget (j_87_267_ok hdp hd) (lvS (lvS lvE))
  rw [if_neg c_7] at hd
  by_cases c_10 : f_5 = (42 : Int32)
  · rw [if_pos c_10] at hd
    refine hp_lsw 189 i_87_44 (by rw [c_10]; decide) ?_
    refine wp_s 190 [some (.ref a0), some (.int s0)] [.ref a0] h0 i_87_189 rfl ?_
    refine wp_s 192 [some (.ref a0), some (.int s0)] [.int (28 : Int32), .ref a0] h0 i_87_190 rfl ?_
    obtain ⟨h_11, q_12, hd⟩ := dk_bind hd
    refine hp_sF 195 rfl i_87_192 q_12 ?_
    refine wp_s 267 [some (.ref a0), some (.int s0)] [] h_11 i_87_195 rfl ?_
    exact aWp.forget (j_87_267_ok hdp hd) (lvS (lvS lvE))
  rw [if_neg c_10] at hd
  by_cases c_13 : f_5 = (43 : Int32)
  · rw [if_pos c_13] at hd
    refine hp_lsw 171 i_87_44 (by rw [c_13]; decide) ?_
    refine wp_s 172 [some (.ref a0), some (.int s0)] [.ref a0] h0 i_87_171 rfl ?_
    refine wp_s 174 [some (.ref a0), some (.int s0)] [.int (26 : Int32), .ref a0] h0 i_87_172 rfl ?_
    obtain ⟨h_14, q_15, hd⟩ := dk_bind hd
    refine hp_sF 177 rfl i_87_174 q_15 ?_
    refine wp_s 267 [some (.ref a0), some (.int s0)] [] h_14 i_87_177 rfl ?_
    exact aWp.forget (j_87_267_ok hdp hd) (lvS (lvS lvE))
  rw [if_neg c_13] at hd
  by_cases c_16 : f_5 = (45 : Int32)
  · rw [if_pos c_16] at hd
    refine hp_lsw 180 i_87_44 (by rw [c_16]; decide) ?_
    refine wp_s 181 [some (.ref a0), some (.int s0)] [.ref a0] h0 i_87_180 rfl ?_
    refine wp_s 183 [some (.ref a0), some (.int s0)] [.int (27 : Int32), .ref a0] h0 i_87_181 rfl ?_
    obtain ⟨h_17, q_18, hd⟩ := dk_bind hd
    refine hp_sF 186 rfl i_87_183 q_18 ?_
    refine wp_s 267 [some (.ref a0), some (.int s0)] [] h_17 i_87_186 rfl ?_
    exact aWp.forget (j_87_267_ok hdp hd) (lvS (lvS lvE))
  rw [if_neg c_16] at hd
  by_cases c_19 : f_5 = (47 : Int32)
  · rw [if_pos c_19] at hd
    refine hp_lsw 198 i_87_44 (by rw [c_19]; decide) ?_
    refine wp_s 199 [some (.ref a0), some (.int s0)] [.ref a0] h0 i_87_198 rfl ?_
    refine wp_s 201 [some (.ref a0), some (.int s0)] [.int (29 : Int32), .ref a0] h0 i_87_199 rfl ?_
    obtain ⟨h_20, q_21, hd⟩ := dk_bind hd
    refine hp_sF 204 rfl i_87_201 q_21 ?_
    refine wp_s 267 [some (.ref a0), some (.int s0)] [] h_20 i_87_204 rfl ?_
    exact aWp.forget (j_87_267_ok hdp hd) (lvS (lvS lvE))
  rw [if_neg c_19] at hd
  by_cases c_22 : f_5 = (59 : Int32)
  · rw [if_pos c_22] at hd
    refine hp_lsw 144 i_87_44 (by rw [c_22]; decide) ?_
    refine wp_s 145 [some (.ref a0), some (.int s0)] [.ref a0] h0 i_87_144 rfl ?_
    refine wp_s 147 [some (.ref a0), some (.int s0)] [.int (23 : Int32), .ref a0] h0 i_87_145 rfl ?_
    obtain ⟨h_23, q_24, hd⟩ := dk_bind hd
    refine hp_sF 150 rfl i_87_147 q_24 ?_
    refine wp_s 267 [some (.ref a0), some (.int s0)] [] h_23 i_87_150 rfl ?_
    exact aWp.forget (j_87_267_ok hdp hd) (lvS (lvS lvE))
  rw [if_neg c_22] at hd
  by_cases c_25 : f_5 = (60 : Int32)
  · rw [if_pos c_25] at hd
    refine hp_lsw 216 i_87_44 (by rw [c_25]; decide) ?_
    refine wp_s 217 [some (.ref a0), some (.int s0)] [.ref a0] h0 i_87_216 rfl ?_
    refine wp_s 218 [some (.ref a0), some (.int s0)] [.int s0, .ref a0] h0 i_87_217 rfl ?_
    refine wp_if_eq 226 221 rfl rfl i_87_218 (fun c_26 => ?_) (fun c_26 => ?_)
    · rw [if_pos c_26] at hd
      refine wp_s 228 [some (.ref a0), some (.int s0)] [.int (31 : Int32), .ref a0] h0 i_87_226 rfl ?_
      exact aWp.forget (j_87_228_ok hdp hd) (lvS (lvS lvE))
    · rw [if_neg c_26] at hd
      refine wp_s 223 [some (.ref a0), some (.int s0)] [.int (32 : Int32), .ref a0] h0 i_87_221 rfl ?_
      refine wp_s 228 [some (.ref a0), some (.int s0)] [.int (32 : Int32), .ref a0] h0 i_87_223 rfl ?_
      exact aWp.forget (j_87_228_ok hdp hd) (lvS (lvS lvE))
  rw [if_neg c_25] at hd
  by_cases c_27 : f_5 = (61 : Int32)
  · rw [if_pos c_27] at hd
    refine hp_lsw 234 i_87_44 (by rw [c_27]; decide) ?_
    refine wp_s 235 [some (.ref a0), some (.int s0)] [.ref a0] h0 i_87_234 rfl ?_
    refine wp_s 237 [some (.ref a0), some (.int s0)] [.int (33 : Int32), .ref a0] h0 i_87_235 rfl ?_
    obtain ⟨h_28, q_29, hd⟩ := dk_bind hd
    refine hp_sF 240 rfl i_87_237 q_29 ?_
    refine wp_s 267 [some (.ref a0), some (.int s0)] [] h_28 i_87_240 rfl ?_
    exact aWp.forget (j_87_267_ok hdp hd) (lvS (lvS lvE))
  rw [if_neg c_27] at hd
  by_cases c_30 : f_5 = (62 : Int32)
  · rw [if_pos c_30] at hd
    refine hp_lsw 243 i_87_44 (by rw [c_30]; decide) ?_
    refine wp_s 244 [some (.ref a0), some (.int s0)] [.ref a0] h0 i_87_243 rfl ?_
    refine wp_s 245 [some (.ref a0), some (.int s0)] [.int s0, .ref a0] h0 i_87_244 rfl ?_
    refine wp_if_eq 253 248 rfl rfl i_87_245 (fun c_31 => ?_) (fun c_31 => ?_)
    · rw [if_pos c_31] at hd
      refine wp_s 255 [some (.ref a0), some (.int s0)] [.int (35 : Int32), .ref a0] h0 i_87_253 rfl ?_
      exact aWp.forget (j_87_255_ok hdp hd) (lvS (lvS lvE))
    · rw [if_neg c_31] at hd
      refine wp_s 250 [some (.ref a0), some (.int s0)] [.int (34 : Int32), .ref a0] h0 i_87_248 rfl ?_
      refine wp_s 255 [some (.ref a0), some (.int s0)] [.int (34 : Int32), .ref a0] h0 i_87_250 rfl ?_
      exact aWp.forget (j_87_255_ok hdp hd) (lvS (lvS lvE))
  rw [if_neg c_30] at hd
  by_cases c_32 : f_5 = (91 : Int32)
  · rw [if_pos c_32] at hd
    refine hp_lsw 153 i_87_44 (by rw [c_32]; decide) ?_
    refine wp_s 154 [some (.ref a0), some (.int s0)] [.ref a0] h0 i_87_153 rfl ?_
    refine wp_s 156 [some (.ref a0), some (.int s0)] [.int (24 : Int32), .ref a0] h0 i_87_154 rfl ?_
    obtain ⟨h_33, q_34, hd⟩ := dk_bind hd
    refine hp_sF 159 rfl i_87_156 q_34 ?_
    refine wp_s 267 [some (.ref a0), some (.int s0)] [] h_33 i_87_159 rfl ?_
    exact aWp.forget (j_87_267_ok hdp hd) (lvS (lvS lvE))
  rw [if_neg c_32] at hd
  by_cases c_35 : f_5 = (93 : Int32)
  · rw [if_pos c_35] at hd
    refine hp_lsw 162 i_87_44 (by rw [c_35]; decide) ?_
    refine wp_s 163 [some (.ref a0), some (.int s0)] [.ref a0] h0 i_87_162 rfl ?_
    refine wp_s 165 [some (.ref a0), some (.int s0)] [.int (25 : Int32), .ref a0] h0 i_87_163 rfl ?_
    obtain ⟨h_36, q_37, hd⟩ := dk_bind hd
    refine hp_sF 168 rfl i_87_165 q_37 ?_
    refine wp_s 267 [some (.ref a0), some (.int s0)] [] h_36 i_87_168 rfl ?_
    exact aWp.forget (j_87_267_ok hdp hd) (lvS (lvS lvE))
  rw [if_neg c_35] at hd
  refine hp_lsw 261 i_87_44 (by rw [lv_osw c_7 (by decide), lv_osw c_10 (by decide), lv_osw c_13 (by decide), lv_osw c_16 (by decide), lv_osw c_19 (by decide), lv_osw c_22 (by decide), lv_osw c_25 (by decide), lv_osw c_27 (by decide), lv_osw c_30 (by decide), lv_osw c_32 (by decide), lv_osw c_35 (by decide)]; rfl) ?_
  refine wp_s 262 [some (.ref a0), some (.int s0)] [.ref a0] h0 i_87_261 rfl ?_
  refine wp_s 264 [some (.ref a0), some (.int s0)] [.int (22 : Int32), .ref a0] h0 i_87_262 rfl ?_
  obtain ⟨h_38, q_39, hd⟩ := dk_bind hd
  refine hp_sF 267 rfl i_87_264 q_39 ?_
  exact aWp.forget (j_87_267_ok hdp hd) (lvS (lvS lvE))
def j_87_33 (g : Nat) (a0 : Nat) (h0 : aH) : Option (aH) := (j_87_34 g a0 (0 : Int32) h0)
set_option maxHeartbeats 4000000 in
set_option maxRecDepth 100000 in
theorem j_87_33_ok {X : aX} {g : Nat} {a0 : Nat} {h0 : aH} {zz : aH} {d : Nat} (hdp : 0 ≤ d) (hd : j_87_33 g a0 h0 = some zz) : aWp X d 87 33 [some (.ref a0), none] [] h0 (fun w h' => w = none ∧ h' = zz) := by
  unfold j_87_33 at hd
  refine wp_s 34 [some (.ref a0), none] [.int (0 : Int32)] h0 i_87_33 rfl ?_
  exact aWp.forget (j_87_34_ok hdp hd) (lvS (lvN lvE))
def d_87 (g : Nat) (a0 : Nat) (h0 : aH) : Option (aH) := ((gI h0 a0 8 2).bind (fun f_1 => ((gI h0 a0 8 1).bind (fun f_3 => (if f_3 ≤ (f_1 + (1 : Int32)) then (j_87_33 g a0 h0) else ((gR h0 a0 8 0).bind (fun f_6 => ((gI h0 a0 8 2).bind (fun f_8 => ((gB h0 f_6 (f_8 + (1 : Int32))).bind (fun f_10 => (if ¬ f_10 = (61 : Int32) then (j_87_33 g a0 h0) else (j_87_34 g a0 (1 : Int32) h0)))))))))))))
set_option maxHeartbeats 4000000 in
set_option maxRecDepth 100000 in
theorem d_87_ok {X : aX} {g : Nat} {a0 : Nat} {h0 : aH} {zz : aH} {d : Nat} (hdp : 0 ≤ d) (hd : d_87 g a0 h0 = some zz) : aWp X d 87 0 (aEntL [.ref a0] 2) [] h0 (fun w h' => w = none ∧ h' = zz) := by
  unfold d_87 at hd
  refine wp_lv (l2 := [some (.ref a0), none]) rfl ?_
  refine wp_s 1 [some (.ref a0), none] [.ref a0] h0 i_87_0 rfl ?_
  obtain ⟨f_1, q_2, hd⟩ := dk_bind hd
  refine hp_gI 4 rfl i_87_1 q_2 ?_
  refine wp_s 5 [some (.ref a0), none] [.int (1 : Int32), .int f_1] h0 i_87_4 rfl ?_
  refine wp_s 6 [some (.ref a0), none] [.int (f_1 + (1 : Int32))] h0 i_87_5 rfl ?_
  refine wp_s 7 [some (.ref a0), none] [.ref a0, .int (f_1 + (1 : Int32))] h0 i_87_6 rfl ?_
  obtain ⟨f_3, q_4, hd⟩ := dk_bind hd
  refine hp_gI 10 rfl i_87_7 q_4 ?_
  refine wp_cmp_ge 33 13 rfl rfl i_87_10 (fun c_5 => ?_) (fun c_5 => ?_)
  · rw [if_pos c_5] at hd
    exact aWp.forget (j_87_33_ok hdp hd) (lvS (lvN lvE))
  · rw [if_neg c_5] at hd
    refine wp_s 14 [some (.ref a0), none] [.ref a0] h0 i_87_13 rfl ?_
    obtain ⟨f_6, q_7, hd⟩ := dk_bind hd
    refine hp_gR 17 rfl i_87_14 q_7 ?_
    refine wp_s 18 [some (.ref a0), none] [.ref a0, .ref f_6] h0 i_87_17 rfl ?_
    obtain ⟨f_8, q_9, hd⟩ := dk_bind hd
    refine hp_gI 21 rfl i_87_18 q_9 ?_
    refine wp_s 22 [some (.ref a0), none] [.int (1 : Int32), .int f_8, .ref f_6] h0 i_87_21 rfl ?_
    refine wp_s 23 [some (.ref a0), none] [.int (f_8 + (1 : Int32)), .ref f_6] h0 i_87_22 rfl ?_
    obtain ⟨f_10, q_11, hd⟩ := dk_bind hd
    refine hp_gB 24 rfl i_87_23 q_11 ?_
    refine wp_s 26 [some (.ref a0), none] [.int (61 : Int32), .int f_10] h0 i_87_24 rfl ?_
    refine wp_cmp_ne 33 29 rfl rfl i_87_26 (fun c_12 => ?_) (fun c_12 => ?_)
    · rw [if_pos c_12] at hd
      exact aWp.forget (j_87_33_ok hdp hd) (lvS (lvN lvE))
    · rw [if_neg c_12] at hd
      refine wp_s 30 [some (.ref a0), none] [.int (1 : Int32)] h0 i_87_29 rfl ?_
      refine wp_s 34 [some (.ref a0), none] [.int (1 : Int32)] h0 i_87_30 rfl ?_
      exact aWp.forget (j_87_34_ok hdp hd) (lvS (lvN lvE))
def l_84 (g n tag : Nat) (a0 : Nat) (h0 : aH) : Option (aH) := match n with
  | 0 => none
  | n + 1 => if tag = 0 then ((gI h0 a0 8 2).bind (fun f_1 => ((gI h0 a0 8 1).bind (fun f_3 => (if f_3 ≤ f_1 then (l_84 g n 1 a0 h0) else ((gR h0 a0 8 0).bind (fun f_6 => ((gI h0 a0 8 2).bind (fun f_8 => ((gB h0 f_6 f_8).bind (fun f_10 => (if ¬ f_10 = (32 : Int32) then (l_84 g n 1 a0 h0) else ((gI h0 a0 8 2).bind (fun f_13 => ((sF h0 a0 8 2 (.int (f_13 + (1 : Int32)))).bind (fun h_15 => (l_84 g n 0 a0 h_15))))))))))))))))) else if tag = 1 then ((gI h0 a0 8 2).bind (fun f_17 => ((sF h0 a0 8 4 (.int f_17)).bind (fun h_19 => ((gI h_19 a0 8 2).bind (fun f_21 => ((gI h_19 a0 8 1).bind (fun f_23 => (if f_21 < f_23 then ((gR h_19 a0 8 0).bind (fun f_26 => ((gI h_19 a0 8 2).bind (fun f_28 => ((gB h_19 f_26 f_28).bind (fun f_30 => (if f_30 < (48 : Int32) then (l_84 g n 2 a0 h_19) else ((gR h_19 a0 8 0).bind (fun f_33 => ((gI h_19 a0 8 2).bind (fun f_35 => ((gB h_19 f_33 f_35).bind (fun f_37 => (if (57 : Int32) < f_37 then (l_84 g n 2 a0 h_19) else (if isO h_19 a0 8 = true then ((d_85 g a0 h_19).bind (fun z_43 => some z_43)) else none))))))))))))))) else ((sF h_19 a0 8 3 (.int (21 : Int32))).bind (fun h_47 => some h_47))))))))))) else if tag = 2 then ((gR h0 a0 8 0).bind (fun f_49 => ((gI h0 a0 8 2).bind (fun f_51 => ((gB h0 f_49 f_51).bind (fun f_53 => (if f_53 < (97 : Int32) then (l_84 g n 3 a0 h0) else ((gR h0 a0 8 0).bind (fun f_56 => ((gI h0 a0 8 2).bind (fun f_58 => ((gB h0 f_56 f_58).bind (fun f_60 => (if (122 : Int32) < f_60 then (l_84 g n 3 a0 h0) else (if isO h0 a0 8 = true then ((d_86 g a0 h0).bind (fun z_66 => some z_66)) else none))))))))))))))) else if tag = 3 then (if isO h0 a0 8 = true then ((d_87 g a0 h0).bind (fun z_73 => some z_73)) else none) else none
set_option maxHeartbeats 4000000 in
set_option maxRecDepth 100000 in
theorem l_84_ok {X : aX} {g : Nat} {d : Nat} (hdp : 1 ≤ d) : ∀ n, (∀ (a0 : Nat) (h0 : aH) (zz : aH), l_84 g n 0 a0 h0 = some zz → aWp X d 84 0 [some (.ref a0)] [] h0 (fun w h' => w = none ∧ h' = zz)) ∧ (∀ (a0 : Nat) (h0 : aH) (zz : aH), l_84 g n 1 a0 h0 = some zz → aWp X d 84 38 [some (.ref a0)] [] h0 (fun w h' => w = none ∧ h' = zz)) ∧ (∀ (a0 : Nat) (h0 : aH) (zz : aH), l_84 g n 2 a0 h0 = some zz → aWp X d 84 101 [some (.ref a0)] [] h0 (fun w h' => w = none ∧ h' = zz)) ∧ (∀ (a0 : Nat) (h0 : aH) (zz : aH), l_84 g n 3 a0 h0 = some zz → aWp X d 84 136 [some (.ref a0)] [] h0 (fun w h' => w = none ∧ h' = zz)) := by
  intro n
  induction n with
  | zero => exact ⟨fun _ _ _ hd => by simp [l_84] at hd, fun _ _ _ hd => by simp [l_84] at hd, fun _ _ _ hd => by simp [l_84] at hd, fun _ _ _ hd => by simp [l_84] at hd⟩
  | succ n ih =>
    refine ⟨?_, ?_, ?_, ?_⟩
    · intro a0 h0 zz hd
      unfold l_84 at hd
      rw [if_pos rfl] at hd
      obtain ⟨e, rfl⟩ : ∃ e, d = e + 1 := ⟨d - 1, by omega⟩
      refine wp_s 1 [some (.ref a0)] [.ref a0] h0 i_84_0 rfl ?_
      obtain ⟨f_1, q_2, hd⟩ := dk_bind hd
      refine hp_gI 4 rfl i_84_1 q_2 ?_
      refine wp_s 5 [some (.ref a0)] [.ref a0, .int f_1] h0 i_84_4 rfl ?_
      obtain ⟨f_3, q_4, hd⟩ := dk_bind hd
      refine hp_gI 8 rfl i_84_5 q_4 ?_
      refine wp_cmp_ge 38 11 rfl rfl i_84_8 (fun c_5 => ?_) (fun c_5 => ?_)
      · rw [if_pos c_5] at hd
        exact aWp.forget (ih.2.1 _ _ _ hd) (lvS lvE)
      · rw [if_neg c_5] at hd
        refine wp_s 12 [some (.ref a0)] [.ref a0] h0 i_84_11 rfl ?_
        obtain ⟨f_6, q_7, hd⟩ := dk_bind hd
        refine hp_gR 15 rfl i_84_12 q_7 ?_
        refine wp_s 16 [some (.ref a0)] [.ref a0, .ref f_6] h0 i_84_15 rfl ?_
        obtain ⟨f_8, q_9, hd⟩ := dk_bind hd
        refine hp_gI 19 rfl i_84_16 q_9 ?_
        obtain ⟨f_10, q_11, hd⟩ := dk_bind hd
        refine hp_gB 20 rfl i_84_19 q_11 ?_
        refine wp_s 22 [some (.ref a0)] [.int (32 : Int32), .int f_10] h0 i_84_20 rfl ?_
        refine wp_cmp_ne 38 25 rfl rfl i_84_22 (fun c_12 => ?_) (fun c_12 => ?_)
        · rw [if_pos c_12] at hd
          exact aWp.forget (ih.2.1 _ _ _ hd) (lvS lvE)
        · rw [if_neg c_12] at hd
          refine wp_s 26 [some (.ref a0)] [.ref a0] h0 i_84_25 rfl ?_
          refine wp_s 27 [some (.ref a0)] [.ref a0, .ref a0] h0 i_84_26 rfl ?_
          obtain ⟨f_13, q_14, hd⟩ := dk_bind hd
          refine hp_gI 30 rfl i_84_27 q_14 ?_
          refine wp_s 31 [some (.ref a0)] [.int (1 : Int32), .int f_13, .ref a0] h0 i_84_30 rfl ?_
          refine wp_s 32 [some (.ref a0)] [.int (f_13 + (1 : Int32)), .ref a0] h0 i_84_31 rfl ?_
          obtain ⟨h_15, q_16, hd⟩ := dk_bind hd
          refine hp_sF 35 rfl i_84_32 q_16 ?_
          refine wp_s 0 [some (.ref a0)] [] h_15 i_84_35 rfl ?_
          exact aWp.forget (ih.1 _ _ _ hd) (lvS lvE)
    · intro a0 h0 zz hd
      unfold l_84 at hd
      rw [if_neg (by decide), if_pos rfl] at hd
      obtain ⟨e, rfl⟩ : ∃ e, d = e + 1 := ⟨d - 1, by omega⟩
      refine wp_s 39 [some (.ref a0)] [.ref a0] h0 i_84_38 rfl ?_
      refine wp_s 40 [some (.ref a0)] [.ref a0, .ref a0] h0 i_84_39 rfl ?_
      obtain ⟨f_17, q_18, hd⟩ := dk_bind hd
      refine hp_gI 43 rfl i_84_40 q_18 ?_
      obtain ⟨h_19, q_20, hd⟩ := dk_bind hd
      refine hp_sF 46 rfl i_84_43 q_20 ?_
      refine wp_s 47 [some (.ref a0)] [.ref a0] h_19 i_84_46 rfl ?_
      obtain ⟨f_21, q_22, hd⟩ := dk_bind hd
      refine hp_gI 50 rfl i_84_47 q_22 ?_
      refine wp_s 51 [some (.ref a0)] [.ref a0, .int f_21] h_19 i_84_50 rfl ?_
      obtain ⟨f_23, q_24, hd⟩ := dk_bind hd
      refine hp_gI 54 rfl i_84_51 q_24 ?_
      refine wp_cmp_lt 66 57 rfl rfl i_84_54 (fun c_25 => ?_) (fun c_25 => ?_)
      · rw [if_pos c_25] at hd
        refine wp_s 67 [some (.ref a0)] [.ref a0] h_19 i_84_66 rfl ?_
        obtain ⟨f_26, q_27, hd⟩ := dk_bind hd
        refine hp_gR 70 rfl i_84_67 q_27 ?_
        refine wp_s 71 [some (.ref a0)] [.ref a0, .ref f_26] h_19 i_84_70 rfl ?_
        obtain ⟨f_28, q_29, hd⟩ := dk_bind hd
        refine hp_gI 74 rfl i_84_71 q_29 ?_
        obtain ⟨f_30, q_31, hd⟩ := dk_bind hd
        refine hp_gB 75 rfl i_84_74 q_31 ?_
        refine wp_s 77 [some (.ref a0)] [.int (48 : Int32), .int f_30] h_19 i_84_75 rfl ?_
        refine wp_cmp_lt 101 80 rfl rfl i_84_77 (fun c_32 => ?_) (fun c_32 => ?_)
        · rw [if_pos c_32] at hd
          exact aWp.forget (ih.2.2.1 _ _ _ hd) (lvS lvE)
        · rw [if_neg c_32] at hd
          refine wp_s 81 [some (.ref a0)] [.ref a0] h_19 i_84_80 rfl ?_
          obtain ⟨f_33, q_34, hd⟩ := dk_bind hd
          refine hp_gR 84 rfl i_84_81 q_34 ?_
          refine wp_s 85 [some (.ref a0)] [.ref a0, .ref f_33] h_19 i_84_84 rfl ?_
          obtain ⟨f_35, q_36, hd⟩ := dk_bind hd
          refine hp_gI 88 rfl i_84_85 q_36 ?_
          obtain ⟨f_37, q_38, hd⟩ := dk_bind hd
          refine hp_gB 89 rfl i_84_88 q_38 ?_
          refine wp_s 91 [some (.ref a0)] [.int (57 : Int32), .int f_37] h_19 i_84_89 rfl ?_
          refine wp_cmp_gt 101 94 rfl rfl i_84_91 (fun c_39 => ?_) (fun c_39 => ?_)
          · rw [if_pos c_39] at hd
            exact aWp.forget (ih.2.2.1 _ _ _ hd) (lvS lvE)
          · rw [if_neg c_39] at hd
            refine wp_s 95 [some (.ref a0)] [.ref a0] h_19 i_84_94 rfl ?_
            obtain ⟨k_40, hd⟩ := dk_if hd
            obtain ⟨fs_41, o_42⟩ := isO_of k_40
            obtain ⟨z_43, q_44, hd⟩ := dk_bind hd
            refine wp_callV 98 rfl i_84_95 (by decide) rfl (vs := []) (rest := []) rfl rfl rfl o_42 (y := m_85) rfl (Nat.le_of_ble_eq_true rfl) (d_85_ok (d := e) (by omega) q_44) ?_
            rintro v_45 h_46 ⟨rfl, hz⟩
            have hz := hz.symm
            subst hz
            refine wp_s 140 [some (.ref a0)] [] z_43 i_84_98 rfl ?_
            obtain rfl := Option.some.inj hd
            exact wp_ret i_84_140 rfl ⟨rfl, rfl⟩
      · rw [if_neg c_25] at hd
        refine wp_s 58 [some (.ref a0)] [.ref a0] h_19 i_84_57 rfl ?_
        refine wp_s 60 [some (.ref a0)] [.int (21 : Int32), .ref a0] h_19 i_84_58 rfl ?_
        obtain ⟨h_47, q_48, hd⟩ := dk_bind hd
        refine hp_sF 63 rfl i_84_60 q_48 ?_
        refine wp_s 140 [some (.ref a0)] [] h_47 i_84_63 rfl ?_
        obtain rfl := Option.some.inj hd
        exact wp_ret i_84_140 rfl ⟨rfl, rfl⟩
    · intro a0 h0 zz hd
      unfold l_84 at hd
      rw [if_neg (by decide), if_neg (by decide), if_pos rfl] at hd
      obtain ⟨e, rfl⟩ : ∃ e, d = e + 1 := ⟨d - 1, by omega⟩
      refine wp_s 102 [some (.ref a0)] [.ref a0] h0 i_84_101 rfl ?_
      obtain ⟨f_49, q_50, hd⟩ := dk_bind hd
      refine hp_gR 105 rfl i_84_102 q_50 ?_
      refine wp_s 106 [some (.ref a0)] [.ref a0, .ref f_49] h0 i_84_105 rfl ?_
      obtain ⟨f_51, q_52, hd⟩ := dk_bind hd
      refine hp_gI 109 rfl i_84_106 q_52 ?_
      obtain ⟨f_53, q_54, hd⟩ := dk_bind hd
      refine hp_gB 110 rfl i_84_109 q_54 ?_
      refine wp_s 112 [some (.ref a0)] [.int (97 : Int32), .int f_53] h0 i_84_110 rfl ?_
      refine wp_cmp_lt 136 115 rfl rfl i_84_112 (fun c_55 => ?_) (fun c_55 => ?_)
      · rw [if_pos c_55] at hd
        exact aWp.forget (ih.2.2.2 _ _ _ hd) (lvS lvE)
      · rw [if_neg c_55] at hd
        refine wp_s 116 [some (.ref a0)] [.ref a0] h0 i_84_115 rfl ?_
        obtain ⟨f_56, q_57, hd⟩ := dk_bind hd
        refine hp_gR 119 rfl i_84_116 q_57 ?_
        refine wp_s 120 [some (.ref a0)] [.ref a0, .ref f_56] h0 i_84_119 rfl ?_
        obtain ⟨f_58, q_59, hd⟩ := dk_bind hd
        refine hp_gI 123 rfl i_84_120 q_59 ?_
        obtain ⟨f_60, q_61, hd⟩ := dk_bind hd
        refine hp_gB 124 rfl i_84_123 q_61 ?_
        refine wp_s 126 [some (.ref a0)] [.int (122 : Int32), .int f_60] h0 i_84_124 rfl ?_
        refine wp_cmp_gt 136 129 rfl rfl i_84_126 (fun c_62 => ?_) (fun c_62 => ?_)
        · rw [if_pos c_62] at hd
          exact aWp.forget (ih.2.2.2 _ _ _ hd) (lvS lvE)
        · rw [if_neg c_62] at hd
          refine wp_s 130 [some (.ref a0)] [.ref a0] h0 i_84_129 rfl ?_
          obtain ⟨k_63, hd⟩ := dk_if hd
          obtain ⟨fs_64, o_65⟩ := isO_of k_63
          obtain ⟨z_66, q_67, hd⟩ := dk_bind hd
          refine wp_callV 133 rfl i_84_130 (by decide) rfl (vs := []) (rest := []) rfl rfl rfl o_65 (y := m_86) rfl (Nat.le_of_ble_eq_true rfl) (d_86_ok (d := e) (by omega) q_67) ?_
          rintro v_68 h_69 ⟨rfl, hz⟩
          have hz := hz.symm
          subst hz
          refine wp_s 140 [some (.ref a0)] [] z_66 i_84_133 rfl ?_
          obtain rfl := Option.some.inj hd
          exact wp_ret i_84_140 rfl ⟨rfl, rfl⟩
    · intro a0 h0 zz hd
      unfold l_84 at hd
      rw [if_neg (by decide), if_neg (by decide), if_neg (by decide), if_pos rfl] at hd
      obtain ⟨e, rfl⟩ : ∃ e, d = e + 1 := ⟨d - 1, by omega⟩
      refine wp_s 137 [some (.ref a0)] [.ref a0] h0 i_84_136 rfl ?_
      obtain ⟨k_70, hd⟩ := dk_if hd
      obtain ⟨fs_71, o_72⟩ := isO_of k_70
      obtain ⟨z_73, q_74, hd⟩ := dk_bind hd
      refine wp_callV 140 rfl i_84_137 (by decide) rfl (vs := []) (rest := []) rfl rfl rfl o_72 (y := m_87) rfl (Nat.le_of_ble_eq_true rfl) (d_87_ok (d := e) (by omega) q_74) ?_
      rintro v_75 h_76 ⟨rfl, hz⟩
      have hz := hz.symm
      subst hz
      obtain rfl := Option.some.inj hd
      exact wp_ret i_84_140 rfl ⟨rfl, rfl⟩
def d_84 (g : Nat) (a0 : Nat) (h0 : aH) : Option (aH) := (l_84 g g 0 a0 h0)
set_option maxHeartbeats 4000000 in
set_option maxRecDepth 100000 in
theorem d_84_ok {X : aX} {g : Nat} {a0 : Nat} {h0 : aH} {zz : aH} {d : Nat} (hdp : 1 ≤ d) (hd : d_84 g a0 h0 = some zz) : aWp X d 84 0 (aEntL [.ref a0] 1) [] h0 (fun w h' => w = none ∧ h' = zz) := by
  unfold d_84 at hd
  refine wp_lv (l2 := [some (.ref a0)]) rfl ?_
  obtain ⟨e, rfl⟩ : ∃ e, d = e + 1 := ⟨d - 1, by omega⟩
  exact aWp.forget ((l_84_ok hdp g).1 _ _ _ hd) (lvS lvE)
def j_83_22 (g : Nat) (a0 : Nat) (x1 : Int32) (h0 : aH) : Option (aH) := ((sF h0 a0 8 3 (.int (21 : Int32))).bind (fun h_1 => ((gI h_1 a0 8 1).bind (fun f_3 => ((sF h_1 a0 8 2 (.int f_3)).bind (fun h_5 => some h_5))))))
set_option maxHeartbeats 4000000 in
set_option maxRecDepth 100000 in
theorem j_83_22_ok {X : aX} {g : Nat} {a0 : Nat} {x1 : Int32} {h0 : aH} {zz : aH} {d : Nat} (hdp : 0 ≤ d) (hd : j_83_22 g a0 x1 h0 = some zz) : aWp X d 83 22 [some (.ref a0), some (.int x1)] [] h0 (fun w h' => w = none ∧ h' = zz) := by
  unfold j_83_22 at hd
  refine wp_s 23 [some (.ref a0), some (.int x1)] [.ref a0] h0 i_83_22 rfl ?_
  refine wp_s 25 [some (.ref a0), some (.int x1)] [.int (21 : Int32), .ref a0] h0 i_83_23 rfl ?_
  obtain ⟨h_1, q_2, hd⟩ := dk_bind hd
  refine hp_sF 28 rfl i_83_25 q_2 ?_
  refine wp_s 29 [some (.ref a0), some (.int x1)] [.ref a0] h_1 i_83_28 rfl ?_
  refine wp_s 30 [some (.ref a0), some (.int x1)] [.ref a0, .ref a0] h_1 i_83_29 rfl ?_
  obtain ⟨f_3, q_4, hd⟩ := dk_bind hd
  refine hp_gI 33 rfl i_83_30 q_4 ?_
  obtain ⟨h_5, q_6, hd⟩ := dk_bind hd
  refine hp_sF 36 rfl i_83_33 q_6 ?_
  obtain rfl := Option.some.inj hd
  exact wp_ret i_83_36 rfl ⟨rfl, rfl⟩
def d_83 (g : Nat) (a0 : Nat) (x1 : Int32) (h0 : aH) : Option (aH) := ((gI h0 a0 8 6).bind (fun f_1 => (if ¬ f_1 = 0 then (j_83_22 g a0 x1 h0) else ((gI h0 a0 8 4).bind (fun f_4 => ((sF h0 a0 8 6 (.int (((1 : Int32) + ((8 : Int32) * f_4)) + x1))).bind (fun h_6 => (j_83_22 g a0 x1 h_6))))))))
set_option maxHeartbeats 4000000 in
set_option maxRecDepth 100000 in
theorem d_83_ok {X : aX} {g : Nat} {a0 : Nat} {x1 : Int32} {h0 : aH} {zz : aH} {d : Nat} (hdp : 0 ≤ d) (hd : d_83 g a0 x1 h0 = some zz) : aWp X d 83 0 (aEntL [.ref a0, .int x1] 2) [] h0 (fun w h' => w = none ∧ h' = zz) := by
  unfold d_83 at hd
  refine wp_lv (l2 := [some (.ref a0), some (.int x1)]) rfl ?_
  refine wp_s 1 [some (.ref a0), some (.int x1)] [.ref a0] h0 i_83_0 rfl ?_
  obtain ⟨f_1, q_2, hd⟩ := dk_bind hd
  refine hp_gI 4 rfl i_83_1 q_2 ?_
  refine wp_if_ne 22 7 rfl rfl i_83_4 (fun c_3 => ?_) (fun c_3 => ?_)
  · rw [if_pos c_3] at hd
    exact aWp.forget (j_83_22_ok hdp hd) (lvS (lvS lvE))
  · rw [if_neg c_3] at hd
    refine wp_s 8 [some (.ref a0), some (.int x1)] [.ref a0] h0 i_83_7 rfl ?_
    refine wp_s 9 [some (.ref a0), some (.int x1)] [.int (1 : Int32), .ref a0] h0 i_83_8 rfl ?_
    refine wp_s 11 [some (.ref a0), some (.int x1)] [.int (8 : Int32), .int (1 : Int32), .ref a0] h0 i_83_9 rfl ?_
    refine wp_s 12 [some (.ref a0), some (.int x1)] [.ref a0, .int (8 : Int32), .int (1 : Int32), .ref a0] h0 i_83_11 rfl ?_
    obtain ⟨f_4, q_5, hd⟩ := dk_bind hd
    refine hp_gI 15 rfl i_83_12 q_5 ?_
    refine wp_s 16 [some (.ref a0), some (.int x1)] [.int ((8 : Int32) * f_4), .int (1 : Int32), .ref a0] h0 i_83_15 rfl ?_
    refine wp_s 17 [some (.ref a0), some (.int x1)] [.int ((1 : Int32) + ((8 : Int32) * f_4)), .ref a0] h0 i_83_16 rfl ?_
    refine wp_s 18 [some (.ref a0), some (.int x1)] [.int x1, .int ((1 : Int32) + ((8 : Int32) * f_4)), .ref a0] h0 i_83_17 rfl ?_
    refine wp_s 19 [some (.ref a0), some (.int x1)] [.int (((1 : Int32) + ((8 : Int32) * f_4)) + x1), .ref a0] h0 i_83_18 rfl ?_
    obtain ⟨h_6, q_7, hd⟩ := dk_bind hd
    refine hp_sF 22 rfl i_83_19 q_7 ?_
    exact aWp.forget (j_83_22_ok hdp hd) (lvS (lvS lvE))
def j_52_17 (g : Nat) (a0 : Nat) (h0 : aH) : Option (aH) := ((gI h0 a0 4 2).bind (fun f_1 => ((sF h0 a0 4 2 (.int (f_1 + (1 : Int32)))).bind (fun h_3 => some h_3))))
set_option maxHeartbeats 4000000 in
set_option maxRecDepth 100000 in
theorem j_52_17_ok {X : aX} {g : Nat} {a0 : Nat} {h0 : aH} {zz : aH} {d : Nat} (hdp : 1 ≤ d) (hd : j_52_17 g a0 h0 = some zz) : aWp X d 52 17 [some (.ref a0)] [] h0 (fun w h' => w = none ∧ h' = zz) := by
  unfold j_52_17 at hd
  obtain ⟨e, rfl⟩ : ∃ e, d = e + 1 := ⟨d - 1, by omega⟩
  refine wp_s 18 [some (.ref a0)] [.ref a0] h0 i_52_17 rfl ?_
  refine wp_s 19 [some (.ref a0)] [.ref a0, .ref a0] h0 i_52_18 rfl ?_
  obtain ⟨f_1, q_2, hd⟩ := dk_bind hd
  refine hp_gI 22 rfl i_52_19 q_2 ?_
  refine wp_s 23 [some (.ref a0)] [.int (1 : Int32), .int f_1, .ref a0] h0 i_52_22 rfl ?_
  refine wp_s 24 [some (.ref a0)] [.int (f_1 + (1 : Int32)), .ref a0] h0 i_52_23 rfl ?_
  obtain ⟨h_3, q_4, hd⟩ := dk_bind hd
  refine hp_sF 27 rfl i_52_24 q_4 ?_
  obtain rfl := Option.some.inj hd
  exact wp_ret i_52_27 rfl ⟨rfl, rfl⟩
def d_52 (g : Nat) (a0 : Nat) (h0 : aH) : Option (aH) := ((gI h0 a0 4 2).bind (fun f_1 => (if f_1 < (60 : Int32) then (j_52_17 g a0 h0) else ((gR h0 a0 4 0).bind (fun f_4 => (if isO h0 f_4 8 = true then ((d_83 g f_4 (3 : Int32) h0).bind (fun z_9 => (j_52_17 g a0 z_9))) else none))))))
set_option maxHeartbeats 4000000 in
set_option maxRecDepth 100000 in
theorem d_52_ok {X : aX} {g : Nat} {a0 : Nat} {h0 : aH} {zz : aH} {d : Nat} (hdp : 1 ≤ d) (hd : d_52 g a0 h0 = some zz) : aWp X d 52 0 (aEntL [.ref a0] 1) [] h0 (fun w h' => w = none ∧ h' = zz) := by
  unfold d_52 at hd
  refine wp_lv (l2 := [some (.ref a0)]) rfl ?_
  obtain ⟨e, rfl⟩ : ∃ e, d = e + 1 := ⟨d - 1, by omega⟩
  refine wp_s 1 [some (.ref a0)] [.ref a0] h0 i_52_0 rfl ?_
  obtain ⟨f_1, q_2, hd⟩ := dk_bind hd
  refine hp_gI 4 rfl i_52_1 q_2 ?_
  refine wp_s 6 [some (.ref a0)] [.int (60 : Int32), .int f_1] h0 i_52_4 rfl ?_
  refine wp_cmp_lt 17 9 rfl rfl i_52_6 (fun c_3 => ?_) (fun c_3 => ?_)
  · rw [if_pos c_3] at hd
    exact aWp.forget (j_52_17_ok hdp hd) (lvS lvE)
  · rw [if_neg c_3] at hd
    refine wp_s 10 [some (.ref a0)] [.ref a0] h0 i_52_9 rfl ?_
    obtain ⟨f_4, q_5, hd⟩ := dk_bind hd
    refine hp_gR 13 rfl i_52_10 q_5 ?_
    refine wp_s 14 [some (.ref a0)] [.int (3 : Int32), .ref f_4] h0 i_52_13 rfl ?_
    obtain ⟨k_6, hd⟩ := dk_if hd
    obtain ⟨fs_7, o_8⟩ := isO_of k_6
    obtain ⟨z_9, q_10, hd⟩ := dk_bind hd
    refine wp_callV 17 rfl i_52_14 (by decide) rfl (vs := [.int (3 : Int32)]) (rest := []) rfl rfl rfl o_8 (y := m_83) rfl (Nat.le_of_ble_eq_true rfl) (d_83_ok (d := e) (by omega) q_10) ?_
    rintro v_11 h_12 ⟨rfl, hz⟩
    have hz := hz.symm
    subst hz
    exact aWp.forget (j_52_17_ok hdp hd) (lvS lvE)
def j_51_80 (g : Nat) (a0 : Nat) (x1 : Int32) (s0 : Int32) (b1 : Nat) (h0 : aH) : Option (aH) := (if isO h0 b1 4 = true then ((d_53 g b1 s0 h0).bind (fun z_4 => ((gR z_4 a0 4 0).bind (fun f_8 => (if isO z_4 f_8 8 = true then ((d_84 g f_8 z_4).bind (fun z_13 => some z_13)) else none))))) else none)
set_option maxHeartbeats 4000000 in
set_option maxRecDepth 100000 in
theorem j_51_80_ok {X : aX} {g : Nat} {a0 : Nat} {x1 : Int32} {s0 : Int32} {b1 : Nat} {h0 : aH} {zz : aH} {d : Nat} (hdp : 2 ≤ d) (hd : j_51_80 g a0 x1 s0 b1 h0 = some zz) : aWp X d 51 80 [some (.ref a0), some (.int x1)] [.int s0, .ref b1] h0 (fun w h' => w = none ∧ h' = zz) := by
  unfold j_51_80 at hd
  obtain ⟨e, rfl⟩ : ∃ e, d = e + 1 := ⟨d - 1, by omega⟩
  obtain ⟨k_1, hd⟩ := dk_if hd
  obtain ⟨fs_2, o_3⟩ := isO_of k_1
  obtain ⟨z_4, q_5, hd⟩ := dk_bind hd
  refine wp_callV 83 rfl i_51_80 (by decide) rfl (vs := [.int s0]) (rest := []) rfl rfl rfl o_3 (y := m_53) rfl (Nat.le_of_ble_eq_true rfl) (d_53_ok (d := e) (by omega) q_5) ?_
  rintro v_6 h_7 ⟨rfl, hz⟩
  have hz := hz.symm
  subst hz
  refine wp_s 84 [some (.ref a0), some (.int x1)] [.ref a0] z_4 i_51_83 rfl ?_
  obtain ⟨f_8, q_9, hd⟩ := dk_bind hd
  refine hp_gR 87 rfl i_51_84 q_9 ?_
  obtain ⟨k_10, hd⟩ := dk_if hd
  obtain ⟨fs_11, o_12⟩ := isO_of k_10
  obtain ⟨z_13, q_14, hd⟩ := dk_bind hd
  refine wp_callV 90 rfl i_51_87 (by decide) rfl (vs := []) (rest := []) rfl rfl rfl o_12 (y := m_84) rfl (Nat.le_of_ble_eq_true rfl) (d_84_ok (d := e) (by omega) q_14) ?_
  rintro v_15 h_16 ⟨rfl, hz⟩
  have hz := hz.symm
  subst hz
  obtain rfl := Option.some.inj hd
  exact wp_ret i_51_90 rfl ⟨rfl, rfl⟩
def j_51_56 (g : Nat) (a0 : Nat) (x1 : Int32) (h0 : aH) : Option (aH) := (if isO h0 a0 4 = true then ((d_52 g a0 h0).bind (fun z_4 => (if ¬ x1 = (20 : Int32) then (j_51_80 g a0 x1 ((-1 : Int32) - x1) a0 z_4) else ((gR z_4 a0 4 0).bind (fun f_9 => ((gI z_4 f_9 8 5).bind (fun f_11 => (j_51_80 g a0 x1 f_11 a0 z_4)))))))) else none)
set_option maxHeartbeats 4000000 in
set_option maxRecDepth 100000 in
theorem j_51_56_ok {X : aX} {g : Nat} {a0 : Nat} {x1 : Int32} {h0 : aH} {zz : aH} {d : Nat} (hdp : 2 ≤ d) (hd : j_51_56 g a0 x1 h0 = some zz) : aWp X d 51 56 [some (.ref a0), some (.int x1)] [] h0 (fun w h' => w = none ∧ h' = zz) := by
  unfold j_51_56 at hd
  obtain ⟨e, rfl⟩ : ∃ e, d = e + 1 := ⟨d - 1, by omega⟩
  refine wp_s 57 [some (.ref a0), some (.int x1)] [.ref a0] h0 i_51_56 rfl ?_
  obtain ⟨k_1, hd⟩ := dk_if hd
  obtain ⟨fs_2, o_3⟩ := isO_of k_1
  obtain ⟨z_4, q_5, hd⟩ := dk_bind hd
  refine wp_callV 60 rfl i_51_57 (by decide) rfl (vs := []) (rest := []) rfl rfl rfl o_3 (y := m_52) rfl (Nat.le_of_ble_eq_true rfl) (d_52_ok (d := e) (by omega) q_5) ?_
  rintro v_6 h_7 ⟨rfl, hz⟩
  have hz := hz.symm
  subst hz
  refine wp_s 61 [some (.ref a0), some (.int x1)] [.ref a0] z_4 i_51_60 rfl ?_
  refine wp_s 62 [some (.ref a0), some (.int x1)] [.int x1, .ref a0] z_4 i_51_61 rfl ?_
  refine wp_s 64 [some (.ref a0), some (.int x1)] [.int (20 : Int32), .int x1, .ref a0] z_4 i_51_62 rfl ?_
  refine wp_cmp_ne 77 67 rfl rfl i_51_64 (fun c_8 => ?_) (fun c_8 => ?_)
  · rw [if_pos c_8] at hd
    refine wp_s 78 [some (.ref a0), some (.int x1)] [.int (-1 : Int32), .ref a0] z_4 i_51_77 rfl ?_
    refine wp_s 79 [some (.ref a0), some (.int x1)] [.int x1, .int (-1 : Int32), .ref a0] z_4 i_51_78 rfl ?_
    refine wp_s 80 [some (.ref a0), some (.int x1)] [.int ((-1 : Int32) - x1), .ref a0] z_4 i_51_79 rfl ?_
    exact aWp.forget (j_51_80_ok hdp hd) (lvS (lvS lvE))
  · rw [if_neg c_8] at hd
    refine wp_s 68 [some (.ref a0), some (.int x1)] [.ref a0, .ref a0] z_4 i_51_67 rfl ?_
    obtain ⟨f_9, q_10, hd⟩ := dk_bind hd
    refine hp_gR 71 rfl i_51_68 q_10 ?_
    obtain ⟨f_11, q_12, hd⟩ := dk_bind hd
    refine hp_gI 74 rfl i_51_71 q_12 ?_
    refine wp_s 80 [some (.ref a0), some (.int x1)] [.int f_11, .ref a0] z_4 i_51_74 rfl ?_
    exact aWp.forget (j_51_80_ok hdp hd) (lvS (lvS lvE))
def j_51_29 (g : Nat) (a0 : Nat) (x1 : Int32) (h0 : aH) : Option (aH) := (if ¬ x1 = (20 : Int32) then (j_51_56 g a0 x1 h0) else ((gR h0 a0 4 0).bind (fun f_2 => ((gI h0 f_2 8 5).bind (fun f_4 => (if f_4 ≤ (99999 : Int32) then (j_51_56 g a0 x1 h0) else ((gR h0 a0 4 0).bind (fun f_7 => (if isO h0 f_7 8 = true then ((d_83 g f_7 (1 : Int32) h0).bind (fun z_12 => some z_12)) else none)))))))))
set_option maxHeartbeats 4000000 in
set_option maxRecDepth 100000 in
theorem j_51_29_ok {X : aX} {g : Nat} {a0 : Nat} {x1 : Int32} {h0 : aH} {zz : aH} {d : Nat} (hdp : 2 ≤ d) (hd : j_51_29 g a0 x1 h0 = some zz) : aWp X d 51 29 [some (.ref a0), some (.int x1)] [] h0 (fun w h' => w = none ∧ h' = zz) := by
  unfold j_51_29 at hd
  obtain ⟨e, rfl⟩ : ∃ e, d = e + 1 := ⟨d - 1, by omega⟩
  refine wp_s 30 [some (.ref a0), some (.int x1)] [.int x1] h0 i_51_29 rfl ?_
  refine wp_s 32 [some (.ref a0), some (.int x1)] [.int (20 : Int32), .int x1] h0 i_51_30 rfl ?_
  refine wp_cmp_ne 56 35 rfl rfl i_51_32 (fun c_1 => ?_) (fun c_1 => ?_)
  · rw [if_pos c_1] at hd
    exact aWp.forget (j_51_56_ok hdp hd) (lvS (lvS lvE))
  · rw [if_neg c_1] at hd
    refine wp_s 36 [some (.ref a0), some (.int x1)] [.ref a0] h0 i_51_35 rfl ?_
    obtain ⟨f_2, q_3, hd⟩ := dk_bind hd
    refine hp_gR 39 rfl i_51_36 q_3 ?_
    obtain ⟨f_4, q_5, hd⟩ := dk_bind hd
    refine hp_gI 42 rfl i_51_39 q_5 ?_
    refine wp_s 44 [some (.ref a0), some (.int x1)] [.int (99999 : Int32), .int f_4] h0 i_51_42 rfl ?_
    refine wp_cmp_le 56 47 rfl rfl i_51_44 (fun c_6 => ?_) (fun c_6 => ?_)
    · rw [if_pos c_6] at hd
      exact aWp.forget (j_51_56_ok hdp hd) (lvS (lvS lvE))
    · rw [if_neg c_6] at hd
      refine wp_s 48 [some (.ref a0), some (.int x1)] [.ref a0] h0 i_51_47 rfl ?_
      obtain ⟨f_7, q_8, hd⟩ := dk_bind hd
      refine hp_gR 51 rfl i_51_48 q_8 ?_
      refine wp_s 52 [some (.ref a0), some (.int x1)] [.int (1 : Int32), .ref f_7] h0 i_51_51 rfl ?_
      obtain ⟨k_9, hd⟩ := dk_if hd
      obtain ⟨fs_10, o_11⟩ := isO_of k_9
      obtain ⟨z_12, q_13, hd⟩ := dk_bind hd
      refine wp_callV 55 rfl i_51_52 (by decide) rfl (vs := [.int (1 : Int32)]) (rest := []) rfl rfl rfl o_11 (y := m_83) rfl (Nat.le_of_ble_eq_true rfl) (d_83_ok (d := e) (by omega) q_13) ?_
      rintro v_14 h_15 ⟨rfl, hz⟩
      have hz := hz.symm
      subst hz
      obtain rfl := Option.some.inj hd
      exact wp_ret i_51_55 rfl ⟨rfl, rfl⟩
def d_51 (g : Nat) (a0 : Nat) (h0 : aH) : Option (aH) := ((gR h0 a0 4 0).bind (fun f_1 => ((gI h0 f_1 8 3).bind (fun f_3 => (if f_3 = (20 : Int32) then (j_51_29 g a0 f_3 h0) else (if f_3 < (8 : Int32) then (j_51_29 g a0 f_3 h0) else ((gR h0 a0 4 0).bind (fun f_7 => (if isO h0 f_7 8 = true then ((d_83 g f_7 (0 : Int32) h0).bind (fun z_12 => some z_12)) else none)))))))))
set_option maxHeartbeats 4000000 in
set_option maxRecDepth 100000 in
theorem d_51_ok {X : aX} {g : Nat} {a0 : Nat} {h0 : aH} {zz : aH} {d : Nat} (hdp : 2 ≤ d) (hd : d_51 g a0 h0 = some zz) : aWp X d 51 0 (aEntL [.ref a0] 2) [] h0 (fun w h' => w = none ∧ h' = zz) := by
  unfold d_51 at hd
  refine wp_lv (l2 := [some (.ref a0), none]) rfl ?_
  obtain ⟨e, rfl⟩ : ∃ e, d = e + 1 := ⟨d - 1, by omega⟩
  refine wp_s 1 [some (.ref a0), none] [.ref a0] h0 i_51_0 rfl ?_
  obtain ⟨f_1, q_2, hd⟩ := dk_bind hd
  refine hp_gR 4 rfl i_51_1 q_2 ?_
  obtain ⟨f_3, q_4, hd⟩ := dk_bind hd
  refine hp_gI 7 rfl i_51_4 q_4 ?_
  refine wp_s 8 [some (.ref a0), some (.int f_3)] [] h0 i_51_7 rfl ?_
  refine wp_s 9 [some (.ref a0), some (.int f_3)] [.int f_3] h0 i_51_8 rfl ?_
  refine wp_s 11 [some (.ref a0), some (.int f_3)] [.int (20 : Int32), .int f_3] h0 i_51_9 rfl ?_
  refine wp_cmp_eq 29 14 rfl rfl i_51_11 (fun c_5 => ?_) (fun c_5 => ?_)
  · rw [if_pos c_5] at hd
    exact aWp.forget (j_51_29_ok hdp hd) (lvS (lvS lvE))
  · rw [if_neg c_5] at hd
    refine wp_s 15 [some (.ref a0), some (.int f_3)] [.int f_3] h0 i_51_14 rfl ?_
    refine wp_s 17 [some (.ref a0), some (.int f_3)] [.int (8 : Int32), .int f_3] h0 i_51_15 rfl ?_
    refine wp_cmp_lt 29 20 rfl rfl i_51_17 (fun c_6 => ?_) (fun c_6 => ?_)
    · rw [if_pos c_6] at hd
      exact aWp.forget (j_51_29_ok hdp hd) (lvS (lvS lvE))
    · rw [if_neg c_6] at hd
      refine wp_s 21 [some (.ref a0), some (.int f_3)] [.ref a0] h0 i_51_20 rfl ?_
      obtain ⟨f_7, q_8, hd⟩ := dk_bind hd
      refine hp_gR 24 rfl i_51_21 q_8 ?_
      refine wp_s 25 [some (.ref a0), some (.int f_3)] [.int (0 : Int32), .ref f_7] h0 i_51_24 rfl ?_
      obtain ⟨k_9, hd⟩ := dk_if hd
      obtain ⟨fs_10, o_11⟩ := isO_of k_9
      obtain ⟨z_12, q_13, hd⟩ := dk_bind hd
      refine wp_callV 28 rfl i_51_25 (by decide) rfl (vs := [.int (0 : Int32)]) (rest := []) rfl rfl rfl o_11 (y := m_83) rfl (Nat.le_of_ble_eq_true rfl) (d_83_ok (d := e) (by omega) q_13) ?_
      rintro v_14 h_15 ⟨rfl, hz⟩
      have hz := hz.symm
      subst hz
      obtain rfl := Option.some.inj hd
      exact wp_ret i_51_28 rfl ⟨rfl, rfl⟩
def l_50 (sf50 : Nat → Int32 → aH → Option aH) (g n tag : Nat) (a0 : Nat) (x1 : Int32) (s0 : Int32) (x2 : Int32) (x3 : Int32) (x4 : Int32) (h0 : aH) : Option (aH) := match n with
  | 0 => none
  | n + 1 => if tag = 0 then (if ¬ x1 = 0 then (l_50 sf50 g n 1 a0 x1 (30 : Int32) s0 0 0 h0) else (l_50 sf50 g n 1 a0 x1 (27 : Int32) s0 0 0 h0)) else if tag = 1 then (if isO h0 a0 4 = true then ((sf50 a0 (x1 + (1 : Int32)) h0).bind (fun z_5 => (l_50 sf50 g n 2 a0 x1 0 x2 s0 (0 : Int32) z_5))) else none) else if tag = 2 then (if (400 : Int32) ≤ x4 then some h0 else ((gR h0 a0 4 0).bind (fun f_10 => ((gI h0 f_10 8 3).bind (fun f_12 => ((d_138 g f_12 x2 x3 h0).bind (fun z_14 => (if z_14.1 = 0 then some z_14.2 else ((gR z_14.2 a0 4 0).bind (fun f_19 => ((gI z_14.2 f_19 8 3).bind (fun f_21 => ((gR z_14.2 a0 4 0).bind (fun f_23 => (if isO z_14.2 f_23 8 = true then ((d_84 g f_23 z_14.2).bind (fun z_28 => (if isO z_28 a0 4 = true then ((sf50 a0 (x1 + (1 : Int32)) z_28).bind (fun z_35 => (if isO z_35 a0 4 = true then ((d_53 g a0 ((-1 : Int32) - f_21) z_35).bind (fun z_42 => (l_50 sf50 g n 2 a0 x1 0 x2 x3 (x4 + (1 : Int32)) z_42))) else none))) else none))) else none))))))))))))))) else none
set_option maxHeartbeats 4000000 in
set_option maxRecDepth 100000 in
theorem l_50_ok {X : aX} {g : Nat} {sf50 : Nat → Int32 → aH → Option aH} {e : Nat} (hdp : 2 ≤ e) (hs50 : ∀ (a0 : Nat) (x1 : Int32) (h0 zz : aH), sf50 a0 x1 h0 = some zz → aWp X e 50 0 (aEntL [.ref a0, .int x1] 6) [] h0 (fun w h' => w = none ∧ h' = zz)) : ∀ n, (∀ (a0 : Nat) (x1 : Int32) (s0 : Int32) (x2 : Int32) (x3 : Int32) (x4 : Int32) (h0 : aH) (zz : aH), l_50 sf50 g n 0 a0 x1 s0 x2 x3 x4 h0 = some zz → aWp X (e + 1) 50 21 [some (.ref a0), some (.int x1), none, none, none, none] [.int s0] h0 (fun w h' => w = none ∧ h' = zz)) ∧ (∀ (a0 : Nat) (x1 : Int32) (s0 : Int32) (x2 : Int32) (x3 : Int32) (x4 : Int32) (h0 : aH) (zz : aH), l_50 sf50 g n 1 a0 x1 s0 x2 x3 x4 h0 = some zz → aWp X (e + 1) 50 33 [some (.ref a0), some (.int x1), some (.int x2), none, none, none] [.int s0] h0 (fun w h' => w = none ∧ h' = zz)) ∧ (∀ (a0 : Nat) (x1 : Int32) (s0 : Int32) (x2 : Int32) (x3 : Int32) (x4 : Int32) (h0 : aH) (zz : aH), l_50 sf50 g n 2 a0 x1 s0 x2 x3 x4 h0 = some zz → aWp X (e + 1) 50 44 [some (.ref a0), some (.int x1), some (.int x2), some (.int x3), some (.int x4), none] [] h0 (fun w h' => w = none ∧ h' = zz)) := by
  intro n
  induction n with
  | zero => exact ⟨fun _ _ _ _ _ _ _ _ hd => by simp [l_50] at hd, fun _ _ _ _ _ _ _ _ hd => by simp [l_50] at hd, fun _ _ _ _ _ _ _ _ hd => by simp [l_50] at hd⟩
  | succ n ih =>
    refine ⟨?_, ?_, ?_⟩
    · intro a0 x1 s0 x2 x3 x4 h0 zz hd
      unfold l_50 at hd
      rw [if_pos rfl] at hd
      refine wp_s 22 [some (.ref a0), some (.int x1), some (.int s0), none, none, none] [] h0 i_50_21 rfl ?_
      refine wp_s 23 [some (.ref a0), some (.int x1), some (.int s0), none, none, none] [.int x1] h0 i_50_22 rfl ?_
      refine wp_if_ne 31 26 rfl rfl i_50_23 (fun c_1 => ?_) (fun c_1 => ?_)
      · rw [if_pos c_1] at hd
        refine wp_s 33 [some (.ref a0), some (.int x1), some (.int s0), none, none, none] [.int (30 : Int32)] h0 i_50_31 rfl ?_
        exact aWp.forget (ih.2.1 _ _ _ _ _ _ _ _ hd) (lvS (lvS (lvS (lvN (lvN (lvN lvE))))))
      · rw [if_neg c_1] at hd
        refine wp_s 28 [some (.ref a0), some (.int x1), some (.int s0), none, none, none] [.int (27 : Int32)] h0 i_50_26 rfl ?_
        refine wp_s 33 [some (.ref a0), some (.int x1), some (.int s0), none, none, none] [.int (27 : Int32)] h0 i_50_28 rfl ?_
        exact aWp.forget (ih.2.1 _ _ _ _ _ _ _ _ hd) (lvS (lvS (lvS (lvN (lvN (lvN lvE))))))
    · intro a0 x1 s0 x2 x3 x4 h0 zz hd
      unfold l_50 at hd
      rw [if_neg (by decide), if_pos rfl] at hd
      refine wp_s 34 [some (.ref a0), some (.int x1), some (.int x2), some (.int s0), none, none] [] h0 i_50_33 rfl ?_
      refine wp_s 35 [some (.ref a0), some (.int x1), some (.int x2), some (.int s0), none, none] [.ref a0] h0 i_50_34 rfl ?_
      refine wp_s 36 [some (.ref a0), some (.int x1), some (.int x2), some (.int s0), none, none] [.int x1, .ref a0] h0 i_50_35 rfl ?_
      refine wp_s 37 [some (.ref a0), some (.int x1), some (.int x2), some (.int s0), none, none] [.int (1 : Int32), .int x1, .ref a0] h0 i_50_36 rfl ?_
      refine wp_s 38 [some (.ref a0), some (.int x1), some (.int x2), some (.int s0), none, none] [.int (x1 + (1 : Int32)), .ref a0] h0 i_50_37 rfl ?_
      obtain ⟨k_2, hd⟩ := dk_if hd
      obtain ⟨fs_3, o_4⟩ := isO_of k_2
      obtain ⟨z_5, q_6, hd⟩ := dk_bind hd
      refine wp_callV 41 rfl i_50_38 (by decide) rfl (vs := [.int (x1 + (1 : Int32))]) (rest := []) rfl rfl rfl o_4 (y := m_50) rfl (Nat.le_of_ble_eq_true rfl) (hs50 _ _ _ _ q_6) ?_
      rintro v_7 h_8 ⟨rfl, hz⟩
      have hz := hz.symm
      subst hz
      refine wp_s 42 [some (.ref a0), some (.int x1), some (.int x2), some (.int s0), none, none] [.int (0 : Int32)] z_5 i_50_41 rfl ?_
      refine wp_s 44 [some (.ref a0), some (.int x1), some (.int x2), some (.int s0), some (.int (0 : Int32)), none] [] z_5 i_50_42 rfl ?_
      exact aWp.forget (ih.2.2 _ _ _ _ _ _ _ _ hd) (lvS (lvS (lvS (lvS (lvS (lvN lvE))))))
    · intro a0 x1 s0 x2 x3 x4 h0 zz hd
      unfold l_50 at hd
      rw [if_neg (by decide), if_neg (by decide), if_pos rfl] at hd
      refine wp_s 46 [some (.ref a0), some (.int x1), some (.int x2), some (.int x3), some (.int x4), none] [.int x4] h0 i_50_44 rfl ?_
      refine wp_s 49 [some (.ref a0), some (.int x1), some (.int x2), some (.int x3), some (.int x4), none] [.int (400 : Int32), .int x4] h0 i_50_46 rfl ?_
      refine wp_cmp_ge 104 52 rfl rfl i_50_49 (fun c_9 => ?_) (fun c_9 => ?_)
      · rw [if_pos c_9] at hd
        obtain rfl := Option.some.inj hd
        exact wp_ret i_50_104 rfl ⟨rfl, rfl⟩
      · rw [if_neg c_9] at hd
        refine wp_s 53 [some (.ref a0), some (.int x1), some (.int x2), some (.int x3), some (.int x4), none] [.ref a0] h0 i_50_52 rfl ?_
        obtain ⟨f_10, q_11, hd⟩ := dk_bind hd
        refine hp_gR 56 rfl i_50_53 q_11 ?_
        obtain ⟨f_12, q_13, hd⟩ := dk_bind hd
        refine hp_gI 59 rfl i_50_56 q_13 ?_
        refine wp_s 60 [some (.ref a0), some (.int x1), some (.int x2), some (.int x3), some (.int x4), none] [.int x2, .int f_12] h0 i_50_59 rfl ?_
        refine wp_s 61 [some (.ref a0), some (.int x1), some (.int x2), some (.int x3), some (.int x4), none] [.int x3, .int x2, .int f_12] h0 i_50_60 rfl ?_
        obtain ⟨z_14, q_15, hd⟩ := dk_bind hd
        refine wp_callS 64 rfl i_50_61 (by decide) (vs := [.int f_12, .int x2, .int x3]) (rest := []) rfl rfl rfl (y := m_138) rfl (Nat.le_of_ble_eq_true rfl) (d_138_ok (d := e) (by omega) q_15) ?_
        rintro v_16 h_17 ⟨rfl, rfl⟩
        refine wp_if_eq 104 67 rfl rfl i_50_64 (fun c_18 => ?_) (fun c_18 => ?_)
        · rw [if_pos c_18] at hd
          obtain rfl := Option.some.inj hd
          exact wp_ret i_50_104 rfl ⟨rfl, rfl⟩
        · rw [if_neg c_18] at hd
          refine wp_s 68 [some (.ref a0), some (.int x1), some (.int x2), some (.int x3), some (.int x4), none] [.ref a0] z_14.2 i_50_67 rfl ?_
          obtain ⟨f_19, q_20, hd⟩ := dk_bind hd
          refine hp_gR 71 rfl i_50_68 q_20 ?_
          obtain ⟨f_21, q_22, hd⟩ := dk_bind hd
          refine hp_gI 74 rfl i_50_71 q_22 ?_
          refine wp_s 76 [some (.ref a0), some (.int x1), some (.int x2), some (.int x3), some (.int x4), some (.int f_21)] [] z_14.2 i_50_74 rfl ?_
          refine wp_s 77 [some (.ref a0), some (.int x1), some (.int x2), some (.int x3), some (.int x4), some (.int f_21)] [.ref a0] z_14.2 i_50_76 rfl ?_
          obtain ⟨f_23, q_24, hd⟩ := dk_bind hd
          refine hp_gR 80 rfl i_50_77 q_24 ?_
          obtain ⟨k_25, hd⟩ := dk_if hd
          obtain ⟨fs_26, o_27⟩ := isO_of k_25
          obtain ⟨z_28, q_29, hd⟩ := dk_bind hd
          refine wp_callV 83 rfl i_50_80 (by decide) rfl (vs := []) (rest := []) rfl rfl rfl o_27 (y := m_84) rfl (Nat.le_of_ble_eq_true rfl) (d_84_ok (d := e) (by omega) q_29) ?_
          rintro v_30 h_31 ⟨rfl, hz⟩
          have hz := hz.symm
          subst hz
          refine wp_s 84 [some (.ref a0), some (.int x1), some (.int x2), some (.int x3), some (.int x4), some (.int f_21)] [.ref a0] z_28 i_50_83 rfl ?_
          refine wp_s 85 [some (.ref a0), some (.int x1), some (.int x2), some (.int x3), some (.int x4), some (.int f_21)] [.int x1, .ref a0] z_28 i_50_84 rfl ?_
          refine wp_s 86 [some (.ref a0), some (.int x1), some (.int x2), some (.int x3), some (.int x4), some (.int f_21)] [.int (1 : Int32), .int x1, .ref a0] z_28 i_50_85 rfl ?_
          refine wp_s 87 [some (.ref a0), some (.int x1), some (.int x2), some (.int x3), some (.int x4), some (.int f_21)] [.int (x1 + (1 : Int32)), .ref a0] z_28 i_50_86 rfl ?_
          obtain ⟨k_32, hd⟩ := dk_if hd
          obtain ⟨fs_33, o_34⟩ := isO_of k_32
          obtain ⟨z_35, q_36, hd⟩ := dk_bind hd
          refine wp_callV 90 rfl i_50_87 (by decide) rfl (vs := [.int (x1 + (1 : Int32))]) (rest := []) rfl rfl rfl o_34 (y := m_50) rfl (Nat.le_of_ble_eq_true rfl) (hs50 _ _ _ _ q_36) ?_
          rintro v_37 h_38 ⟨rfl, hz⟩
          have hz := hz.symm
          subst hz
          refine wp_s 91 [some (.ref a0), some (.int x1), some (.int x2), some (.int x3), some (.int x4), some (.int f_21)] [.ref a0] z_35 i_50_90 rfl ?_
          refine wp_s 92 [some (.ref a0), some (.int x1), some (.int x2), some (.int x3), some (.int x4), some (.int f_21)] [.int (-1 : Int32), .ref a0] z_35 i_50_91 rfl ?_
          refine wp_s 94 [some (.ref a0), some (.int x1), some (.int x2), some (.int x3), some (.int x4), some (.int f_21)] [.int f_21, .int (-1 : Int32), .ref a0] z_35 i_50_92 rfl ?_
          refine wp_s 95 [some (.ref a0), some (.int x1), some (.int x2), some (.int x3), some (.int x4), some (.int f_21)] [.int ((-1 : Int32) - f_21), .ref a0] z_35 i_50_94 rfl ?_
          obtain ⟨k_39, hd⟩ := dk_if hd
          obtain ⟨fs_40, o_41⟩ := isO_of k_39
          obtain ⟨z_42, q_43, hd⟩ := dk_bind hd
          refine wp_callV 98 rfl i_50_95 (by decide) rfl (vs := [.int ((-1 : Int32) - f_21)]) (rest := []) rfl rfl rfl o_41 (y := m_53) rfl (Nat.le_of_ble_eq_true rfl) (d_53_ok (d := e) (by omega) q_43) ?_
          rintro v_44 h_45 ⟨rfl, hz⟩
          have hz := hz.symm
          subst hz
          refine wp_s 101 [some (.ref a0), some (.int x1), some (.int x2), some (.int x3), some (.int (x4 + (1 : Int32))), some (.int f_21)] [] z_42 i_50_98 rfl ?_
          refine wp_s 44 [some (.ref a0), some (.int x1), some (.int x2), some (.int x3), some (.int (x4 + (1 : Int32))), some (.int f_21)] [] z_42 i_50_101 rfl ?_
          exact aWp.forget (ih.2.2 _ _ _ _ _ _ _ _ hd) (lvS (lvS (lvS (lvS (lvS (lvN lvE))))))
def t_50 (sf50 : Nat → Int32 → aH → Option aH) (g : Nat) (a0 : Nat) (x1 : Int32) (h0 : aH) : Option (aH) := (if x1 ≤ (1 : Int32) then (if ¬ x1 = 0 then (l_50 sf50 g g 0 a0 x1 (28 : Int32) 0 0 0 h0) else (l_50 sf50 g g 0 a0 x1 (26 : Int32) 0 0 0 h0)) else (if isO h0 a0 4 = true then ((d_51 g a0 h0).bind (fun z_1006 => some z_1006)) else none))
set_option maxHeartbeats 4000000 in
set_option maxRecDepth 100000 in
theorem t_50_ok {X : aX} {g : Nat} {sf50 : Nat → Int32 → aH → Option aH} {a0 : Nat} {x1 : Int32} {h0 : aH} {zz : aH} {e : Nat} (hdp : 2 ≤ e) (hs50 : ∀ (a0 : Nat) (x1 : Int32) (h0 zz : aH), sf50 a0 x1 h0 = some zz → aWp X e 50 0 (aEntL [.ref a0, .int x1] 6) [] h0 (fun w h' => w = none ∧ h' = zz)) (hd : t_50 sf50 g a0 x1 h0 = some zz) : aWp X (e + 1) 50 0 (aEntL [.ref a0, .int x1] 6) [] h0 (fun w h' => w = none ∧ h' = zz) := by
  unfold t_50 at hd
  refine wp_lv (l2 := [some (.ref a0), some (.int x1), none, none, none, none]) rfl ?_
  refine wp_s 1 [some (.ref a0), some (.int x1), none, none, none, none] [.int x1] h0 i_50_0 rfl ?_
  refine wp_s 2 [some (.ref a0), some (.int x1), none, none, none, none] [.int (1 : Int32), .int x1] h0 i_50_1 rfl ?_
  refine wp_cmp_le 10 5 rfl rfl i_50_2 (fun c_1001 => ?_) (fun c_1001 => ?_)
  · rw [if_pos c_1001] at hd
    refine wp_s 11 [some (.ref a0), some (.int x1), none, none, none, none] [.int x1] h0 i_50_10 rfl ?_
    refine wp_if_ne 19 14 rfl rfl i_50_11 (fun c_1002 => ?_) (fun c_1002 => ?_)
    · rw [if_pos c_1002] at hd
      refine wp_s 21 [some (.ref a0), some (.int x1), none, none, none, none] [.int (28 : Int32)] h0 i_50_19 rfl ?_
      exact aWp.forget ((l_50_ok hdp hs50 g).1 _ _ _ _ _ _ _ _ hd) (lvS (lvS (lvN (lvN (lvN (lvN lvE))))))
    · rw [if_neg c_1002] at hd
      refine wp_s 16 [some (.ref a0), some (.int x1), none, none, none, none] [.int (26 : Int32)] h0 i_50_14 rfl ?_
      refine wp_s 21 [some (.ref a0), some (.int x1), none, none, none, none] [.int (26 : Int32)] h0 i_50_16 rfl ?_
      exact aWp.forget ((l_50_ok hdp hs50 g).1 _ _ _ _ _ _ _ _ hd) (lvS (lvS (lvN (lvN (lvN (lvN lvE))))))
  · rw [if_neg c_1001] at hd
    refine wp_s 6 [some (.ref a0), some (.int x1), none, none, none, none] [.ref a0] h0 i_50_5 rfl ?_
    obtain ⟨k_1003, hd⟩ := dk_if hd
    obtain ⟨fs_1004, o_1005⟩ := isO_of k_1003
    obtain ⟨z_1006, q_1007, hd⟩ := dk_bind hd
    refine wp_callV 9 rfl i_50_6 (by decide) rfl (vs := []) (rest := []) rfl rfl rfl o_1005 (y := m_51) rfl (Nat.le_of_ble_eq_true rfl) (d_51_ok (d := e) (by omega) q_1007) ?_
    rintro v_1008 h_1009 ⟨rfl, hz⟩
    have hz := hz.symm
    subst hz
    obtain rfl := Option.some.inj hd
    exact wp_ret i_50_9 rfl ⟨rfl, rfl⟩
def R_50 (g n tag : Nat) (a0 : Nat) (x1 : Int32) (h0 : aH) : Option aH := match n with
  | 0 => none
  | n + 1 => if tag = 0 then t_50 (fun a0 x1 h => R_50 g n 0 a0 x1 h) g a0 x1 h0 else none
theorem R_50_ok {X : aX} {g : Nat} : ∀ n, (∀ (a0 : Nat) (x1 : Int32) (h0 zz : aH), R_50 g n 0 a0 x1 h0 = some zz → aWp X (2 + n) 50 0 (aEntL [.ref a0, .int x1] 6) [] h0 (fun w h' => w = none ∧ h' = zz)) := by
  intro n
  induction n with
  | zero => exact fun _ _ _ _ hd => by simp [R_50] at hd
  | succ n ih =>
    intro a0 x1 h0 zz hd
    unfold R_50 at hd
    rw [if_pos rfl] at hd
    exact t_50_ok (e := 2 + n) (by omega) ih hd
def d_50 (g : Nat) (a0 : Nat) (x1 : Int32) (h0 : aH) : Option aH := R_50 g 5 0 a0 x1 h0
theorem d_50_ok {X : aX} {g : Nat} {a0 : Nat} {x1 : Int32} {h0 zz : aH} {d : Nat} (hdp : 7 ≤ d) (hd : d_50 g a0 x1 h0 = some zz) : aWp X d 50 0 (aEntL [.ref a0, .int x1] 6) [] h0 (fun w h' => w = none ∧ h' = zz) := ((R_50_ok 5) _ _ _ _ hd).deep hdp
