theorem i_37_0 : aIns 37 0 = some (.aload_n 0, 1, 0, 0, .null) := by decide +kernel
theorem i_37_1 : aIns 37 1 = some (.iconst 0, 1, 0, 0, .int (0)) := by decide +kernel
theorem i_37_2 : aIns 37 2 = some (.putfield 280, 3, 2, 18, .null) := by decide +kernel
theorem i_37_5 : aIns 37 5 = some (.aload_n 0, 1, 0, 0, .null) := by decide +kernel
theorem i_37_6 : aIns 37 6 = some (.iconst 0, 1, 0, 0, .int (0)) := by decide +kernel
theorem i_37_7 : aIns 37 7 = some (.putfield 283, 3, 2, 19, .null) := by decide +kernel
theorem i_37_10 : aIns 37 10 = some (.aload_n 0, 1, 0, 0, .null) := by decide +kernel
theorem i_37_11 : aIns 37 11 = some (.getfield 47, 3, 2, 0, .null) := by decide +kernel
theorem i_37_14 : aIns 37 14 = some (.getfield 59, 3, 10, 0, .null) := by decide +kernel
theorem i_37_17 : aIns 37 17 = some (.getfield 65, 3, 5, 4, .null) := by decide +kernel
theorem i_37_20 : aIns 37 20 = some (.istore_n 3, 1, 0, 0, .null) := by decide +kernel
theorem i_37_21 : aIns 37 21 = some (.iload_n 3, 1, 0, 0, .null) := by decide +kernel
theorem i_37_22 : aIns 37 22 = some (.iconst 1, 1, 0, 0, .int (1)) := by decide +kernel
theorem i_37_23 : aIns 37 23 = some (.if_icmp .ge 4, 3, 0, 0, .null) := by decide +kernel
theorem i_37_26 : aIns 37 26 = some (.return_, 1, 0, 0, .null) := by decide +kernel
theorem i_37_27 : aIns 37 27 = some (.aload_n 0, 1, 0, 0, .null) := by decide +kernel
theorem i_37_28 : aIns 37 28 = some (.getfield 47, 3, 2, 0, .null) := by decide +kernel
theorem i_37_31 : aIns 37 31 = some (.getfield 286, 3, 10, 3, .null) := by decide +kernel
theorem i_37_34 : aIns 37 34 = some (.i2l, 1, 0, 0, .null) := by decide +kernel
theorem i_37_35 : aIns 37 35 = some (.lstore 4, 2, 0, 0, .null) := by decide +kernel
theorem i_37_37 : aIns 37 37 = some (.iconst 0, 1, 0, 0, .int (0)) := by decide +kernel
theorem i_37_38 : aIns 37 38 = some (.istore 6, 2, 0, 0, .null) := by decide +kernel
theorem i_37_40 : aIns 37 40 = some (.iload 6, 2, 0, 0, .null) := by decide +kernel
theorem i_37_42 : aIns 37 42 = some (.iload_n 1, 1, 0, 0, .null) := by decide +kernel
theorem i_37_43 : aIns 37 43 = some (.if_icmp .ge 70, 3, 0, 0, .null) := by decide +kernel
theorem i_37_46 : aIns 37 46 = some (.aload_n 0, 1, 0, 0, .null) := by decide +kernel
theorem i_37_47 : aIns 37 47 = some (.getfield 43, 3, 2, 10, .null) := by decide +kernel
theorem i_37_50 : aIns 37 50 = some (.aload_n 0, 1, 0, 0, .null) := by decide +kernel
theorem i_37_51 : aIns 37 51 = some (.getfield 47, 3, 2, 0, .null) := by decide +kernel
theorem i_37_54 : aIns 37 54 = some (.getfield 76, 3, 10, 1, .null) := by decide +kernel
theorem i_37_57 : aIns 37 57 = some (.invokevirtual 289, 3, 72, 1, .int 7) := by decide +kernel
theorem i_37_60 : aIns 37 60 = some (.iconst 0, 1, 0, 0, .int (0)) := by decide +kernel
theorem i_37_61 : aIns 37 61 = some (.istore 7, 2, 0, 0, .null) := by decide +kernel
theorem i_37_63 : aIns 37 63 = some (.iload 7, 2, 0, 0, .null) := by decide +kernel
theorem i_37_65 : aIns 37 65 = some (.iload_n 2, 1, 0, 0, .null) := by decide +kernel
theorem i_37_66 : aIns 37 66 = some (.if_icmp .ge 41, 3, 0, 0, .null) := by decide +kernel
theorem i_37_69 : aIns 37 69 = some (.lload 4, 2, 0, 0, .null) := by decide +kernel
theorem i_37_71 : aIns 37 71 = some (.ldc2_w 293, 3, 0, 0, .long (1103515245)) := by decide +kernel
theorem i_37_74 : aIns 37 74 = some (.lmul, 1, 0, 0, .null) := by decide +kernel
theorem i_37_75 : aIns 37 75 = some (.ldc2_w 295, 3, 0, 0, .long (12345)) := by decide +kernel
theorem i_37_78 : aIns 37 78 = some (.ladd, 1, 0, 0, .null) := by decide +kernel
theorem i_37_79 : aIns 37 79 = some (.ldc2_w 297, 3, 0, 0, .long (2147483648)) := by decide +kernel
theorem i_37_82 : aIns 37 82 = some (.lrem, 1, 0, 0, .null) := by decide +kernel
theorem i_37_83 : aIns 37 83 = some (.lstore 4, 2, 0, 0, .null) := by decide +kernel
theorem i_37_85 : aIns 37 85 = some (.aload_n 0, 1, 0, 0, .null) := by decide +kernel
theorem i_37_86 : aIns 37 86 = some (.lload 4, 2, 0, 0, .null) := by decide +kernel
theorem i_37_88 : aIns 37 88 = some (.ldc2_w 299, 3, 0, 0, .long (65536)) := by decide +kernel
theorem i_37_91 : aIns 37 91 = some (.ldiv, 1, 0, 0, .null) := by decide +kernel
theorem i_37_92 : aIns 37 92 = some (.iload_n 3, 1, 0, 0, .null) := by decide +kernel
theorem i_37_93 : aIns 37 93 = some (.iconst 1, 1, 0, 0, .int (1)) := by decide +kernel
theorem i_37_94 : aIns 37 94 = some (.iadd, 1, 0, 0, .null) := by decide +kernel
theorem i_37_95 : aIns 37 95 = some (.i2l, 1, 0, 0, .null) := by decide +kernel
theorem i_37_96 : aIns 37 96 = some (.lrem, 1, 0, 0, .null) := by decide +kernel
theorem i_37_97 : aIns 37 97 = some (.l2i, 1, 0, 0, .null) := by decide +kernel
theorem i_37_98 : aIns 37 98 = some (.invokevirtual 301, 3, 38, 1, .int 2) := by decide +kernel
theorem i_37_101 : aIns 37 101 = some (.iinc 7 1, 3, 0, 0, .null) := by decide +kernel
theorem i_37_104 : aIns 37 104 = some (.goto (-41), 3, 0, 0, .null) := by decide +kernel
theorem i_37_107 : aIns 37 107 = some (.iinc 6 1, 3, 0, 0, .null) := by decide +kernel
theorem i_37_110 : aIns 37 110 = some (.goto (-70), 3, 0, 0, .null) := by decide +kernel
theorem i_37_113 : aIns 37 113 = some (.return_, 1, 0, 0, .null) := by decide +kernel
theorem i_38_0 : aIns 38 0 = some (.iload_n 1, 1, 0, 0, .null) := by decide +kernel
theorem i_38_1 : aIns 38 1 = some (.aload_n 0, 1, 0, 0, .null) := by decide +kernel
theorem i_38_2 : aIns 38 2 = some (.getfield 47, 3, 2, 0, .null) := by decide +kernel
theorem i_38_5 : aIns 38 5 = some (.getfield 59, 3, 10, 0, .null) := by decide +kernel
theorem i_38_8 : aIns 38 8 = some (.getfield 65, 3, 5, 4, .null) := by decide +kernel
theorem i_38_11 : aIns 38 11 = some (.if_icmp .lt 10, 3, 0, 0, .null) := by decide +kernel
theorem i_38_14 : aIns 38 14 = some (.aload_n 0, 1, 0, 0, .null) := by decide +kernel
theorem i_38_15 : aIns 38 15 = some (.invokevirtual 304, 3, 39, 0, .int 2) := by decide +kernel
theorem i_38_18 : aIns 38 18 = some (.goto 35, 3, 0, 0, .null) := by decide +kernel
theorem i_38_21 : aIns 38 21 = some (.aload_n 0, 1, 0, 0, .null) := by decide +kernel
theorem i_38_22 : aIns 38 22 = some (.getfield 43, 3, 2, 10, .null) := by decide +kernel
theorem i_38_25 : aIns 38 25 = some (.iload_n 1, 1, 0, 0, .null) := by decide +kernel
theorem i_38_26 : aIns 38 26 = some (.invokevirtual 307, 3, 75, 1, .int 7) := by decide +kernel
theorem i_38_29 : aIns 38 29 = some (.aload_n 0, 1, 0, 0, .null) := by decide +kernel
theorem i_38_30 : aIns 38 30 = some (.getfield 43, 3, 2, 10, .null) := by decide +kernel
theorem i_38_33 : aIns 38 33 = some (.iload_n 1, 1, 0, 0, .null) := by decide +kernel
theorem i_38_34 : aIns 38 34 = some (.invokevirtual 310, 3, 74, 1, .int 7) := by decide +kernel
theorem i_38_37 : aIns 38 37 = some (.ifCond .eq 16, 3, 0, 0, .null) := by decide +kernel
theorem i_38_40 : aIns 38 40 = some (.aload_n 0, 1, 0, 0, .null) := by decide +kernel
theorem i_38_41 : aIns 38 41 = some (.getfield 43, 3, 2, 10, .null) := by decide +kernel
theorem i_38_44 : aIns 38 44 = some (.getfield 79, 3, 7, 0, .null) := by decide +kernel
theorem i_38_47 : aIns 38 47 = some (.iload_n 1, 1, 0, 0, .null) := by decide +kernel
theorem i_38_48 : aIns 38 48 = some (.dup2, 1, 0, 0, .null) := by decide +kernel
theorem i_38_49 : aIns 38 49 = some (.iaload, 1, 0, 0, .null) := by decide +kernel
theorem i_38_50 : aIns 38 50 = some (.iconst 1, 1, 0, 0, .int (1)) := by decide +kernel
theorem i_38_51 : aIns 38 51 = some (.iadd, 1, 0, 0, .null) := by decide +kernel
theorem i_38_52 : aIns 38 52 = some (.iastore, 1, 0, 0, .null) := by decide +kernel
theorem i_38_53 : aIns 38 53 = some (.aload_n 0, 1, 0, 0, .null) := by decide +kernel
theorem i_38_54 : aIns 38 54 = some (.getfield 43, 3, 2, 10, .null) := by decide +kernel
theorem i_38_57 : aIns 38 57 = some (.sipush 999, 3, 0, 0, .int (999)) := by decide +kernel
theorem i_38_60 : aIns 38 60 = some (.aload_n 0, 1, 0, 0, .null) := by decide +kernel
theorem i_38_61 : aIns 38 61 = some (.getfield 43, 3, 2, 10, .null) := by decide +kernel
theorem i_38_64 : aIns 38 64 = some (.getfield 92, 3, 7, 13, .null) := by decide +kernel
theorem i_38_67 : aIns 38 67 = some (.iconst 1, 1, 0, 0, .int (1)) := by decide +kernel
theorem i_38_68 : aIns 38 68 = some (.iadd, 1, 0, 0, .null) := by decide +kernel
theorem i_38_69 : aIns 38 69 = some (.invokestatic 211, 3, 1002, 0, .null) := by decide +kernel
theorem i_38_72 : aIns 38 72 = some (.putfield 92, 3, 7, 13, .null) := by decide +kernel
theorem i_38_75 : aIns 38 75 = some (.return_, 1, 0, 0, .null) := by decide +kernel
theorem i_47_0 : aIns 47 0 = some (.iload_n 1, 1, 0, 0, .null) := by decide +kernel
theorem i_47_1 : aIns 47 1 = some (.iconst 2, 1, 0, 0, .int (2)) := by decide +kernel
theorem i_47_2 : aIns 47 2 = some (.if_icmp .ge 10, 3, 0, 0, .null) := by decide +kernel
theorem i_47_5 : aIns 47 5 = some (.aload_n 0, 1, 0, 0, .null) := by decide +kernel
theorem i_47_6 : aIns 47 6 = some (.iload_n 1, 1, 0, 0, .null) := by decide +kernel
theorem i_47_7 : aIns 47 7 = some (.iload_n 2, 1, 0, 0, .null) := by decide +kernel
theorem i_47_8 : aIns 47 8 = some (.invokevirtual 69, 3, 48, 2, .int 4) := by decide +kernel
theorem i_47_11 : aIns 47 11 = some (.return_, 1, 0, 0, .null) := by decide +kernel
theorem i_47_12 : aIns 47 12 = some (.aload_n 0, 1, 0, 0, .null) := by decide +kernel
theorem i_47_13 : aIns 47 13 = some (.getfield 9, 3, 4, 0, .null) := by decide +kernel
theorem i_47_16 : aIns 47 16 = some (.getfield 39, 3, 8, 3, .null) := by decide +kernel
theorem i_47_19 : aIns 47 19 = some (.bipush 19, 2, 0, 0, .int (19)) := by decide +kernel
theorem i_47_21 : aIns 47 21 = some (.if_icmp .eq 15, 3, 0, 0, .null) := by decide +kernel
theorem i_47_24 : aIns 47 24 = some (.aload_n 0, 1, 0, 0, .null) := by decide +kernel
theorem i_47_25 : aIns 47 25 = some (.getfield 9, 3, 4, 0, .null) := by decide +kernel
theorem i_47_28 : aIns 47 28 = some (.getfield 39, 3, 8, 3, .null) := by decide +kernel
theorem i_47_31 : aIns 47 31 = some (.bipush 24, 2, 0, 0, .int (24)) := by decide +kernel
theorem i_47_33 : aIns 47 33 = some (.if_icmp .ne 9, 3, 0, 0, .null) := by decide +kernel
theorem i_47_36 : aIns 47 36 = some (.aload_n 0, 1, 0, 0, .null) := by decide +kernel
theorem i_47_37 : aIns 47 37 = some (.iload_n 2, 1, 0, 0, .null) := by decide +kernel
theorem i_47_38 : aIns 47 38 = some (.invokevirtual 72, 3, 49, 1, .int 4) := by decide +kernel
theorem i_47_41 : aIns 47 41 = some (.return_, 1, 0, 0, .null) := by decide +kernel
theorem i_47_42 : aIns 47 42 = some (.aload_n 0, 1, 0, 0, .null) := by decide +kernel
theorem i_47_43 : aIns 47 43 = some (.iconst 0, 1, 0, 0, .int (0)) := by decide +kernel
theorem i_47_44 : aIns 47 44 = some (.invokevirtual 56, 3, 50, 1, .int 4) := by decide +kernel
theorem i_47_47 : aIns 47 47 = some (.aload_n 0, 1, 0, 0, .null) := by decide +kernel
theorem i_47_48 : aIns 47 48 = some (.getfield 9, 3, 4, 0, .null) := by decide +kernel
theorem i_47_51 : aIns 47 51 = some (.getfield 39, 3, 8, 3, .null) := by decide +kernel
theorem i_47_54 : aIns 47 54 = some (.istore_n 3, 1, 0, 0, .null) := by decide +kernel
theorem i_47_55 : aIns 47 55 = some (.iload_n 3, 1, 0, 0, .null) := by decide +kernel
theorem i_47_56 : aIns 47 56 = some (.bipush 31, 2, 0, 0, .int (31)) := by decide +kernel
theorem i_47_58 : aIns 47 58 = some (.bipush 35, 2, 0, 0, .int (35)) := by decide +kernel
theorem i_47_60 : aIns 47 60 = some (.invokestatic 75, 3, 138, 3, .null) := by decide +kernel
theorem i_47_63 : aIns 47 63 = some (.ifCond .ne 12, 3, 0, 0, .null) := by decide +kernel
theorem i_47_66 : aIns 47 66 = some (.aload_n 0, 1, 0, 0, .null) := by decide +kernel
theorem i_47_67 : aIns 47 67 = some (.getfield 9, 3, 4, 0, .null) := by decide +kernel
theorem i_47_70 : aIns 47 70 = some (.iconst 0, 1, 0, 0, .int (0)) := by decide +kernel
theorem i_47_71 : aIns 47 71 = some (.invokevirtual 45, 3, 83, 1, .int 8) := by decide +kernel
theorem i_47_74 : aIns 47 74 = some (.return_, 1, 0, 0, .null) := by decide +kernel
theorem i_47_75 : aIns 47 75 = some (.aload_n 0, 1, 0, 0, .null) := by decide +kernel
theorem i_47_76 : aIns 47 76 = some (.invokevirtual 79, 3, 52, 0, .int 4) := by decide +kernel
theorem i_47_79 : aIns 47 79 = some (.aload_n 0, 1, 0, 0, .null) := by decide +kernel
theorem i_47_80 : aIns 47 80 = some (.getfield 9, 3, 4, 0, .null) := by decide +kernel
theorem i_47_83 : aIns 47 83 = some (.invokevirtual 42, 3, 84, 0, .int 8) := by decide +kernel
theorem i_47_86 : aIns 47 86 = some (.aload_n 0, 1, 0, 0, .null) := by decide +kernel
theorem i_47_87 : aIns 47 87 = some (.iconst 0, 1, 0, 0, .int (0)) := by decide +kernel
theorem i_47_88 : aIns 47 88 = some (.invokevirtual 56, 3, 50, 1, .int 4) := by decide +kernel
theorem i_47_91 : aIns 47 91 = some (.aload_n 0, 1, 0, 0, .null) := by decide +kernel
theorem i_47_92 : aIns 47 92 = some (.iconst (-1), 1, 0, 0, .int (-1)) := by decide +kernel
theorem i_47_93 : aIns 47 93 = some (.iload_n 3, 1, 0, 0, .null) := by decide +kernel
theorem i_47_94 : aIns 47 94 = some (.isub, 1, 0, 0, .null) := by decide +kernel
theorem i_47_95 : aIns 47 95 = some (.invokevirtual 82, 3, 53, 1, .int 4) := by decide +kernel
theorem i_47_98 : aIns 47 98 = some (.return_, 1, 0, 0, .null) := by decide +kernel
theorem i_48_0 : aIns 48 0 = some (.iload_n 1, 1, 0, 0, .null) := by decide +kernel
theorem i_48_1 : aIns 48 1 = some (.ifCond .ne 8, 3, 0, 0, .null) := by decide +kernel
theorem i_48_4 : aIns 48 4 = some (.bipush 17, 2, 0, 0, .int (17)) := by decide +kernel
theorem i_48_6 : aIns 48 6 = some (.goto 5, 3, 0, 0, .null) := by decide +kernel
theorem i_48_9 : aIns 48 9 = some (.bipush 18, 2, 0, 0, .int (18)) := by decide +kernel
theorem i_48_11 : aIns 48 11 = some (.istore_n 3, 1, 0, 0, .null) := by decide +kernel
theorem i_48_12 : aIns 48 12 = some (.aload_n 0, 1, 0, 0, .null) := by decide +kernel
theorem i_48_13 : aIns 48 13 = some (.iload_n 1, 1, 0, 0, .null) := by decide +kernel
theorem i_48_14 : aIns 48 14 = some (.iconst 1, 1, 0, 0, .int (1)) := by decide +kernel
theorem i_48_15 : aIns 48 15 = some (.iadd, 1, 0, 0, .null) := by decide +kernel
theorem i_48_16 : aIns 48 16 = some (.iload_n 2, 1, 0, 0, .null) := by decide +kernel
theorem i_48_17 : aIns 48 17 = some (.invokevirtual 62, 3, 47, 2, .int 4) := by decide +kernel
theorem i_48_20 : aIns 48 20 = some (.iconst 0, 1, 0, 0, .int (0)) := by decide +kernel
theorem i_48_21 : aIns 48 21 = some (.istore 4, 2, 0, 0, .null) := by decide +kernel
theorem i_48_23 : aIns 48 23 = some (.iload 4, 2, 0, 0, .null) := by decide +kernel
theorem i_48_25 : aIns 48 25 = some (.sipush 400, 3, 0, 0, .int (400)) := by decide +kernel
theorem i_48_28 : aIns 48 28 = some (.if_icmp .ge 42, 3, 0, 0, .null) := by decide +kernel
theorem i_48_31 : aIns 48 31 = some (.aload_n 0, 1, 0, 0, .null) := by decide +kernel
theorem i_48_32 : aIns 48 32 = some (.getfield 9, 3, 4, 0, .null) := by decide +kernel
theorem i_48_35 : aIns 48 35 = some (.getfield 39, 3, 8, 3, .null) := by decide +kernel
theorem i_48_38 : aIns 48 38 = some (.iload_n 3, 1, 0, 0, .null) := by decide +kernel
theorem i_48_39 : aIns 48 39 = some (.if_icmp .ne 31, 3, 0, 0, .null) := by decide +kernel
theorem i_48_42 : aIns 48 42 = some (.aload_n 0, 1, 0, 0, .null) := by decide +kernel
theorem i_48_43 : aIns 48 43 = some (.getfield 9, 3, 4, 0, .null) := by decide +kernel
theorem i_48_46 : aIns 48 46 = some (.invokevirtual 42, 3, 84, 0, .int 8) := by decide +kernel
theorem i_48_49 : aIns 48 49 = some (.aload_n 0, 1, 0, 0, .null) := by decide +kernel
theorem i_48_50 : aIns 48 50 = some (.iload_n 1, 1, 0, 0, .null) := by decide +kernel
theorem i_48_51 : aIns 48 51 = some (.iconst 1, 1, 0, 0, .int (1)) := by decide +kernel
theorem i_48_52 : aIns 48 52 = some (.iadd, 1, 0, 0, .null) := by decide +kernel
theorem i_48_53 : aIns 48 53 = some (.iload_n 2, 1, 0, 0, .null) := by decide +kernel
theorem i_48_54 : aIns 48 54 = some (.invokevirtual 62, 3, 47, 2, .int 4) := by decide +kernel
theorem i_48_57 : aIns 48 57 = some (.aload_n 0, 1, 0, 0, .null) := by decide +kernel
theorem i_48_58 : aIns 48 58 = some (.iconst (-1), 1, 0, 0, .int (-1)) := by decide +kernel
theorem i_48_59 : aIns 48 59 = some (.iload_n 3, 1, 0, 0, .null) := by decide +kernel
theorem i_48_60 : aIns 48 60 = some (.isub, 1, 0, 0, .null) := by decide +kernel
theorem i_48_61 : aIns 48 61 = some (.invokevirtual 82, 3, 53, 1, .int 4) := by decide +kernel
theorem i_48_64 : aIns 48 64 = some (.iinc 4 1, 3, 0, 0, .null) := by decide +kernel
theorem i_48_67 : aIns 48 67 = some (.goto (-44), 3, 0, 0, .null) := by decide +kernel
theorem i_48_70 : aIns 48 70 = some (.return_, 1, 0, 0, .null) := by decide +kernel
theorem i_49_0 : aIns 49 0 = some (.iload_n 1, 1, 0, 0, .null) := by decide +kernel
theorem i_49_1 : aIns 49 1 = some (.bipush 10, 2, 0, 0, .int (10)) := by decide +kernel
theorem i_49_3 : aIns 49 3 = some (.if_icmp .lt 14, 3, 0, 0, .null) := by decide +kernel
theorem i_49_6 : aIns 49 6 = some (.aload_n 0, 1, 0, 0, .null) := by decide +kernel
theorem i_49_7 : aIns 49 7 = some (.getfield 9, 3, 4, 0, .null) := by decide +kernel
theorem i_49_10 : aIns 49 10 = some (.iconst 2, 1, 0, 0, .int (2)) := by decide +kernel
theorem i_49_11 : aIns 49 11 = some (.invokevirtual 45, 3, 83, 1, .int 8) := by decide +kernel
theorem i_49_14 : aIns 49 14 = some (.goto 81, 3, 0, 0, .null) := by decide +kernel
theorem i_49_17 : aIns 49 17 = some (.aload_n 0, 1, 0, 0, .null) := by decide +kernel
theorem i_49_18 : aIns 49 18 = some (.getfield 9, 3, 4, 0, .null) := by decide +kernel
theorem i_49_21 : aIns 49 21 = some (.getfield 39, 3, 8, 3, .null) := by decide +kernel
theorem i_49_24 : aIns 49 24 = some (.bipush 19, 2, 0, 0, .int (19)) := by decide +kernel
theorem i_49_26 : aIns 49 26 = some (.if_icmp .ne 27, 3, 0, 0, .null) := by decide +kernel
theorem i_49_29 : aIns 49 29 = some (.aload_n 0, 1, 0, 0, .null) := by decide +kernel
theorem i_49_30 : aIns 49 30 = some (.getfield 9, 3, 4, 0, .null) := by decide +kernel
theorem i_49_33 : aIns 49 33 = some (.invokevirtual 42, 3, 84, 0, .int 8) := by decide +kernel
theorem i_49_36 : aIns 49 36 = some (.aload_n 0, 1, 0, 0, .null) := by decide +kernel
theorem i_49_37 : aIns 49 37 = some (.iconst 2, 1, 0, 0, .int (2)) := by decide +kernel
theorem i_49_38 : aIns 49 38 = some (.iload_n 1, 1, 0, 0, .null) := by decide +kernel
theorem i_49_39 : aIns 49 39 = some (.iconst 1, 1, 0, 0, .int (1)) := by decide +kernel
theorem i_49_40 : aIns 49 40 = some (.iadd, 1, 0, 0, .null) := by decide +kernel
theorem i_49_41 : aIns 49 41 = some (.invokevirtual 62, 3, 47, 2, .int 4) := by decide +kernel
theorem i_49_44 : aIns 49 44 = some (.aload_n 0, 1, 0, 0, .null) := by decide +kernel
theorem i_49_45 : aIns 49 45 = some (.bipush (-20), 2, 0, 0, .int (-20)) := by decide +kernel
theorem i_49_47 : aIns 49 47 = some (.invokevirtual 82, 3, 53, 1, .int 4) := by decide +kernel
theorem i_49_50 : aIns 49 50 = some (.goto 45, 3, 0, 0, .null) := by decide +kernel
theorem i_49_53 : aIns 49 53 = some (.aload_n 0, 1, 0, 0, .null) := by decide +kernel
theorem i_49_54 : aIns 49 54 = some (.getfield 9, 3, 4, 0, .null) := by decide +kernel
theorem i_49_57 : aIns 49 57 = some (.invokevirtual 42, 3, 84, 0, .int 8) := by decide +kernel
theorem i_49_60 : aIns 49 60 = some (.aload_n 0, 1, 0, 0, .null) := by decide +kernel
theorem i_49_61 : aIns 49 61 = some (.iconst 0, 1, 0, 0, .int (0)) := by decide +kernel
theorem i_49_62 : aIns 49 62 = some (.iload_n 1, 1, 0, 0, .null) := by decide +kernel
theorem i_49_63 : aIns 49 63 = some (.iconst 1, 1, 0, 0, .int (1)) := by decide +kernel
theorem i_49_64 : aIns 49 64 = some (.iadd, 1, 0, 0, .null) := by decide +kernel
theorem i_49_65 : aIns 49 65 = some (.invokevirtual 62, 3, 47, 2, .int 4) := by decide +kernel
theorem i_49_68 : aIns 49 68 = some (.aload_n 0, 1, 0, 0, .null) := by decide +kernel
theorem i_49_69 : aIns 49 69 = some (.getfield 9, 3, 4, 0, .null) := by decide +kernel
theorem i_49_72 : aIns 49 72 = some (.getfield 39, 3, 8, 3, .null) := by decide +kernel
theorem i_49_75 : aIns 49 75 = some (.bipush 25, 2, 0, 0, .int (25)) := by decide +kernel
theorem i_49_77 : aIns 49 77 = some (.if_icmp .eq 11, 3, 0, 0, .null) := by decide +kernel
theorem i_49_80 : aIns 49 80 = some (.aload_n 0, 1, 0, 0, .null) := by decide +kernel
theorem i_49_81 : aIns 49 81 = some (.getfield 9, 3, 4, 0, .null) := by decide +kernel
theorem i_49_84 : aIns 49 84 = some (.iconst 0, 1, 0, 0, .int (0)) := by decide +kernel
theorem i_49_85 : aIns 49 85 = some (.invokevirtual 45, 3, 83, 1, .int 8) := by decide +kernel
theorem i_49_88 : aIns 49 88 = some (.aload_n 0, 1, 0, 0, .null) := by decide +kernel
theorem i_49_89 : aIns 49 89 = some (.getfield 9, 3, 4, 0, .null) := by decide +kernel
theorem i_49_92 : aIns 49 92 = some (.invokevirtual 42, 3, 84, 0, .int 8) := by decide +kernel
theorem i_49_95 : aIns 49 95 = some (.return_, 1, 0, 0, .null) := by decide +kernel
theorem i_50_0 : aIns 50 0 = some (.iload_n 1, 1, 0, 0, .null) := by decide +kernel
theorem i_50_1 : aIns 50 1 = some (.iconst 1, 1, 0, 0, .int (1)) := by decide +kernel
theorem i_50_2 : aIns 50 2 = some (.if_icmp .le 8, 3, 0, 0, .null) := by decide +kernel
theorem i_50_5 : aIns 50 5 = some (.aload_n 0, 1, 0, 0, .null) := by decide +kernel
theorem i_50_6 : aIns 50 6 = some (.invokevirtual 85, 3, 51, 0, .int 4) := by decide +kernel
theorem i_50_9 : aIns 50 9 = some (.return_, 1, 0, 0, .null) := by decide +kernel
theorem i_50_10 : aIns 50 10 = some (.iload_n 1, 1, 0, 0, .null) := by decide +kernel
theorem i_50_11 : aIns 50 11 = some (.ifCond .ne 8, 3, 0, 0, .null) := by decide +kernel
theorem i_50_14 : aIns 50 14 = some (.bipush 26, 2, 0, 0, .int (26)) := by decide +kernel
theorem i_50_16 : aIns 50 16 = some (.goto 5, 3, 0, 0, .null) := by decide +kernel
theorem i_50_19 : aIns 50 19 = some (.bipush 28, 2, 0, 0, .int (28)) := by decide +kernel
theorem i_50_21 : aIns 50 21 = some (.istore_n 2, 1, 0, 0, .null) := by decide +kernel
theorem i_50_22 : aIns 50 22 = some (.iload_n 1, 1, 0, 0, .null) := by decide +kernel
theorem i_50_23 : aIns 50 23 = some (.ifCond .ne 8, 3, 0, 0, .null) := by decide +kernel
theorem i_50_26 : aIns 50 26 = some (.bipush 27, 2, 0, 0, .int (27)) := by decide +kernel
theorem i_50_28 : aIns 50 28 = some (.goto 5, 3, 0, 0, .null) := by decide +kernel
theorem i_50_31 : aIns 50 31 = some (.bipush 30, 2, 0, 0, .int (30)) := by decide +kernel
theorem i_50_33 : aIns 50 33 = some (.istore_n 3, 1, 0, 0, .null) := by decide +kernel
theorem i_50_34 : aIns 50 34 = some (.aload_n 0, 1, 0, 0, .null) := by decide +kernel
theorem i_50_35 : aIns 50 35 = some (.iload_n 1, 1, 0, 0, .null) := by decide +kernel
theorem i_50_36 : aIns 50 36 = some (.iconst 1, 1, 0, 0, .int (1)) := by decide +kernel
theorem i_50_37 : aIns 50 37 = some (.iadd, 1, 0, 0, .null) := by decide +kernel
theorem i_50_38 : aIns 50 38 = some (.invokevirtual 56, 3, 50, 1, .int 4) := by decide +kernel
theorem i_50_41 : aIns 50 41 = some (.iconst 0, 1, 0, 0, .int (0)) := by decide +kernel
theorem i_50_42 : aIns 50 42 = some (.istore 4, 2, 0, 0, .null) := by decide +kernel
theorem i_50_44 : aIns 50 44 = some (.iload 4, 2, 0, 0, .null) := by decide +kernel
theorem i_50_46 : aIns 50 46 = some (.sipush 400, 3, 0, 0, .int (400)) := by decide +kernel
theorem i_50_49 : aIns 50 49 = some (.if_icmp .ge 55, 3, 0, 0, .null) := by decide +kernel
theorem i_50_52 : aIns 50 52 = some (.aload_n 0, 1, 0, 0, .null) := by decide +kernel
theorem i_50_53 : aIns 50 53 = some (.getfield 9, 3, 4, 0, .null) := by decide +kernel
theorem i_50_56 : aIns 50 56 = some (.getfield 39, 3, 8, 3, .null) := by decide +kernel
theorem i_50_59 : aIns 50 59 = some (.iload_n 2, 1, 0, 0, .null) := by decide +kernel
theorem i_50_60 : aIns 50 60 = some (.iload_n 3, 1, 0, 0, .null) := by decide +kernel
theorem i_50_61 : aIns 50 61 = some (.invokestatic 75, 3, 138, 3, .null) := by decide +kernel
theorem i_50_64 : aIns 50 64 = some (.ifCond .eq 40, 3, 0, 0, .null) := by decide +kernel
theorem i_50_67 : aIns 50 67 = some (.aload_n 0, 1, 0, 0, .null) := by decide +kernel
theorem i_50_68 : aIns 50 68 = some (.getfield 9, 3, 4, 0, .null) := by decide +kernel
theorem i_50_71 : aIns 50 71 = some (.getfield 39, 3, 8, 3, .null) := by decide +kernel
theorem i_50_74 : aIns 50 74 = some (.istore 5, 2, 0, 0, .null) := by decide +kernel
theorem i_50_76 : aIns 50 76 = some (.aload_n 0, 1, 0, 0, .null) := by decide +kernel
theorem i_50_77 : aIns 50 77 = some (.getfield 9, 3, 4, 0, .null) := by decide +kernel
theorem i_50_80 : aIns 50 80 = some (.invokevirtual 42, 3, 84, 0, .int 8) := by decide +kernel
theorem i_50_83 : aIns 50 83 = some (.aload_n 0, 1, 0, 0, .null) := by decide +kernel
theorem i_50_84 : aIns 50 84 = some (.iload_n 1, 1, 0, 0, .null) := by decide +kernel
theorem i_50_85 : aIns 50 85 = some (.iconst 1, 1, 0, 0, .int (1)) := by decide +kernel
theorem i_50_86 : aIns 50 86 = some (.iadd, 1, 0, 0, .null) := by decide +kernel
theorem i_50_87 : aIns 50 87 = some (.invokevirtual 56, 3, 50, 1, .int 4) := by decide +kernel
theorem i_50_90 : aIns 50 90 = some (.aload_n 0, 1, 0, 0, .null) := by decide +kernel
theorem i_50_91 : aIns 50 91 = some (.iconst (-1), 1, 0, 0, .int (-1)) := by decide +kernel
theorem i_50_92 : aIns 50 92 = some (.iload 5, 2, 0, 0, .null) := by decide +kernel
theorem i_50_94 : aIns 50 94 = some (.isub, 1, 0, 0, .null) := by decide +kernel
theorem i_50_95 : aIns 50 95 = some (.invokevirtual 82, 3, 53, 1, .int 4) := by decide +kernel
theorem i_50_98 : aIns 50 98 = some (.iinc 4 1, 3, 0, 0, .null) := by decide +kernel
theorem i_50_101 : aIns 50 101 = some (.goto (-57), 3, 0, 0, .null) := by decide +kernel
theorem i_50_104 : aIns 50 104 = some (.return_, 1, 0, 0, .null) := by decide +kernel
theorem i_51_0 : aIns 51 0 = some (.aload_n 0, 1, 0, 0, .null) := by decide +kernel
theorem i_51_1 : aIns 51 1 = some (.getfield 9, 3, 4, 0, .null) := by decide +kernel
theorem i_51_4 : aIns 51 4 = some (.getfield 39, 3, 8, 3, .null) := by decide +kernel
theorem i_51_7 : aIns 51 7 = some (.istore_n 1, 1, 0, 0, .null) := by decide +kernel
theorem i_51_8 : aIns 51 8 = some (.iload_n 1, 1, 0, 0, .null) := by decide +kernel
theorem i_51_9 : aIns 51 9 = some (.bipush 20, 2, 0, 0, .int (20)) := by decide +kernel
theorem i_51_11 : aIns 51 11 = some (.if_icmp .eq 18, 3, 0, 0, .null) := by decide +kernel
theorem i_51_14 : aIns 51 14 = some (.iload_n 1, 1, 0, 0, .null) := by decide +kernel
theorem i_51_15 : aIns 51 15 = some (.bipush 8, 2, 0, 0, .int (8)) := by decide +kernel
theorem i_51_17 : aIns 51 17 = some (.if_icmp .lt 12, 3, 0, 0, .null) := by decide +kernel
theorem i_51_20 : aIns 51 20 = some (.aload_n 0, 1, 0, 0, .null) := by decide +kernel
theorem i_51_21 : aIns 51 21 = some (.getfield 9, 3, 4, 0, .null) := by decide +kernel
theorem i_51_24 : aIns 51 24 = some (.iconst 0, 1, 0, 0, .int (0)) := by decide +kernel
theorem i_51_25 : aIns 51 25 = some (.invokevirtual 45, 3, 83, 1, .int 8) := by decide +kernel
theorem i_51_28 : aIns 51 28 = some (.return_, 1, 0, 0, .null) := by decide +kernel
theorem i_51_29 : aIns 51 29 = some (.iload_n 1, 1, 0, 0, .null) := by decide +kernel
theorem i_51_30 : aIns 51 30 = some (.bipush 20, 2, 0, 0, .int (20)) := by decide +kernel
theorem i_51_32 : aIns 51 32 = some (.if_icmp .ne 24, 3, 0, 0, .null) := by decide +kernel
theorem i_51_35 : aIns 51 35 = some (.aload_n 0, 1, 0, 0, .null) := by decide +kernel
theorem i_51_36 : aIns 51 36 = some (.getfield 9, 3, 4, 0, .null) := by decide +kernel
theorem i_51_39 : aIns 51 39 = some (.getfield 88, 3, 8, 5, .null) := by decide +kernel
theorem i_51_42 : aIns 51 42 = some (.ldc 91, 2, 0, 0, .int (99999)) := by decide +kernel
theorem i_51_44 : aIns 51 44 = some (.if_icmp .le 12, 3, 0, 0, .null) := by decide +kernel
theorem i_51_47 : aIns 51 47 = some (.aload_n 0, 1, 0, 0, .null) := by decide +kernel
theorem i_51_48 : aIns 51 48 = some (.getfield 9, 3, 4, 0, .null) := by decide +kernel
theorem i_51_51 : aIns 51 51 = some (.iconst 1, 1, 0, 0, .int (1)) := by decide +kernel
theorem i_51_52 : aIns 51 52 = some (.invokevirtual 45, 3, 83, 1, .int 8) := by decide +kernel
theorem i_51_55 : aIns 51 55 = some (.return_, 1, 0, 0, .null) := by decide +kernel
theorem i_51_56 : aIns 51 56 = some (.aload_n 0, 1, 0, 0, .null) := by decide +kernel
theorem i_51_57 : aIns 51 57 = some (.invokevirtual 79, 3, 52, 0, .int 4) := by decide +kernel
theorem i_51_60 : aIns 51 60 = some (.aload_n 0, 1, 0, 0, .null) := by decide +kernel
theorem i_51_61 : aIns 51 61 = some (.iload_n 1, 1, 0, 0, .null) := by decide +kernel
theorem i_51_62 : aIns 51 62 = some (.bipush 20, 2, 0, 0, .int (20)) := by decide +kernel
theorem i_51_64 : aIns 51 64 = some (.if_icmp .ne 13, 3, 0, 0, .null) := by decide +kernel
theorem i_51_67 : aIns 51 67 = some (.aload_n 0, 1, 0, 0, .null) := by decide +kernel
theorem i_51_68 : aIns 51 68 = some (.getfield 9, 3, 4, 0, .null) := by decide +kernel
theorem i_51_71 : aIns 51 71 = some (.getfield 88, 3, 8, 5, .null) := by decide +kernel
theorem i_51_74 : aIns 51 74 = some (.goto 6, 3, 0, 0, .null) := by decide +kernel
theorem i_51_77 : aIns 51 77 = some (.iconst (-1), 1, 0, 0, .int (-1)) := by decide +kernel
theorem i_51_78 : aIns 51 78 = some (.iload_n 1, 1, 0, 0, .null) := by decide +kernel
theorem i_51_79 : aIns 51 79 = some (.isub, 1, 0, 0, .null) := by decide +kernel
theorem i_51_80 : aIns 51 80 = some (.invokevirtual 82, 3, 53, 1, .int 4) := by decide +kernel
theorem i_51_83 : aIns 51 83 = some (.aload_n 0, 1, 0, 0, .null) := by decide +kernel
theorem i_51_84 : aIns 51 84 = some (.getfield 9, 3, 4, 0, .null) := by decide +kernel
theorem i_51_87 : aIns 51 87 = some (.invokevirtual 42, 3, 84, 0, .int 8) := by decide +kernel
theorem i_51_90 : aIns 51 90 = some (.return_, 1, 0, 0, .null) := by decide +kernel
theorem i_52_0 : aIns 52 0 = some (.aload_n 0, 1, 0, 0, .null) := by decide +kernel
theorem i_52_1 : aIns 52 1 = some (.getfield 28, 3, 4, 2, .null) := by decide +kernel
theorem i_52_4 : aIns 52 4 = some (.bipush 60, 2, 0, 0, .int (60)) := by decide +kernel
theorem i_52_6 : aIns 52 6 = some (.if_icmp .lt 11, 3, 0, 0, .null) := by decide +kernel
theorem i_52_9 : aIns 52 9 = some (.aload_n 0, 1, 0, 0, .null) := by decide +kernel
theorem i_52_10 : aIns 52 10 = some (.getfield 9, 3, 4, 0, .null) := by decide +kernel
theorem i_52_13 : aIns 52 13 = some (.iconst 3, 1, 0, 0, .int (3)) := by decide +kernel
theorem i_52_14 : aIns 52 14 = some (.invokevirtual 45, 3, 83, 1, .int 8) := by decide +kernel
theorem i_52_17 : aIns 52 17 = some (.aload_n 0, 1, 0, 0, .null) := by decide +kernel
theorem i_52_18 : aIns 52 18 = some (.dup, 1, 0, 0, .null) := by decide +kernel
theorem i_52_19 : aIns 52 19 = some (.getfield 28, 3, 4, 2, .null) := by decide +kernel
theorem i_52_22 : aIns 52 22 = some (.iconst 1, 1, 0, 0, .int (1)) := by decide +kernel
theorem i_52_23 : aIns 52 23 = some (.iadd, 1, 0, 0, .null) := by decide +kernel
theorem i_52_24 : aIns 52 24 = some (.putfield 28, 3, 4, 2, .null) := by decide +kernel
theorem i_52_27 : aIns 52 27 = some (.return_, 1, 0, 0, .null) := by decide +kernel
theorem i_53_0 : aIns 53 0 = some (.aload_n 0, 1, 0, 0, .null) := by decide +kernel
theorem i_53_1 : aIns 53 1 = some (.getfield 15, 3, 4, 1, .null) := by decide +kernel
theorem i_53_4 : aIns 53 4 = some (.getfield 19, 3, 3, 5, .null) := by decide +kernel
theorem i_53_7 : aIns 53 7 = some (.sipush 400, 3, 0, 0, .int (400)) := by decide +kernel
theorem i_53_10 : aIns 53 10 = some (.if_icmp .ge 32, 3, 0, 0, .null) := by decide +kernel
theorem i_53_13 : aIns 53 13 = some (.aload_n 0, 1, 0, 0, .null) := by decide +kernel
theorem i_53_14 : aIns 53 14 = some (.getfield 15, 3, 4, 1, .null) := by decide +kernel
theorem i_53_17 : aIns 53 17 = some (.getfield 92, 3, 3, 0, .null) := by decide +kernel
theorem i_53_20 : aIns 53 20 = some (.aload_n 0, 1, 0, 0, .null) := by decide +kernel
theorem i_53_21 : aIns 53 21 = some (.getfield 15, 3, 4, 1, .null) := by decide +kernel
theorem i_53_24 : aIns 53 24 = some (.getfield 19, 3, 3, 5, .null) := by decide +kernel
theorem i_53_27 : aIns 53 27 = some (.iload_n 1, 1, 0, 0, .null) := by decide +kernel
theorem i_53_28 : aIns 53 28 = some (.iastore, 1, 0, 0, .null) := by decide +kernel
theorem i_53_29 : aIns 53 29 = some (.aload_n 0, 1, 0, 0, .null) := by decide +kernel
theorem i_53_30 : aIns 53 30 = some (.getfield 15, 3, 4, 1, .null) := by decide +kernel
theorem i_53_33 : aIns 53 33 = some (.dup, 1, 0, 0, .null) := by decide +kernel
theorem i_53_34 : aIns 53 34 = some (.getfield 19, 3, 3, 5, .null) := by decide +kernel
theorem i_53_37 : aIns 53 37 = some (.iconst 1, 1, 0, 0, .int (1)) := by decide +kernel
theorem i_53_38 : aIns 53 38 = some (.iadd, 1, 0, 0, .null) := by decide +kernel
theorem i_53_39 : aIns 53 39 = some (.putfield 19, 3, 3, 5, .null) := by decide +kernel
theorem i_53_42 : aIns 53 42 = some (.return_, 1, 0, 0, .null) := by decide +kernel
theorem i_83_0 : aIns 83 0 = some (.aload_n 0, 1, 0, 0, .null) := by decide +kernel
theorem i_83_1 : aIns 83 1 = some (.getfield 22, 3, 8, 6, .null) := by decide +kernel
theorem i_83_4 : aIns 83 4 = some (.ifCond .ne 18, 3, 0, 0, .null) := by decide +kernel
theorem i_83_7 : aIns 83 7 = some (.aload_n 0, 1, 0, 0, .null) := by decide +kernel
theorem i_83_8 : aIns 83 8 = some (.iconst 1, 1, 0, 0, .int (1)) := by decide +kernel
theorem i_83_9 : aIns 83 9 = some (.bipush 8, 2, 0, 0, .int (8)) := by decide +kernel
theorem i_83_11 : aIns 83 11 = some (.aload_n 0, 1, 0, 0, .null) := by decide +kernel
theorem i_83_12 : aIns 83 12 = some (.getfield 28, 3, 8, 4, .null) := by decide +kernel
theorem i_83_15 : aIns 83 15 = some (.imul, 1, 0, 0, .null) := by decide +kernel
theorem i_83_16 : aIns 83 16 = some (.iadd, 1, 0, 0, .null) := by decide +kernel
theorem i_83_17 : aIns 83 17 = some (.iload_n 1, 1, 0, 0, .null) := by decide +kernel
theorem i_83_18 : aIns 83 18 = some (.iadd, 1, 0, 0, .null) := by decide +kernel
theorem i_83_19 : aIns 83 19 = some (.putfield 22, 3, 8, 6, .null) := by decide +kernel
theorem i_83_22 : aIns 83 22 = some (.aload_n 0, 1, 0, 0, .null) := by decide +kernel
theorem i_83_23 : aIns 83 23 = some (.bipush 21, 2, 0, 0, .int (21)) := by decide +kernel
theorem i_83_25 : aIns 83 25 = some (.putfield 31, 3, 8, 3, .null) := by decide +kernel
theorem i_83_28 : aIns 83 28 = some (.aload_n 0, 1, 0, 0, .null) := by decide +kernel
theorem i_83_29 : aIns 83 29 = some (.aload_n 0, 1, 0, 0, .null) := by decide +kernel
theorem i_83_30 : aIns 83 30 = some (.getfield 15, 3, 8, 1, .null) := by decide +kernel
theorem i_83_33 : aIns 83 33 = some (.putfield 19, 3, 8, 2, .null) := by decide +kernel
theorem i_83_36 : aIns 83 36 = some (.return_, 1, 0, 0, .null) := by decide +kernel
theorem i_84_0 : aIns 84 0 = some (.aload_n 0, 1, 0, 0, .null) := by decide +kernel
theorem i_84_1 : aIns 84 1 = some (.getfield 19, 3, 8, 2, .null) := by decide +kernel
theorem i_84_4 : aIns 84 4 = some (.aload_n 0, 1, 0, 0, .null) := by decide +kernel
theorem i_84_5 : aIns 84 5 = some (.getfield 15, 3, 8, 1, .null) := by decide +kernel
theorem i_84_8 : aIns 84 8 = some (.if_icmp .ge 30, 3, 0, 0, .null) := by decide +kernel
theorem i_84_11 : aIns 84 11 = some (.aload_n 0, 1, 0, 0, .null) := by decide +kernel
theorem i_84_12 : aIns 84 12 = some (.getfield 9, 3, 8, 0, .null) := by decide +kernel
theorem i_84_15 : aIns 84 15 = some (.aload_n 0, 1, 0, 0, .null) := by decide +kernel
theorem i_84_16 : aIns 84 16 = some (.getfield 19, 3, 8, 2, .null) := by decide +kernel
theorem i_84_19 : aIns 84 19 = some (.baload, 1, 0, 0, .null) := by decide +kernel
theorem i_84_20 : aIns 84 20 = some (.bipush 32, 2, 0, 0, .int (32)) := by decide +kernel
theorem i_84_22 : aIns 84 22 = some (.if_icmp .ne 16, 3, 0, 0, .null) := by decide +kernel
theorem i_84_25 : aIns 84 25 = some (.aload_n 0, 1, 0, 0, .null) := by decide +kernel
theorem i_84_26 : aIns 84 26 = some (.dup, 1, 0, 0, .null) := by decide +kernel
theorem i_84_27 : aIns 84 27 = some (.getfield 19, 3, 8, 2, .null) := by decide +kernel
theorem i_84_30 : aIns 84 30 = some (.iconst 1, 1, 0, 0, .int (1)) := by decide +kernel
theorem i_84_31 : aIns 84 31 = some (.iadd, 1, 0, 0, .null) := by decide +kernel
theorem i_84_32 : aIns 84 32 = some (.putfield 19, 3, 8, 2, .null) := by decide +kernel
theorem i_84_35 : aIns 84 35 = some (.goto (-35), 3, 0, 0, .null) := by decide +kernel
theorem i_84_38 : aIns 84 38 = some (.aload_n 0, 1, 0, 0, .null) := by decide +kernel
theorem i_84_39 : aIns 84 39 = some (.aload_n 0, 1, 0, 0, .null) := by decide +kernel
theorem i_84_40 : aIns 84 40 = some (.getfield 19, 3, 8, 2, .null) := by decide +kernel
theorem i_84_43 : aIns 84 43 = some (.putfield 28, 3, 8, 4, .null) := by decide +kernel
theorem i_84_46 : aIns 84 46 = some (.aload_n 0, 1, 0, 0, .null) := by decide +kernel
theorem i_84_47 : aIns 84 47 = some (.getfield 19, 3, 8, 2, .null) := by decide +kernel
theorem i_84_50 : aIns 84 50 = some (.aload_n 0, 1, 0, 0, .null) := by decide +kernel
theorem i_84_51 : aIns 84 51 = some (.getfield 15, 3, 8, 1, .null) := by decide +kernel
theorem i_84_54 : aIns 84 54 = some (.if_icmp .lt 12, 3, 0, 0, .null) := by decide +kernel
theorem i_84_57 : aIns 84 57 = some (.aload_n 0, 1, 0, 0, .null) := by decide +kernel
theorem i_84_58 : aIns 84 58 = some (.bipush 21, 2, 0, 0, .int (21)) := by decide +kernel
theorem i_84_60 : aIns 84 60 = some (.putfield 31, 3, 8, 3, .null) := by decide +kernel
theorem i_84_63 : aIns 84 63 = some (.goto 77, 3, 0, 0, .null) := by decide +kernel
theorem i_84_66 : aIns 84 66 = some (.aload_n 0, 1, 0, 0, .null) := by decide +kernel
theorem i_84_67 : aIns 84 67 = some (.getfield 9, 3, 8, 0, .null) := by decide +kernel
theorem i_84_70 : aIns 84 70 = some (.aload_n 0, 1, 0, 0, .null) := by decide +kernel
theorem i_84_71 : aIns 84 71 = some (.getfield 19, 3, 8, 2, .null) := by decide +kernel
theorem i_84_74 : aIns 84 74 = some (.baload, 1, 0, 0, .null) := by decide +kernel
theorem i_84_75 : aIns 84 75 = some (.bipush 48, 2, 0, 0, .int (48)) := by decide +kernel
theorem i_84_77 : aIns 84 77 = some (.if_icmp .lt 24, 3, 0, 0, .null) := by decide +kernel
theorem i_84_80 : aIns 84 80 = some (.aload_n 0, 1, 0, 0, .null) := by decide +kernel
theorem i_84_81 : aIns 84 81 = some (.getfield 9, 3, 8, 0, .null) := by decide +kernel
theorem i_84_84 : aIns 84 84 = some (.aload_n 0, 1, 0, 0, .null) := by decide +kernel
theorem i_84_85 : aIns 84 85 = some (.getfield 19, 3, 8, 2, .null) := by decide +kernel
theorem i_84_88 : aIns 84 88 = some (.baload, 1, 0, 0, .null) := by decide +kernel
theorem i_84_89 : aIns 84 89 = some (.bipush 57, 2, 0, 0, .int (57)) := by decide +kernel
theorem i_84_91 : aIns 84 91 = some (.if_icmp .gt 10, 3, 0, 0, .null) := by decide +kernel
theorem i_84_94 : aIns 84 94 = some (.aload_n 0, 1, 0, 0, .null) := by decide +kernel
theorem i_84_95 : aIns 84 95 = some (.invokevirtual 34, 3, 85, 0, .int 8) := by decide +kernel
theorem i_84_98 : aIns 84 98 = some (.goto 42, 3, 0, 0, .null) := by decide +kernel
theorem i_84_101 : aIns 84 101 = some (.aload_n 0, 1, 0, 0, .null) := by decide +kernel
theorem i_84_102 : aIns 84 102 = some (.getfield 9, 3, 8, 0, .null) := by decide +kernel
theorem i_84_105 : aIns 84 105 = some (.aload_n 0, 1, 0, 0, .null) := by decide +kernel
theorem i_84_106 : aIns 84 106 = some (.getfield 19, 3, 8, 2, .null) := by decide +kernel
theorem i_84_109 : aIns 84 109 = some (.baload, 1, 0, 0, .null) := by decide +kernel
theorem i_84_110 : aIns 84 110 = some (.bipush 97, 2, 0, 0, .int (97)) := by decide +kernel
theorem i_84_112 : aIns 84 112 = some (.if_icmp .lt 24, 3, 0, 0, .null) := by decide +kernel
theorem i_84_115 : aIns 84 115 = some (.aload_n 0, 1, 0, 0, .null) := by decide +kernel
theorem i_84_116 : aIns 84 116 = some (.getfield 9, 3, 8, 0, .null) := by decide +kernel
theorem i_84_119 : aIns 84 119 = some (.aload_n 0, 1, 0, 0, .null) := by decide +kernel
theorem i_84_120 : aIns 84 120 = some (.getfield 19, 3, 8, 2, .null) := by decide +kernel
theorem i_84_123 : aIns 84 123 = some (.baload, 1, 0, 0, .null) := by decide +kernel
theorem i_84_124 : aIns 84 124 = some (.bipush 122, 2, 0, 0, .int (122)) := by decide +kernel
theorem i_84_126 : aIns 84 126 = some (.if_icmp .gt 10, 3, 0, 0, .null) := by decide +kernel
theorem i_84_129 : aIns 84 129 = some (.aload_n 0, 1, 0, 0, .null) := by decide +kernel
theorem i_84_130 : aIns 84 130 = some (.invokevirtual 37, 3, 86, 0, .int 8) := by decide +kernel
theorem i_84_133 : aIns 84 133 = some (.goto 7, 3, 0, 0, .null) := by decide +kernel
theorem i_84_136 : aIns 84 136 = some (.aload_n 0, 1, 0, 0, .null) := by decide +kernel
theorem i_84_137 : aIns 84 137 = some (.invokevirtual 40, 3, 87, 0, .int 8) := by decide +kernel
theorem i_84_140 : aIns 84 140 = some (.return_, 1, 0, 0, .null) := by decide +kernel
theorem i_85_0 : aIns 85 0 = some (.aload_n 0, 1, 0, 0, .null) := by decide +kernel
theorem i_85_1 : aIns 85 1 = some (.bipush 20, 2, 0, 0, .int (20)) := by decide +kernel
theorem i_85_3 : aIns 85 3 = some (.putfield 31, 3, 8, 3, .null) := by decide +kernel
theorem i_85_6 : aIns 85 6 = some (.aload_n 0, 1, 0, 0, .null) := by decide +kernel
theorem i_85_7 : aIns 85 7 = some (.iconst 0, 1, 0, 0, .int (0)) := by decide +kernel
theorem i_85_8 : aIns 85 8 = some (.putfield 43, 3, 8, 5, .null) := by decide +kernel
theorem i_85_11 : aIns 85 11 = some (.aload_n 0, 1, 0, 0, .null) := by decide +kernel
theorem i_85_12 : aIns 85 12 = some (.getfield 19, 3, 8, 2, .null) := by decide +kernel
theorem i_85_15 : aIns 85 15 = some (.aload_n 0, 1, 0, 0, .null) := by decide +kernel
theorem i_85_16 : aIns 85 16 = some (.getfield 15, 3, 8, 1, .null) := by decide +kernel
theorem i_85_19 : aIns 85 19 = some (.if_icmp .ge 86, 3, 0, 0, .null) := by decide +kernel
theorem i_85_22 : aIns 85 22 = some (.aload_n 0, 1, 0, 0, .null) := by decide +kernel
theorem i_85_23 : aIns 85 23 = some (.getfield 9, 3, 8, 0, .null) := by decide +kernel
theorem i_85_26 : aIns 85 26 = some (.aload_n 0, 1, 0, 0, .null) := by decide +kernel
theorem i_85_27 : aIns 85 27 = some (.getfield 19, 3, 8, 2, .null) := by decide +kernel
theorem i_85_30 : aIns 85 30 = some (.baload, 1, 0, 0, .null) := by decide +kernel
theorem i_85_31 : aIns 85 31 = some (.bipush 48, 2, 0, 0, .int (48)) := by decide +kernel
theorem i_85_33 : aIns 85 33 = some (.if_icmp .lt 72, 3, 0, 0, .null) := by decide +kernel
theorem i_85_36 : aIns 85 36 = some (.aload_n 0, 1, 0, 0, .null) := by decide +kernel
theorem i_85_37 : aIns 85 37 = some (.getfield 9, 3, 8, 0, .null) := by decide +kernel
theorem i_85_40 : aIns 85 40 = some (.aload_n 0, 1, 0, 0, .null) := by decide +kernel
theorem i_85_41 : aIns 85 41 = some (.getfield 19, 3, 8, 2, .null) := by decide +kernel
theorem i_85_44 : aIns 85 44 = some (.baload, 1, 0, 0, .null) := by decide +kernel
theorem i_85_45 : aIns 85 45 = some (.bipush 57, 2, 0, 0, .int (57)) := by decide +kernel
theorem i_85_47 : aIns 85 47 = some (.if_icmp .gt 58, 3, 0, 0, .null) := by decide +kernel
theorem i_85_50 : aIns 85 50 = some (.aload_n 0, 1, 0, 0, .null) := by decide +kernel
theorem i_85_51 : aIns 85 51 = some (.aload_n 0, 1, 0, 0, .null) := by decide +kernel
theorem i_85_52 : aIns 85 52 = some (.getfield 19, 3, 8, 2, .null) := by decide +kernel
theorem i_85_55 : aIns 85 55 = some (.aload_n 0, 1, 0, 0, .null) := by decide +kernel
theorem i_85_56 : aIns 85 56 = some (.getfield 28, 3, 8, 4, .null) := by decide +kernel
theorem i_85_59 : aIns 85 59 = some (.isub, 1, 0, 0, .null) := by decide +kernel
theorem i_85_60 : aIns 85 60 = some (.iconst 5, 1, 0, 0, .int (5)) := by decide +kernel
theorem i_85_61 : aIns 85 61 = some (.if_icmp .ge 26, 3, 0, 0, .null) := by decide +kernel
theorem i_85_64 : aIns 85 64 = some (.aload_n 0, 1, 0, 0, .null) := by decide +kernel
theorem i_85_65 : aIns 85 65 = some (.getfield 43, 3, 8, 5, .null) := by decide +kernel
theorem i_85_68 : aIns 85 68 = some (.bipush 10, 2, 0, 0, .int (10)) := by decide +kernel
theorem i_85_70 : aIns 85 70 = some (.imul, 1, 0, 0, .null) := by decide +kernel
theorem i_85_71 : aIns 85 71 = some (.aload_n 0, 1, 0, 0, .null) := by decide +kernel
theorem i_85_72 : aIns 85 72 = some (.getfield 9, 3, 8, 0, .null) := by decide +kernel
theorem i_85_75 : aIns 85 75 = some (.aload_n 0, 1, 0, 0, .null) := by decide +kernel
theorem i_85_76 : aIns 85 76 = some (.getfield 19, 3, 8, 2, .null) := by decide +kernel
theorem i_85_79 : aIns 85 79 = some (.baload, 1, 0, 0, .null) := by decide +kernel
theorem i_85_80 : aIns 85 80 = some (.iadd, 1, 0, 0, .null) := by decide +kernel
theorem i_85_81 : aIns 85 81 = some (.bipush 48, 2, 0, 0, .int (48)) := by decide +kernel
theorem i_85_83 : aIns 85 83 = some (.isub, 1, 0, 0, .null) := by decide +kernel
theorem i_85_84 : aIns 85 84 = some (.goto 5, 3, 0, 0, .null) := by decide +kernel
theorem i_85_87 : aIns 85 87 = some (.ldc 46, 2, 0, 0, .int (100000)) := by decide +kernel
theorem i_85_89 : aIns 85 89 = some (.putfield 43, 3, 8, 5, .null) := by decide +kernel
theorem i_85_92 : aIns 85 92 = some (.aload_n 0, 1, 0, 0, .null) := by decide +kernel
theorem i_85_93 : aIns 85 93 = some (.dup, 1, 0, 0, .null) := by decide +kernel
theorem i_85_94 : aIns 85 94 = some (.getfield 19, 3, 8, 2, .null) := by decide +kernel
theorem i_85_97 : aIns 85 97 = some (.iconst 1, 1, 0, 0, .int (1)) := by decide +kernel
theorem i_85_98 : aIns 85 98 = some (.iadd, 1, 0, 0, .null) := by decide +kernel
theorem i_85_99 : aIns 85 99 = some (.putfield 19, 3, 8, 2, .null) := by decide +kernel
theorem i_85_102 : aIns 85 102 = some (.goto (-91), 3, 0, 0, .null) := by decide +kernel
theorem i_85_105 : aIns 85 105 = some (.return_, 1, 0, 0, .null) := by decide +kernel
theorem i_86_0 : aIns 86 0 = some (.aload_n 0, 1, 0, 0, .null) := by decide +kernel
theorem i_86_1 : aIns 86 1 = some (.getfield 19, 3, 8, 2, .null) := by decide +kernel
theorem i_86_4 : aIns 86 4 = some (.aload_n 0, 1, 0, 0, .null) := by decide +kernel
theorem i_86_5 : aIns 86 5 = some (.getfield 15, 3, 8, 1, .null) := by decide +kernel
theorem i_86_8 : aIns 86 8 = some (.if_icmp .ge 44, 3, 0, 0, .null) := by decide +kernel
theorem i_86_11 : aIns 86 11 = some (.aload_n 0, 1, 0, 0, .null) := by decide +kernel
theorem i_86_12 : aIns 86 12 = some (.getfield 9, 3, 8, 0, .null) := by decide +kernel
theorem i_86_15 : aIns 86 15 = some (.aload_n 0, 1, 0, 0, .null) := by decide +kernel
theorem i_86_16 : aIns 86 16 = some (.getfield 19, 3, 8, 2, .null) := by decide +kernel
theorem i_86_19 : aIns 86 19 = some (.baload, 1, 0, 0, .null) := by decide +kernel
theorem i_86_20 : aIns 86 20 = some (.bipush 97, 2, 0, 0, .int (97)) := by decide +kernel
theorem i_86_22 : aIns 86 22 = some (.if_icmp .lt 30, 3, 0, 0, .null) := by decide +kernel
theorem i_86_25 : aIns 86 25 = some (.aload_n 0, 1, 0, 0, .null) := by decide +kernel
theorem i_86_26 : aIns 86 26 = some (.getfield 9, 3, 8, 0, .null) := by decide +kernel
theorem i_86_29 : aIns 86 29 = some (.aload_n 0, 1, 0, 0, .null) := by decide +kernel
theorem i_86_30 : aIns 86 30 = some (.getfield 19, 3, 8, 2, .null) := by decide +kernel
theorem i_86_33 : aIns 86 33 = some (.baload, 1, 0, 0, .null) := by decide +kernel
theorem i_86_34 : aIns 86 34 = some (.bipush 122, 2, 0, 0, .int (122)) := by decide +kernel
theorem i_86_36 : aIns 86 36 = some (.if_icmp .gt 16, 3, 0, 0, .null) := by decide +kernel
theorem i_86_39 : aIns 86 39 = some (.aload_n 0, 1, 0, 0, .null) := by decide +kernel
theorem i_86_40 : aIns 86 40 = some (.dup, 1, 0, 0, .null) := by decide +kernel
theorem i_86_41 : aIns 86 41 = some (.getfield 19, 3, 8, 2, .null) := by decide +kernel
theorem i_86_44 : aIns 86 44 = some (.iconst 1, 1, 0, 0, .int (1)) := by decide +kernel
theorem i_86_45 : aIns 86 45 = some (.iadd, 1, 0, 0, .null) := by decide +kernel
theorem i_86_46 : aIns 86 46 = some (.putfield 19, 3, 8, 2, .null) := by decide +kernel
theorem i_86_49 : aIns 86 49 = some (.goto (-49), 3, 0, 0, .null) := by decide +kernel
theorem i_86_52 : aIns 86 52 = some (.aload_n 0, 1, 0, 0, .null) := by decide +kernel
theorem i_86_53 : aIns 86 53 = some (.bipush 22, 2, 0, 0, .int (22)) := by decide +kernel
theorem i_86_55 : aIns 86 55 = some (.putfield 31, 3, 8, 3, .null) := by decide +kernel
theorem i_86_58 : aIns 86 58 = some (.aload_n 0, 1, 0, 0, .null) := by decide +kernel
theorem i_86_59 : aIns 86 59 = some (.getfield 19, 3, 8, 2, .null) := by decide +kernel
theorem i_86_62 : aIns 86 62 = some (.aload_n 0, 1, 0, 0, .null) := by decide +kernel
theorem i_86_63 : aIns 86 63 = some (.getfield 28, 3, 8, 4, .null) := by decide +kernel
theorem i_86_66 : aIns 86 66 = some (.isub, 1, 0, 0, .null) := by decide +kernel
theorem i_86_67 : aIns 86 67 = some (.istore_n 1, 1, 0, 0, .null) := by decide +kernel
theorem i_86_68 : aIns 86 68 = some (.iconst 0, 1, 0, 0, .int (0)) := by decide +kernel
theorem i_86_69 : aIns 86 69 = some (.istore_n 2, 1, 0, 0, .null) := by decide +kernel
theorem i_86_70 : aIns 86 70 = some (.iload_n 2, 1, 0, 0, .null) := by decide +kernel
theorem i_86_71 : aIns 86 71 = some (.bipush 20, 2, 0, 0, .int (20)) := by decide +kernel
theorem i_86_73 : aIns 86 73 = some (.if_icmp .ge 84, 3, 0, 0, .null) := by decide +kernel
theorem i_86_76 : aIns 86 76 = some (.iload_n 1, 1, 0, 0, .null) := by decide +kernel
theorem i_86_77 : aIns 86 77 = some (.bipush 8, 2, 0, 0, .int (8)) := by decide +kernel
theorem i_86_79 : aIns 86 79 = some (.if_icmp .ge 78, 3, 0, 0, .null) := by decide +kernel
theorem i_86_82 : aIns 86 82 = some (.iload_n 2, 1, 0, 0, .null) := by decide +kernel
theorem i_86_83 : aIns 86 83 = some (.bipush 8, 2, 0, 0, .int (8)) := by decide +kernel
theorem i_86_85 : aIns 86 85 = some (.imul, 1, 0, 0, .null) := by decide +kernel
theorem i_86_86 : aIns 86 86 = some (.istore_n 3, 1, 0, 0, .null) := by decide +kernel
theorem i_86_87 : aIns 86 87 = some (.iconst 0, 1, 0, 0, .int (0)) := by decide +kernel
theorem i_86_88 : aIns 86 88 = some (.istore 4, 2, 0, 0, .null) := by decide +kernel
theorem i_86_90 : aIns 86 90 = some (.iload 4, 2, 0, 0, .null) := by decide +kernel
theorem i_86_92 : aIns 86 92 = some (.iload_n 1, 1, 0, 0, .null) := by decide +kernel
theorem i_86_93 : aIns 86 93 = some (.if_icmp .ge 33, 3, 0, 0, .null) := by decide +kernel
theorem i_86_96 : aIns 86 96 = some (.ldc 47, 2, 0, 0, .float 0) := by decide +kernel
theorem i_86_98 : aIns 86 98 = some (.iload_n 3, 1, 0, 0, .null) := by decide +kernel
theorem i_86_99 : aIns 86 99 = some (.iload 4, 2, 0, 0, .null) := by decide +kernel
theorem i_86_101 : aIns 86 101 = some (.iadd, 1, 0, 0, .null) := by decide +kernel
theorem i_86_102 : aIns 86 102 = some (.invokevirtual 49, 3, 1000, 0, .null) := by decide +kernel
theorem i_86_105 : aIns 86 105 = some (.aload_n 0, 1, 0, 0, .null) := by decide +kernel
theorem i_86_106 : aIns 86 106 = some (.getfield 9, 3, 8, 0, .null) := by decide +kernel
theorem i_86_109 : aIns 86 109 = some (.aload_n 0, 1, 0, 0, .null) := by decide +kernel
theorem i_86_110 : aIns 86 110 = some (.getfield 28, 3, 8, 4, .null) := by decide +kernel
theorem i_86_113 : aIns 86 113 = some (.iload 4, 2, 0, 0, .null) := by decide +kernel
theorem i_86_115 : aIns 86 115 = some (.iadd, 1, 0, 0, .null) := by decide +kernel
theorem i_86_116 : aIns 86 116 = some (.baload, 1, 0, 0, .null) := by decide +kernel
theorem i_86_117 : aIns 86 117 = some (.if_icmp .ne 9, 3, 0, 0, .null) := by decide +kernel
theorem i_86_120 : aIns 86 120 = some (.iinc 4 1, 3, 0, 0, .null) := by decide +kernel
theorem i_86_123 : aIns 86 123 = some (.goto (-33), 3, 0, 0, .null) := by decide +kernel
theorem i_86_126 : aIns 86 126 = some (.iload 4, 2, 0, 0, .null) := by decide +kernel
theorem i_86_128 : aIns 86 128 = some (.iload_n 1, 1, 0, 0, .null) := by decide +kernel
theorem i_86_129 : aIns 86 129 = some (.if_icmp .ne 22, 3, 0, 0, .null) := by decide +kernel
theorem i_86_132 : aIns 86 132 = some (.ldc 47, 2, 0, 0, .float 0) := by decide +kernel
theorem i_86_134 : aIns 86 134 = some (.iload_n 3, 1, 0, 0, .null) := by decide +kernel
theorem i_86_135 : aIns 86 135 = some (.iload 4, 2, 0, 0, .null) := by decide +kernel
theorem i_86_137 : aIns 86 137 = some (.iadd, 1, 0, 0, .null) := by decide +kernel
theorem i_86_138 : aIns 86 138 = some (.invokevirtual 49, 3, 1000, 0, .null) := by decide +kernel
theorem i_86_141 : aIns 86 141 = some (.bipush 32, 2, 0, 0, .int (32)) := by decide +kernel
theorem i_86_143 : aIns 86 143 = some (.if_icmp .ne 8, 3, 0, 0, .null) := by decide +kernel
theorem i_86_146 : aIns 86 146 = some (.aload_n 0, 1, 0, 0, .null) := by decide +kernel
theorem i_86_147 : aIns 86 147 = some (.iload_n 2, 1, 0, 0, .null) := by decide +kernel
theorem i_86_148 : aIns 86 148 = some (.putfield 31, 3, 8, 3, .null) := by decide +kernel
theorem i_86_151 : aIns 86 151 = some (.iinc 2 1, 3, 0, 0, .null) := by decide +kernel
theorem i_86_154 : aIns 86 154 = some (.goto (-84), 3, 0, 0, .null) := by decide +kernel
theorem i_86_157 : aIns 86 157 = some (.return_, 1, 0, 0, .null) := by decide +kernel
theorem i_87_0 : aIns 87 0 = some (.aload_n 0, 1, 0, 0, .null) := by decide +kernel
theorem i_87_1 : aIns 87 1 = some (.getfield 19, 3, 8, 2, .null) := by decide +kernel
theorem i_87_4 : aIns 87 4 = some (.iconst 1, 1, 0, 0, .int (1)) := by decide +kernel
theorem i_87_5 : aIns 87 5 = some (.iadd, 1, 0, 0, .null) := by decide +kernel
theorem i_87_6 : aIns 87 6 = some (.aload_n 0, 1, 0, 0, .null) := by decide +kernel
theorem i_87_7 : aIns 87 7 = some (.getfield 15, 3, 8, 1, .null) := by decide +kernel
theorem i_87_10 : aIns 87 10 = some (.if_icmp .ge 23, 3, 0, 0, .null) := by decide +kernel
theorem i_87_13 : aIns 87 13 = some (.aload_n 0, 1, 0, 0, .null) := by decide +kernel
theorem i_87_14 : aIns 87 14 = some (.getfield 9, 3, 8, 0, .null) := by decide +kernel
theorem i_87_17 : aIns 87 17 = some (.aload_n 0, 1, 0, 0, .null) := by decide +kernel
theorem i_87_18 : aIns 87 18 = some (.getfield 19, 3, 8, 2, .null) := by decide +kernel
theorem i_87_21 : aIns 87 21 = some (.iconst 1, 1, 0, 0, .int (1)) := by decide +kernel
theorem i_87_22 : aIns 87 22 = some (.iadd, 1, 0, 0, .null) := by decide +kernel
theorem i_87_23 : aIns 87 23 = some (.baload, 1, 0, 0, .null) := by decide +kernel
theorem i_87_24 : aIns 87 24 = some (.bipush 61, 2, 0, 0, .int (61)) := by decide +kernel
theorem i_87_26 : aIns 87 26 = some (.if_icmp .ne 7, 3, 0, 0, .null) := by decide +kernel
theorem i_87_29 : aIns 87 29 = some (.iconst 1, 1, 0, 0, .int (1)) := by decide +kernel
theorem i_87_30 : aIns 87 30 = some (.goto 4, 3, 0, 0, .null) := by decide +kernel
theorem i_87_33 : aIns 87 33 = some (.iconst 0, 1, 0, 0, .int (0)) := by decide +kernel
theorem i_87_34 : aIns 87 34 = some (.istore_n 1, 1, 0, 0, .null) := by decide +kernel
theorem i_87_35 : aIns 87 35 = some (.aload_n 0, 1, 0, 0, .null) := by decide +kernel
theorem i_87_36 : aIns 87 36 = some (.getfield 9, 3, 8, 0, .null) := by decide +kernel
theorem i_87_39 : aIns 87 39 = some (.aload_n 0, 1, 0, 0, .null) := by decide +kernel
theorem i_87_40 : aIns 87 40 = some (.getfield 19, 3, 8, 2, .null) := by decide +kernel
theorem i_87_43 : aIns 87 43 = some (.baload, 1, 0, 0, .null) := by decide +kernel
theorem i_87_44 : aIns 87 44 = some (.lookupswitch 217 #[(37, 163), (42, 145), (43, 127), (45, 136), (47, 154), (59, 100), (60, 172), (61, 190), (62, 199), (91, 109), (93, 118)], 100, 0, 0, .null) := by decide +kernel
theorem i_87_144 : aIns 87 144 = some (.aload_n 0, 1, 0, 0, .null) := by decide +kernel
theorem i_87_145 : aIns 87 145 = some (.bipush 23, 2, 0, 0, .int (23)) := by decide +kernel
theorem i_87_147 : aIns 87 147 = some (.putfield 31, 3, 8, 3, .null) := by decide +kernel
theorem i_87_150 : aIns 87 150 = some (.goto 117, 3, 0, 0, .null) := by decide +kernel
theorem i_87_153 : aIns 87 153 = some (.aload_n 0, 1, 0, 0, .null) := by decide +kernel
theorem i_87_154 : aIns 87 154 = some (.bipush 24, 2, 0, 0, .int (24)) := by decide +kernel
theorem i_87_156 : aIns 87 156 = some (.putfield 31, 3, 8, 3, .null) := by decide +kernel
theorem i_87_159 : aIns 87 159 = some (.goto 108, 3, 0, 0, .null) := by decide +kernel
theorem i_87_162 : aIns 87 162 = some (.aload_n 0, 1, 0, 0, .null) := by decide +kernel
theorem i_87_163 : aIns 87 163 = some (.bipush 25, 2, 0, 0, .int (25)) := by decide +kernel
theorem i_87_165 : aIns 87 165 = some (.putfield 31, 3, 8, 3, .null) := by decide +kernel
theorem i_87_168 : aIns 87 168 = some (.goto 99, 3, 0, 0, .null) := by decide +kernel
theorem i_87_171 : aIns 87 171 = some (.aload_n 0, 1, 0, 0, .null) := by decide +kernel
theorem i_87_172 : aIns 87 172 = some (.bipush 26, 2, 0, 0, .int (26)) := by decide +kernel
theorem i_87_174 : aIns 87 174 = some (.putfield 31, 3, 8, 3, .null) := by decide +kernel
theorem i_87_177 : aIns 87 177 = some (.goto 90, 3, 0, 0, .null) := by decide +kernel
theorem i_87_180 : aIns 87 180 = some (.aload_n 0, 1, 0, 0, .null) := by decide +kernel
theorem i_87_181 : aIns 87 181 = some (.bipush 27, 2, 0, 0, .int (27)) := by decide +kernel
theorem i_87_183 : aIns 87 183 = some (.putfield 31, 3, 8, 3, .null) := by decide +kernel
theorem i_87_186 : aIns 87 186 = some (.goto 81, 3, 0, 0, .null) := by decide +kernel
theorem i_87_189 : aIns 87 189 = some (.aload_n 0, 1, 0, 0, .null) := by decide +kernel
theorem i_87_190 : aIns 87 190 = some (.bipush 28, 2, 0, 0, .int (28)) := by decide +kernel
theorem i_87_192 : aIns 87 192 = some (.putfield 31, 3, 8, 3, .null) := by decide +kernel
theorem i_87_195 : aIns 87 195 = some (.goto 72, 3, 0, 0, .null) := by decide +kernel
theorem i_87_198 : aIns 87 198 = some (.aload_n 0, 1, 0, 0, .null) := by decide +kernel
theorem i_87_199 : aIns 87 199 = some (.bipush 29, 2, 0, 0, .int (29)) := by decide +kernel
theorem i_87_201 : aIns 87 201 = some (.putfield 31, 3, 8, 3, .null) := by decide +kernel
theorem i_87_204 : aIns 87 204 = some (.goto 63, 3, 0, 0, .null) := by decide +kernel
theorem i_87_207 : aIns 87 207 = some (.aload_n 0, 1, 0, 0, .null) := by decide +kernel
theorem i_87_208 : aIns 87 208 = some (.bipush 30, 2, 0, 0, .int (30)) := by decide +kernel
theorem i_87_210 : aIns 87 210 = some (.putfield 31, 3, 8, 3, .null) := by decide +kernel
theorem i_87_213 : aIns 87 213 = some (.goto 54, 3, 0, 0, .null) := by decide +kernel
theorem i_87_216 : aIns 87 216 = some (.aload_n 0, 1, 0, 0, .null) := by decide +kernel
theorem i_87_217 : aIns 87 217 = some (.iload_n 1, 1, 0, 0, .null) := by decide +kernel
theorem i_87_218 : aIns 87 218 = some (.ifCond .eq 8, 3, 0, 0, .null) := by decide +kernel
theorem i_87_221 : aIns 87 221 = some (.bipush 32, 2, 0, 0, .int (32)) := by decide +kernel
theorem i_87_223 : aIns 87 223 = some (.goto 5, 3, 0, 0, .null) := by decide +kernel
theorem i_87_226 : aIns 87 226 = some (.bipush 31, 2, 0, 0, .int (31)) := by decide +kernel
theorem i_87_228 : aIns 87 228 = some (.putfield 31, 3, 8, 3, .null) := by decide +kernel
theorem i_87_231 : aIns 87 231 = some (.goto 36, 3, 0, 0, .null) := by decide +kernel
theorem i_87_234 : aIns 87 234 = some (.aload_n 0, 1, 0, 0, .null) := by decide +kernel
theorem i_87_235 : aIns 87 235 = some (.bipush 33, 2, 0, 0, .int (33)) := by decide +kernel
theorem i_87_237 : aIns 87 237 = some (.putfield 31, 3, 8, 3, .null) := by decide +kernel
theorem i_87_240 : aIns 87 240 = some (.goto 27, 3, 0, 0, .null) := by decide +kernel
theorem i_87_243 : aIns 87 243 = some (.aload_n 0, 1, 0, 0, .null) := by decide +kernel
theorem i_87_244 : aIns 87 244 = some (.iload_n 1, 1, 0, 0, .null) := by decide +kernel
theorem i_87_245 : aIns 87 245 = some (.ifCond .eq 8, 3, 0, 0, .null) := by decide +kernel
theorem i_87_248 : aIns 87 248 = some (.bipush 34, 2, 0, 0, .int (34)) := by decide +kernel
theorem i_87_250 : aIns 87 250 = some (.goto 5, 3, 0, 0, .null) := by decide +kernel
theorem i_87_253 : aIns 87 253 = some (.bipush 35, 2, 0, 0, .int (35)) := by decide +kernel
theorem i_87_255 : aIns 87 255 = some (.putfield 31, 3, 8, 3, .null) := by decide +kernel
theorem i_87_258 : aIns 87 258 = some (.goto 9, 3, 0, 0, .null) := by decide +kernel
theorem i_87_261 : aIns 87 261 = some (.aload_n 0, 1, 0, 0, .null) := by decide +kernel
theorem i_87_262 : aIns 87 262 = some (.bipush 22, 2, 0, 0, .int (22)) := by decide +kernel
theorem i_87_264 : aIns 87 264 = some (.putfield 31, 3, 8, 3, .null) := by decide +kernel
theorem i_87_267 : aIns 87 267 = some (.aload_n 0, 1, 0, 0, .null) := by decide +kernel
theorem i_87_268 : aIns 87 268 = some (.dup, 1, 0, 0, .null) := by decide +kernel
theorem i_87_269 : aIns 87 269 = some (.getfield 19, 3, 8, 2, .null) := by decide +kernel
theorem i_87_272 : aIns 87 272 = some (.aload_n 0, 1, 0, 0, .null) := by decide +kernel
theorem i_87_273 : aIns 87 273 = some (.getfield 31, 3, 8, 3, .null) := by decide +kernel
theorem i_87_276 : aIns 87 276 = some (.bipush 32, 2, 0, 0, .int (32)) := by decide +kernel
theorem i_87_278 : aIns 87 278 = some (.if_icmp .eq 12, 3, 0, 0, .null) := by decide +kernel
theorem i_87_281 : aIns 87 281 = some (.aload_n 0, 1, 0, 0, .null) := by decide +kernel
theorem i_87_282 : aIns 87 282 = some (.getfield 31, 3, 8, 3, .null) := by decide +kernel
theorem i_87_285 : aIns 87 285 = some (.bipush 34, 2, 0, 0, .int (34)) := by decide +kernel
theorem i_87_287 : aIns 87 287 = some (.if_icmp .ne 7, 3, 0, 0, .null) := by decide +kernel
theorem i_87_290 : aIns 87 290 = some (.iconst 2, 1, 0, 0, .int (2)) := by decide +kernel
theorem i_87_291 : aIns 87 291 = some (.goto 4, 3, 0, 0, .null) := by decide +kernel
theorem i_87_294 : aIns 87 294 = some (.iconst 1, 1, 0, 0, .int (1)) := by decide +kernel
theorem i_87_295 : aIns 87 295 = some (.iadd, 1, 0, 0, .null) := by decide +kernel
theorem i_87_296 : aIns 87 296 = some (.putfield 19, 3, 8, 2, .null) := by decide +kernel
theorem i_87_299 : aIns 87 299 = some (.return_, 1, 0, 0, .null) := by decide +kernel
set_option maxHeartbeats 4000000 in
set_option maxRecDepth 100000 in
theorem j_38_53_ok {X : aX} {S : rS} {g : Nat} {x1 : Int32} {m : cM} {zz : cM} {d : Nat} (hdp : 5 ≤ d) (hd : j_38_53 g x1 m = some zz) : aWp X d 38 53 [some (.ref 71), some (.int x1)] [] (hr m S) (fun w h' => w = none ∧ h' = hr zz S) := by
  unfold j_38_53 at hd
  obtain ⟨e, rfl⟩ : ∃ e, d = e + 1 := ⟨d - 1, by omega⟩
  refine wp_s 54 [some (.ref 71), some (.int x1)] [.ref 71] _ i_38_53 rfl ?_
  refine hm_get (w := .ref 81) 57 rfl i_38_54 (cb rfl) kk_71 rfl ?_
  refine wp_s 60 [some (.ref 71), some (.int x1)] [.int (999 : Int32), .ref 81] _ i_38_57 rfl ?_
  refine wp_s 61 [some (.ref 71), some (.int x1)] [.ref 71, .int (999 : Int32), .ref 81] _ i_38_60 rfl ?_
  refine hm_get (w := .ref 81) 64 rfl i_38_61 (cb rfl) kk_71 rfl ?_
  refine hm_get (w := .int (m.1 81 13)) 67 rfl i_38_64 (cb rfl) kk_81 rfl ?_
  refine wp_s 68 [some (.ref 71), some (.int x1)] [.int (1 : Int32), .int (m.1 81 13), .int (999 : Int32), .ref 81] _ i_38_67 rfl ?_
  refine wp_s 69 [some (.ref 71), some (.int x1)] [.int ((m.1 81 13) + (1 : Int32)), .int (999 : Int32), .ref 81] _ i_38_68 rfl ?_
  refine hp_min 72 rfl i_38_69 rfl ?_
  obtain ⟨mm_1, q_2, hd⟩ := dk_bind hd
  refine hm_put 75 rfl i_38_72 (cb rfl) kk_81 (fun _ _ => rfl) (fun _ _ => Nat.le_of_ble_eq_true rfl) rfl ?_
  rw [Option.some.inj q_2]
  obtain rfl := Option.some.inj hd
  exact wp_ret i_38_75 rfl ⟨rfl, rfl⟩
set_option maxHeartbeats 4000000 in
set_option maxRecDepth 100000 in
theorem d_38_ok {X : aX} {S : rS} {g : Nat} {x1 : Int32} {m : cM} {zz : cM} {d : Nat} (hdp : 5 ≤ d) (hd : d_38 g x1 m = some zz) : aWp X d 38 0 (aEntL [.ref 71, .int x1] 2) [] (hr m S) (fun w h' => w = none ∧ h' = hr zz S) := by
  unfold d_38 at hd
  refine wp_lv (l2 := [some (.ref 71), some (.int x1)]) rfl ?_
  obtain ⟨e, rfl⟩ : ∃ e, d = e + 1 := ⟨d - 1, by omega⟩
  refine wp_s 1 [some (.ref 71), some (.int x1)] [.int x1] _ i_38_0 rfl ?_
  refine wp_s 2 [some (.ref 71), some (.int x1)] [.ref 71, .int x1] _ i_38_1 rfl ?_
  refine hm_get (w := .ref 5) 5 rfl i_38_2 (cb rfl) kk_71 rfl ?_
  obtain ⟨k_1, hd⟩ := dk_if hd
  refine hm_dyn 8 rfl i_38_5 (cb rfl) kk_5 (fun _ _ => rfl) (kd_ne0 (cO_iff k_1).2 (by decide)) ?_
  refine hm_get (w := .int (m.1 (m.2.2.1 5) 4)) 11 rfl i_38_8 (cO_iff k_1).1 (cO_iff k_1).2 rfl ?_
  refine wp_cmp_lt 21 14 rfl rfl i_38_11 (fun c_2 => ?_) (fun c_2 => ?_)
  · rw [if_pos c_2] at hd
    refine wp_s 22 [some (.ref 71), some (.int x1)] [.ref 71] _ i_38_21 rfl ?_
    refine hm_get (w := .ref 81) 25 rfl i_38_22 (cb rfl) kk_71 rfl ?_
    refine wp_s 26 [some (.ref 71), some (.int x1)] [.int x1, .ref 81] _ i_38_25 rfl ?_
    obtain ⟨z_3, q_4, hd⟩ := dk_bind hd
    refine wp_callV 29 rfl i_38_26 (by decide) rfl (vs := [.int x1]) (rest := []) rfl rfl rfl (hm_isO (cb rfl) kk_81) (y := m_75) rfl (Nat.le_of_ble_eq_true rfl) (d_75_ok (S := S) (d := e) (by omega) q_4) ?_
    rintro v_5 h_6 ⟨rfl, rfl⟩
    refine wp_s 30 [some (.ref 71), some (.int x1)] [.ref 71] _ i_38_29 rfl ?_
    refine hm_get (w := .ref 81) 33 rfl i_38_30 (cb rfl) kk_71 rfl ?_
    refine wp_s 34 [some (.ref 71), some (.int x1)] [.int x1, .ref 81] _ i_38_33 rfl ?_
    obtain ⟨z_7, q_8, hd⟩ := dk_bind hd
    refine wp_callV 37 rfl i_38_34 (by decide) rfl (vs := [.int x1]) (rest := []) rfl rfl rfl (hm_isO (cb rfl) kk_81) (y := m_74) rfl (Nat.le_of_ble_eq_true rfl) (d_74_ok (S := S) (d := e) (by omega) q_8) ?_
    rintro v_9 h_10 ⟨rfl, rfl⟩
    refine wp_if_eq 53 40 rfl rfl i_38_37 (fun c_11 => ?_) (fun c_11 => ?_)
    · rw [if_pos c_11] at hd
      exact aWp.forget (j_38_53_ok hdp hd) (lvS (lvS lvE))
    · rw [if_neg c_11] at hd
      refine wp_s 41 [some (.ref 71), some (.int x1)] [.ref 71] _ i_38_40 rfl ?_
      refine hm_get (w := .ref 81) 44 rfl i_38_41 (cb rfl) kk_71 rfl ?_
      refine hm_get (w := .ref 82) 47 rfl i_38_44 (cb rfl) kk_81 rfl ?_
      refine wp_s 48 [some (.ref 71), some (.int x1)] [.int x1, .ref 82] _ i_38_47 rfl ?_
      refine wp_s 49 [some (.ref 71), some (.int x1)] [.int x1, .ref 82, .int x1, .ref 82] _ i_38_48 rfl ?_
      obtain ⟨k_12, hd⟩ := dk_if hd
      refine hm_iald 50 rfl i_38_49 (cb rfl) kk_82 k_12 ?_
      refine wp_s 51 [some (.ref 71), some (.int x1)] [.int (1 : Int32), .int (z_3.1 82 x1.toNatClampNeg), .int x1, .ref 82] _ i_38_50 rfl ?_
      refine wp_s 52 [some (.ref 71), some (.int x1)] [.int ((z_3.1 82 x1.toNatClampNeg) + (1 : Int32)), .int x1, .ref 82] _ i_38_51 rfl ?_
      obtain ⟨k_13, hd⟩ := dk_if hd
      obtain ⟨mm_14, q_15, hd⟩ := dk_bind hd
      refine hm_iast 53 rfl i_38_52 (cb rfl) kk_82 k_13 ?_
      rw [Option.some.inj q_15]
      exact aWp.forget (j_38_53_ok hdp hd) (lvS (lvS lvE))
  · rw [if_neg c_2] at hd
    refine wp_s 15 [some (.ref 71), some (.int x1)] [.ref 71] _ i_38_14 rfl ?_
    obtain ⟨z_16, q_17, hd⟩ := dk_bind hd
    refine wp_callV 18 rfl i_38_15 (by decide) rfl (vs := []) (rest := []) rfl rfl rfl (hm_isO (cb rfl) kk_71) (y := m_39) rfl (Nat.le_of_ble_eq_true rfl) (d_39_ok (S := S) (d := e) (by omega) q_17) ?_
    rintro v_18 h_19 ⟨rfl, rfl⟩
    refine wp_s 53 [some (.ref 71), some (.int x1)] [] _ i_38_18 rfl ?_
    exact aWp.forget (j_38_53_ok hdp hd) (lvS (lvS lvE))
set_option maxHeartbeats 4000000 in
set_option maxRecDepth 100000 in
theorem l_37_ok {X : aX} {S : rS} {g : Nat} {d : Nat} (hdp : 6 ≤ d) : ∀ n, (∀ (x1 : Int32) (x2 : Int32) (x3 : Int32) (w4 : Int64) (x6 : Int32) (x7 : Int32) (m : cM) (zz : cM), l_37 g n 0 x1 x2 x3 w4 x6 x7 m = some zz → aWp X d 37 40 [some (.ref 71), some (.int x1), some (.int x2), some (.int x3), some (.long w4), none, some (.int x6), none] [] (hr m S) (fun w h' => w = none ∧ h' = hr zz S)) ∧ (∀ (x1 : Int32) (x2 : Int32) (x3 : Int32) (w4 : Int64) (x6 : Int32) (x7 : Int32) (m : cM) (zz : cM), l_37 g n 1 x1 x2 x3 w4 x6 x7 m = some zz → aWp X d 37 63 [some (.ref 71), some (.int x1), some (.int x2), some (.int x3), some (.long w4), none, some (.int x6), some (.int x7)] [] (hr m S) (fun w h' => w = none ∧ h' = hr zz S)) := by
  intro n
  induction n with
  | zero => exact ⟨fun _ _ _ _ _ _ _ _ hd => by simp [l_37] at hd, fun _ _ _ _ _ _ _ _ hd => by simp [l_37] at hd⟩
  | succ n ih =>
    refine ⟨?_, ?_⟩
    · intro x1 x2 x3 w4 x6 x7 m zz hd
      unfold l_37 at hd
      rw [if_pos rfl] at hd
      obtain ⟨e, rfl⟩ : ∃ e, d = e + 1 := ⟨d - 1, by omega⟩
      refine wp_s 42 [some (.ref 71), some (.int x1), some (.int x2), some (.int x3), some (.long w4), none, some (.int x6), none] [.int x6] _ i_37_40 rfl ?_
      refine wp_s 43 [some (.ref 71), some (.int x1), some (.int x2), some (.int x3), some (.long w4), none, some (.int x6), none] [.int x1, .int x6] _ i_37_42 rfl ?_
      refine wp_cmp_ge 113 46 rfl rfl i_37_43 (fun c_1 => ?_) (fun c_1 => ?_)
      · rw [if_pos c_1] at hd
        obtain rfl := Option.some.inj hd
        exact wp_ret i_37_113 rfl ⟨rfl, rfl⟩
      · rw [if_neg c_1] at hd
        refine wp_s 47 [some (.ref 71), some (.int x1), some (.int x2), some (.int x3), some (.long w4), none, some (.int x6), none] [.ref 71] _ i_37_46 rfl ?_
        refine hm_get (w := .ref 81) 50 rfl i_37_47 (cb rfl) kk_71 rfl ?_
        refine wp_s 51 [some (.ref 71), some (.int x1), some (.int x2), some (.int x3), some (.long w4), none, some (.int x6), none] [.ref 71, .ref 81] _ i_37_50 rfl ?_
        refine hm_get (w := .ref 5) 54 rfl i_37_51 (cb rfl) kk_71 rfl ?_
        refine hm_get (w := .ref 19) 57 rfl i_37_54 (cb rfl) kk_5 rfl ?_
        obtain ⟨z_2, q_3, hd⟩ := dk_bind hd
        refine wp_callV 60 rfl i_37_57 (by decide) rfl (vs := [.ref 19]) (rest := []) rfl rfl rfl (hm_isO (cb rfl) kk_81) (y := m_72) rfl (Nat.le_of_ble_eq_true rfl) (d_72_ok (S := S) (d := e) (by omega) q_3) ?_
        rintro v_4 h_5 ⟨rfl, rfl⟩
        refine wp_s 61 [some (.ref 71), some (.int x1), some (.int x2), some (.int x3), some (.long w4), none, some (.int x6), none] [.int (0 : Int32)] _ i_37_60 rfl ?_
        refine wp_s 63 [some (.ref 71), some (.int x1), some (.int x2), some (.int x3), some (.long w4), none, some (.int x6), some (.int (0 : Int32))] [] _ i_37_61 rfl ?_
        exact aWp.forget (ih.2 _ _ _ _ _ _ _ _ hd) (lvS (lvS (lvS (lvS (lvS (lvN (lvS (lvS lvE))))))))
    · intro x1 x2 x3 w4 x6 x7 m zz hd
      unfold l_37 at hd
      rw [if_neg (by decide), if_pos rfl] at hd
      obtain ⟨e, rfl⟩ : ∃ e, d = e + 1 := ⟨d - 1, by omega⟩
      refine wp_s 65 [some (.ref 71), some (.int x1), some (.int x2), some (.int x3), some (.long w4), none, some (.int x6), some (.int x7)] [.int x7] _ i_37_63 rfl ?_
      refine wp_s 66 [some (.ref 71), some (.int x1), some (.int x2), some (.int x3), some (.long w4), none, some (.int x6), some (.int x7)] [.int x2, .int x7] _ i_37_65 rfl ?_
      refine wp_cmp_ge 107 69 rfl rfl i_37_66 (fun c_6 => ?_) (fun c_6 => ?_)
      · rw [if_pos c_6] at hd
        refine wp_s 110 [some (.ref 71), some (.int x1), some (.int x2), some (.int x3), some (.long w4), none, some (.int (x6 + (1 : Int32))), some (.int x7)] [] _ i_37_107 rfl ?_
        refine wp_s 40 [some (.ref 71), some (.int x1), some (.int x2), some (.int x3), some (.long w4), none, some (.int (x6 + (1 : Int32))), some (.int x7)] [] _ i_37_110 rfl ?_
        exact aWp.forget (ih.1 _ _ _ _ _ _ _ _ hd) (lvS (lvS (lvS (lvS (lvS (lvN (lvS (lvN lvE))))))))
      · rw [if_neg c_6] at hd
        refine wp_s 71 [some (.ref 71), some (.int x1), some (.int x2), some (.int x3), some (.long w4), none, some (.int x6), some (.int x7)] [.long w4] _ i_37_69 rfl ?_
        refine wp_s 74 [some (.ref 71), some (.int x1), some (.int x2), some (.int x3), some (.long w4), none, some (.int x6), some (.int x7)] [.long (1103515245 : Int64), .long w4] _ i_37_71 rfl ?_
        refine wp_s 75 [some (.ref 71), some (.int x1), some (.int x2), some (.int x3), some (.long w4), none, some (.int x6), some (.int x7)] [.long (w4 * (1103515245 : Int64))] _ i_37_74 rfl ?_
        refine wp_s 78 [some (.ref 71), some (.int x1), some (.int x2), some (.int x3), some (.long w4), none, some (.int x6), some (.int x7)] [.long (12345 : Int64), .long (w4 * (1103515245 : Int64))] _ i_37_75 rfl ?_
        refine wp_s 79 [some (.ref 71), some (.int x1), some (.int x2), some (.int x3), some (.long w4), none, some (.int x6), some (.int x7)] [.long ((w4 * (1103515245 : Int64)) + (12345 : Int64))] _ i_37_78 rfl ?_
        refine wp_s 82 [some (.ref 71), some (.int x1), some (.int x2), some (.int x3), some (.long w4), none, some (.int x6), some (.int x7)] [.long (2147483648 : Int64), .long ((w4 * (1103515245 : Int64)) + (12345 : Int64))] _ i_37_79 rfl ?_
        refine wp_lrem 83 rfl i_37_82 (by decide) ?_
        refine wp_s 85 [some (.ref 71), some (.int x1), some (.int x2), some (.int x3), some (.long (((w4 * (1103515245 : Int64)) + (12345 : Int64)) - ((w4 * (1103515245 : Int64)) + (12345 : Int64)) / (2147483648 : Int64) * (2147483648 : Int64))), none, some (.int x6), some (.int x7)] [] _ i_37_83 rfl ?_
        refine wp_s 86 [some (.ref 71), some (.int x1), some (.int x2), some (.int x3), some (.long (((w4 * (1103515245 : Int64)) + (12345 : Int64)) - ((w4 * (1103515245 : Int64)) + (12345 : Int64)) / (2147483648 : Int64) * (2147483648 : Int64))), none, some (.int x6), some (.int x7)] [.ref 71] _ i_37_85 rfl ?_
        refine wp_s 88 [some (.ref 71), some (.int x1), some (.int x2), some (.int x3), some (.long (((w4 * (1103515245 : Int64)) + (12345 : Int64)) - ((w4 * (1103515245 : Int64)) + (12345 : Int64)) / (2147483648 : Int64) * (2147483648 : Int64))), none, some (.int x6), some (.int x7)] [.long (((w4 * (1103515245 : Int64)) + (12345 : Int64)) - ((w4 * (1103515245 : Int64)) + (12345 : Int64)) / (2147483648 : Int64) * (2147483648 : Int64)), .ref 71] _ i_37_86 rfl ?_
        refine wp_s 91 [some (.ref 71), some (.int x1), some (.int x2), some (.int x3), some (.long (((w4 * (1103515245 : Int64)) + (12345 : Int64)) - ((w4 * (1103515245 : Int64)) + (12345 : Int64)) / (2147483648 : Int64) * (2147483648 : Int64))), none, some (.int x6), some (.int x7)] [.long (65536 : Int64), .long (((w4 * (1103515245 : Int64)) + (12345 : Int64)) - ((w4 * (1103515245 : Int64)) + (12345 : Int64)) / (2147483648 : Int64) * (2147483648 : Int64)), .ref 71] _ i_37_88 rfl ?_
        refine wp_ldiv 92 rfl i_37_91 (by decide) ?_
        refine wp_s 93 [some (.ref 71), some (.int x1), some (.int x2), some (.int x3), some (.long (((w4 * (1103515245 : Int64)) + (12345 : Int64)) - ((w4 * (1103515245 : Int64)) + (12345 : Int64)) / (2147483648 : Int64) * (2147483648 : Int64))), none, some (.int x6), some (.int x7)] [.int x3, .long ((((w4 * (1103515245 : Int64)) + (12345 : Int64)) - ((w4 * (1103515245 : Int64)) + (12345 : Int64)) / (2147483648 : Int64) * (2147483648 : Int64)) / (65536 : Int64)), .ref 71] _ i_37_92 rfl ?_
        refine wp_s 94 [some (.ref 71), some (.int x1), some (.int x2), some (.int x3), some (.long (((w4 * (1103515245 : Int64)) + (12345 : Int64)) - ((w4 * (1103515245 : Int64)) + (12345 : Int64)) / (2147483648 : Int64) * (2147483648 : Int64))), none, some (.int x6), some (.int x7)] [.int (1 : Int32), .int x3, .long ((((w4 * (1103515245 : Int64)) + (12345 : Int64)) - ((w4 * (1103515245 : Int64)) + (12345 : Int64)) / (2147483648 : Int64) * (2147483648 : Int64)) / (65536 : Int64)), .ref 71] _ i_37_93 rfl ?_
        refine wp_s 95 [some (.ref 71), some (.int x1), some (.int x2), some (.int x3), some (.long (((w4 * (1103515245 : Int64)) + (12345 : Int64)) - ((w4 * (1103515245 : Int64)) + (12345 : Int64)) / (2147483648 : Int64) * (2147483648 : Int64))), none, some (.int x6), some (.int x7)] [.int (x3 + (1 : Int32)), .long ((((w4 * (1103515245 : Int64)) + (12345 : Int64)) - ((w4 * (1103515245 : Int64)) + (12345 : Int64)) / (2147483648 : Int64) * (2147483648 : Int64)) / (65536 : Int64)), .ref 71] _ i_37_94 rfl ?_
        refine wp_s 96 [some (.ref 71), some (.int x1), some (.int x2), some (.int x3), some (.long (((w4 * (1103515245 : Int64)) + (12345 : Int64)) - ((w4 * (1103515245 : Int64)) + (12345 : Int64)) / (2147483648 : Int64) * (2147483648 : Int64))), none, some (.int x6), some (.int x7)] [.long ((x3 + (1 : Int32)).toInt64), .long ((((w4 * (1103515245 : Int64)) + (12345 : Int64)) - ((w4 * (1103515245 : Int64)) + (12345 : Int64)) / (2147483648 : Int64) * (2147483648 : Int64)) / (65536 : Int64)), .ref 71] _ i_37_95 rfl ?_
        obtain ⟨k_7, hd⟩ := dk_if hd
        refine wp_lrem 97 rfl i_37_96 k_7 ?_
        refine wp_s 98 [some (.ref 71), some (.int x1), some (.int x2), some (.int x3), some (.long (((w4 * (1103515245 : Int64)) + (12345 : Int64)) - ((w4 * (1103515245 : Int64)) + (12345 : Int64)) / (2147483648 : Int64) * (2147483648 : Int64))), none, some (.int x6), some (.int x7)] [.int ((((((w4 * (1103515245 : Int64)) + (12345 : Int64)) - ((w4 * (1103515245 : Int64)) + (12345 : Int64)) / (2147483648 : Int64) * (2147483648 : Int64)) / (65536 : Int64)) - ((((w4 * (1103515245 : Int64)) + (12345 : Int64)) - ((w4 * (1103515245 : Int64)) + (12345 : Int64)) / (2147483648 : Int64) * (2147483648 : Int64)) / (65536 : Int64)) / ((x3 + (1 : Int32)).toInt64) * ((x3 + (1 : Int32)).toInt64)).toInt32), .ref 71] _ i_37_97 rfl ?_
        obtain ⟨z_8, q_9, hd⟩ := dk_bind hd
        refine wp_callV 101 rfl i_37_98 (by decide) rfl (vs := [.int ((((((w4 * (1103515245 : Int64)) + (12345 : Int64)) - ((w4 * (1103515245 : Int64)) + (12345 : Int64)) / (2147483648 : Int64) * (2147483648 : Int64)) / (65536 : Int64)) - ((((w4 * (1103515245 : Int64)) + (12345 : Int64)) - ((w4 * (1103515245 : Int64)) + (12345 : Int64)) / (2147483648 : Int64) * (2147483648 : Int64)) / (65536 : Int64)) / ((x3 + (1 : Int32)).toInt64) * ((x3 + (1 : Int32)).toInt64)).toInt32)]) (rest := []) rfl rfl rfl (hm_isO (cb rfl) kk_71) (y := m_38) rfl (Nat.le_of_ble_eq_true rfl) (d_38_ok (S := S) (d := e) (by omega) q_9) ?_
        rintro v_10 h_11 ⟨rfl, rfl⟩
        refine wp_s 104 [some (.ref 71), some (.int x1), some (.int x2), some (.int x3), some (.long (((w4 * (1103515245 : Int64)) + (12345 : Int64)) - ((w4 * (1103515245 : Int64)) + (12345 : Int64)) / (2147483648 : Int64) * (2147483648 : Int64))), none, some (.int x6), some (.int (x7 + (1 : Int32)))] [] _ i_37_101 rfl ?_
        refine wp_s 63 [some (.ref 71), some (.int x1), some (.int x2), some (.int x3), some (.long (((w4 * (1103515245 : Int64)) + (12345 : Int64)) - ((w4 * (1103515245 : Int64)) + (12345 : Int64)) / (2147483648 : Int64) * (2147483648 : Int64))), none, some (.int x6), some (.int (x7 + (1 : Int32)))] [] _ i_37_104 rfl ?_
        exact aWp.forget (ih.2 _ _ _ _ _ _ _ _ hd) (lvS (lvS (lvS (lvS (lvS (lvN (lvS (lvS lvE))))))))
set_option maxHeartbeats 4000000 in
set_option maxRecDepth 100000 in
theorem d_37_ok {X : aX} {S : rS} {g : Nat} {x1 : Int32} {x2 : Int32} {m : cM} {zz : cM} {d : Nat} (hdp : 6 ≤ d) (hd : d_37 g x1 x2 m = some zz) : aWp X d 37 0 (aEntL [.ref 71, .int x1, .int x2] 8) [] (hr m S) (fun w h' => w = none ∧ h' = hr zz S) := by
  unfold d_37 at hd
  refine wp_lv (l2 := [some (.ref 71), some (.int x1), some (.int x2), none, none, none, none, none]) rfl ?_
  obtain ⟨e, rfl⟩ : ∃ e, d = e + 1 := ⟨d - 1, by omega⟩
  refine wp_s 1 [some (.ref 71), some (.int x1), some (.int x2), none, none, none, none, none] [.ref 71] _ i_37_0 rfl ?_
  refine wp_s 2 [some (.ref 71), some (.int x1), some (.int x2), none, none, none, none, none] [.int (0 : Int32), .ref 71] _ i_37_1 rfl ?_
  obtain ⟨mm_1001, q_1002, hd⟩ := dk_bind hd
  refine hm_put 5 rfl i_37_2 (cb rfl) kk_71 (fun _ _ => rfl) (fun _ _ => Nat.le_of_ble_eq_true rfl) rfl ?_
  rw [Option.some.inj q_1002]
  refine wp_s 6 [some (.ref 71), some (.int x1), some (.int x2), none, none, none, none, none] [.ref 71] _ i_37_5 rfl ?_
  refine wp_s 7 [some (.ref 71), some (.int x1), some (.int x2), none, none, none, none, none] [.int (0 : Int32), .ref 71] _ i_37_6 rfl ?_
  obtain ⟨mm_1003, q_1004, hd⟩ := dk_bind hd
  refine hm_put 10 rfl i_37_7 (cb rfl) kk_71 (fun _ _ => rfl) (fun _ _ => Nat.le_of_ble_eq_true rfl) rfl ?_
  rw [Option.some.inj q_1004]
  refine wp_s 11 [some (.ref 71), some (.int x1), some (.int x2), none, none, none, none, none] [.ref 71] _ i_37_10 rfl ?_
  refine hm_get (w := .ref 5) 14 rfl i_37_11 (cb rfl) kk_71 rfl ?_
  obtain ⟨k_1005, hd⟩ := dk_if hd
  refine hm_dyn 17 rfl i_37_14 (cb rfl) kk_5 (fun _ _ => rfl) (kd_ne0 (cO_iff k_1005).2 (by decide)) ?_
  refine hm_get (w := .int (mm_1003.1 (mm_1003.2.2.1 5) 4)) 20 rfl i_37_17 (cO_iff k_1005).1 (cO_iff k_1005).2 rfl ?_
  refine wp_s 21 [some (.ref 71), some (.int x1), some (.int x2), some (.int (mm_1003.1 (mm_1003.2.2.1 5) 4)), none, none, none, none] [] _ i_37_20 rfl ?_
  refine wp_s 22 [some (.ref 71), some (.int x1), some (.int x2), some (.int (mm_1003.1 (mm_1003.2.2.1 5) 4)), none, none, none, none] [.int (mm_1003.1 (mm_1003.2.2.1 5) 4)] _ i_37_21 rfl ?_
  refine wp_s 23 [some (.ref 71), some (.int x1), some (.int x2), some (.int (mm_1003.1 (mm_1003.2.2.1 5) 4)), none, none, none, none] [.int (1 : Int32), .int (mm_1003.1 (mm_1003.2.2.1 5) 4)] _ i_37_22 rfl ?_
  refine wp_cmp_ge 27 26 rfl rfl i_37_23 (fun c_1006 => ?_) (fun c_1006 => ?_)
  · rw [if_pos c_1006] at hd
    refine wp_s 28 [some (.ref 71), some (.int x1), some (.int x2), some (.int (mm_1003.1 (mm_1003.2.2.1 5) 4)), none, none, none, none] [.ref 71] _ i_37_27 rfl ?_
    refine hm_get (w := .ref 5) 31 rfl i_37_28 (cb rfl) kk_71 rfl ?_
    refine hm_get (w := .int (mm_1003.1 5 3)) 34 rfl i_37_31 (cb rfl) kk_5 rfl ?_
    refine wp_s 35 [some (.ref 71), some (.int x1), some (.int x2), some (.int (mm_1003.1 (mm_1003.2.2.1 5) 4)), none, none, none, none] [.long ((mm_1003.1 5 3).toInt64)] _ i_37_34 rfl ?_
    refine wp_s 37 [some (.ref 71), some (.int x1), some (.int x2), some (.int (mm_1003.1 (mm_1003.2.2.1 5) 4)), some (.long ((mm_1003.1 5 3).toInt64)), none, none, none] [] _ i_37_35 rfl ?_
    refine wp_s 38 [some (.ref 71), some (.int x1), some (.int x2), some (.int (mm_1003.1 (mm_1003.2.2.1 5) 4)), some (.long ((mm_1003.1 5 3).toInt64)), none, none, none] [.int (0 : Int32)] _ i_37_37 rfl ?_
    refine wp_s 40 [some (.ref 71), some (.int x1), some (.int x2), some (.int (mm_1003.1 (mm_1003.2.2.1 5) 4)), some (.long ((mm_1003.1 5 3).toInt64)), none, some (.int (0 : Int32)), none] [] _ i_37_38 rfl ?_
    exact aWp.forget ((l_37_ok hdp g).1 _ _ _ _ _ _ _ _ hd) (lvS (lvS (lvS (lvS (lvS (lvN (lvS (lvN lvE))))))))
  · rw [if_neg c_1006] at hd
    obtain rfl := Option.some.inj hd
    exact wp_ret i_37_26 rfl ⟨rfl, rfl⟩
set_option maxHeartbeats 4000000 in
set_option maxRecDepth 100000 in
theorem j_83_22_ok {X : aX} {S : rS} {g : Nat} {x1 : Int32} {m : cM} {zz : cM} {d : Nat} (hdp : 0 ≤ d) (hd : j_83_22 g x1 m = some zz) : aWp X d 83 22 [some (.ref 1), some (.int x1)] [] (hr m S) (fun w h' => w = none ∧ h' = hr zz S) := by
  unfold j_83_22 at hd
  refine wp_s 23 [some (.ref 1), some (.int x1)] [.ref 1] _ i_83_22 rfl ?_
  refine wp_s 25 [some (.ref 1), some (.int x1)] [.int (21 : Int32), .ref 1] _ i_83_23 rfl ?_
  obtain ⟨mm_1, q_2, hd⟩ := dk_bind hd
  refine hm_put 28 rfl i_83_25 (cb rfl) kk_1 (fun _ _ => rfl) (fun _ _ => Nat.le_of_ble_eq_true rfl) rfl ?_
  rw [Option.some.inj q_2]
  refine wp_s 29 [some (.ref 1), some (.int x1)] [.ref 1] _ i_83_28 rfl ?_
  refine wp_s 30 [some (.ref 1), some (.int x1)] [.ref 1, .ref 1] _ i_83_29 rfl ?_
  refine hm_get (w := .int (mm_1.1 1 1)) 33 rfl i_83_30 (cb rfl) kk_1 rfl ?_
  obtain ⟨mm_3, q_4, hd⟩ := dk_bind hd
  refine hm_put 36 rfl i_83_33 (cb rfl) kk_1 (fun _ _ => rfl) (fun _ _ => Nat.le_of_ble_eq_true rfl) rfl ?_
  rw [Option.some.inj q_4]
  obtain rfl := Option.some.inj hd
  exact wp_ret i_83_36 rfl ⟨rfl, rfl⟩
set_option maxHeartbeats 4000000 in
set_option maxRecDepth 100000 in
theorem d_83_ok {X : aX} {S : rS} {g : Nat} {x1 : Int32} {m : cM} {zz : cM} {d : Nat} (hdp : 0 ≤ d) (hd : d_83 g x1 m = some zz) : aWp X d 83 0 (aEntL [.ref 1, .int x1] 2) [] (hr m S) (fun w h' => w = none ∧ h' = hr zz S) := by
  unfold d_83 at hd
  refine wp_lv (l2 := [some (.ref 1), some (.int x1)]) rfl ?_
  refine wp_s 1 [some (.ref 1), some (.int x1)] [.ref 1] _ i_83_0 rfl ?_
  refine hm_get (w := .int (m.1 1 6)) 4 rfl i_83_1 (cb rfl) kk_1 rfl ?_
  refine wp_if_ne 22 7 rfl rfl i_83_4 (fun c_1 => ?_) (fun c_1 => ?_)
  · rw [if_pos c_1] at hd
    exact aWp.forget (j_83_22_ok hdp hd) (lvS (lvS lvE))
  · rw [if_neg c_1] at hd
    refine wp_s 8 [some (.ref 1), some (.int x1)] [.ref 1] _ i_83_7 rfl ?_
    refine wp_s 9 [some (.ref 1), some (.int x1)] [.int (1 : Int32), .ref 1] _ i_83_8 rfl ?_
    refine wp_s 11 [some (.ref 1), some (.int x1)] [.int (8 : Int32), .int (1 : Int32), .ref 1] _ i_83_9 rfl ?_
    refine wp_s 12 [some (.ref 1), some (.int x1)] [.ref 1, .int (8 : Int32), .int (1 : Int32), .ref 1] _ i_83_11 rfl ?_
    refine hm_get (w := .int (m.1 1 4)) 15 rfl i_83_12 (cb rfl) kk_1 rfl ?_
    refine wp_s 16 [some (.ref 1), some (.int x1)] [.int ((8 : Int32) * (m.1 1 4)), .int (1 : Int32), .ref 1] _ i_83_15 rfl ?_
    refine wp_s 17 [some (.ref 1), some (.int x1)] [.int ((1 : Int32) + ((8 : Int32) * (m.1 1 4))), .ref 1] _ i_83_16 rfl ?_
    refine wp_s 18 [some (.ref 1), some (.int x1)] [.int x1, .int ((1 : Int32) + ((8 : Int32) * (m.1 1 4))), .ref 1] _ i_83_17 rfl ?_
    refine wp_s 19 [some (.ref 1), some (.int x1)] [.int (((1 : Int32) + ((8 : Int32) * (m.1 1 4))) + x1), .ref 1] _ i_83_18 rfl ?_
    obtain ⟨mm_2, q_3, hd⟩ := dk_bind hd
    refine hm_put 22 rfl i_83_19 (cb rfl) kk_1 (fun _ _ => rfl) (fun _ _ => Nat.le_of_ble_eq_true rfl) rfl ?_
    rw [Option.some.inj q_3]
    exact aWp.forget (j_83_22_ok hdp hd) (lvS (lvS lvE))
set_option maxHeartbeats 4000000 in
set_option maxRecDepth 100000 in
theorem j_52_17_ok {X : aX} {S : rS} {g : Nat}  {m : cM} {zz : cM} {d : Nat} (hdp : 1 ≤ d) (hd : j_52_17 g  m = some zz) : aWp X d 52 17 [some (.ref 4)] [] (hr m S) (fun w h' => w = none ∧ h' = hr zz S) := by
  unfold j_52_17 at hd
  obtain ⟨e, rfl⟩ : ∃ e, d = e + 1 := ⟨d - 1, by omega⟩
  refine wp_s 18 [some (.ref 4)] [.ref 4] _ i_52_17 rfl ?_
  refine wp_s 19 [some (.ref 4)] [.ref 4, .ref 4] _ i_52_18 rfl ?_
  refine hm_get (w := .int (m.1 4 2)) 22 rfl i_52_19 (cb rfl) kk_4 rfl ?_
  refine wp_s 23 [some (.ref 4)] [.int (1 : Int32), .int (m.1 4 2), .ref 4] _ i_52_22 rfl ?_
  refine wp_s 24 [some (.ref 4)] [.int ((m.1 4 2) + (1 : Int32)), .ref 4] _ i_52_23 rfl ?_
  obtain ⟨mm_1, q_2, hd⟩ := dk_bind hd
  refine hm_put 27 rfl i_52_24 (cb rfl) kk_4 (fun _ _ => rfl) (fun _ _ => Nat.le_of_ble_eq_true rfl) rfl ?_
  rw [Option.some.inj q_2]
  obtain rfl := Option.some.inj hd
  exact wp_ret i_52_27 rfl ⟨rfl, rfl⟩
set_option maxHeartbeats 4000000 in
set_option maxRecDepth 100000 in
theorem d_52_ok {X : aX} {S : rS} {g : Nat}  {m : cM} {zz : cM} {d : Nat} (hdp : 1 ≤ d) (hd : d_52 g  m = some zz) : aWp X d 52 0 (aEntL [.ref 4] 1) [] (hr m S) (fun w h' => w = none ∧ h' = hr zz S) := by
  unfold d_52 at hd
  refine wp_lv (l2 := [some (.ref 4)]) rfl ?_
  obtain ⟨e, rfl⟩ : ∃ e, d = e + 1 := ⟨d - 1, by omega⟩
  refine wp_s 1 [some (.ref 4)] [.ref 4] _ i_52_0 rfl ?_
  refine hm_get (w := .int (m.1 4 2)) 4 rfl i_52_1 (cb rfl) kk_4 rfl ?_
  refine wp_s 6 [some (.ref 4)] [.int (60 : Int32), .int (m.1 4 2)] _ i_52_4 rfl ?_
  refine wp_cmp_lt 17 9 rfl rfl i_52_6 (fun c_1 => ?_) (fun c_1 => ?_)
  · rw [if_pos c_1] at hd
    exact aWp.forget (j_52_17_ok hdp hd) (lvS lvE)
  · rw [if_neg c_1] at hd
    refine wp_s 10 [some (.ref 4)] [.ref 4] _ i_52_9 rfl ?_
    refine hm_get (w := .ref 1) 13 rfl i_52_10 (cb rfl) kk_4 rfl ?_
    refine wp_s 14 [some (.ref 4)] [.int (3 : Int32), .ref 1] _ i_52_13 rfl ?_
    obtain ⟨z_2, q_3, hd⟩ := dk_bind hd
    refine wp_callV 17 rfl i_52_14 (by decide) rfl (vs := [.int (3 : Int32)]) (rest := []) rfl rfl rfl (hm_isO (cb rfl) kk_1) (y := m_83) rfl (Nat.le_of_ble_eq_true rfl) (d_83_ok (S := S) (d := e) (by omega) q_3) ?_
    rintro v_4 h_5 ⟨rfl, rfl⟩
    exact aWp.forget (j_52_17_ok hdp hd) (lvS lvE)
set_option maxHeartbeats 4000000 in
set_option maxRecDepth 100000 in
theorem d_53_ok {X : aX} {S : rS} {g : Nat} {x1 : Int32} {m : cM} {zz : cM} {d : Nat} (hdp : 0 ≤ d) (hd : d_53 g x1 m = some zz) : aWp X d 53 0 (aEntL [.ref 4, .int x1] 2) [] (hr m S) (fun w h' => w = none ∧ h' = hr zz S) := by
  unfold d_53 at hd
  refine wp_lv (l2 := [some (.ref 4), some (.int x1)]) rfl ?_
  refine wp_s 1 [some (.ref 4), some (.int x1)] [.ref 4] _ i_53_0 rfl ?_
  obtain ⟨k_1, hd⟩ := dk_if hd
  refine hm_dyn 4 rfl i_53_1 (cb rfl) kk_4 (fun _ _ => rfl) (kd_ne0 (cU_kd k_1) (by decide)) ?_
  refine hm_get (w := .int (m.1 (m.2.2.1 4) 5)) 7 rfl i_53_4 (cU_lt k_1) (cU_kd k_1) rfl ?_
  refine wp_s 10 [some (.ref 4), some (.int x1)] [.int (400 : Int32), .int (m.1 (m.2.2.1 4) 5)] _ i_53_7 rfl ?_
  refine wp_cmp_ge 42 13 rfl rfl i_53_10 (fun c_2 => ?_) (fun c_2 => ?_)
  · rw [if_pos c_2] at hd
    obtain rfl := Option.some.inj hd
    exact wp_ret i_53_42 rfl ⟨rfl, rfl⟩
  · rw [if_neg c_2] at hd
    refine wp_s 14 [some (.ref 4), some (.int x1)] [.ref 4] _ i_53_13 rfl ?_
    refine hm_dyn 17 rfl i_53_14 (cb rfl) kk_4 (fun _ _ => rfl) (kd_ne0 (cU_kd k_1) (by decide)) ?_
    refine hm_get (w := .ref ((m.2.2.1 4) + 1)) 20 rfl i_53_17 (cU_lt k_1) (cU_kd k_1) rfl ?_
    refine wp_s 21 [some (.ref 4), some (.int x1)] [.ref 4, .ref ((m.2.2.1 4) + 1)] _ i_53_20 rfl ?_
    refine hm_dyn 24 rfl i_53_21 (cb rfl) kk_4 (fun _ _ => rfl) (kd_ne0 (cU_kd k_1) (by decide)) ?_
    refine hm_get (w := .int (m.1 (m.2.2.1 4) 5)) 27 rfl i_53_24 (cU_lt k_1) (cU_kd k_1) rfl ?_
    refine wp_s 28 [some (.ref 4), some (.int x1)] [.int x1, .int (m.1 (m.2.2.1 4) 5), .ref ((m.2.2.1 4) + 1)] _ i_53_27 rfl ?_
    obtain ⟨k_3, hd⟩ := dk_if hd
    obtain ⟨mm_4, q_5, hd⟩ := dk_bind hd
    refine hm_iast 29 rfl i_53_28 (kb_3_1 (cU_lt k_1) (cU_kd k_1)) (kr_3_1 (cU_kd k_1)) k_3 ?_
    rw [Option.some.inj q_5]
    refine wp_s 30 [some (.ref 4), some (.int x1)] [.ref 4] _ i_53_29 rfl ?_
    obtain ⟨k_6, hd⟩ := dk_if hd
    refine hm_dyn 33 rfl i_53_30 (cb rfl) kk_4 (fun _ _ => rfl) (kd_ne0 (cU_kd k_6) (by decide)) ?_
    refine wp_s 34 [some (.ref 4), some (.int x1)] [.ref (mm_4.2.2.1 4), .ref (mm_4.2.2.1 4)] _ i_53_33 rfl ?_
    refine hm_get (w := .int (mm_4.1 (mm_4.2.2.1 4) 5)) 37 rfl i_53_34 (cU_lt k_6) (cU_kd k_6) rfl ?_
    refine wp_s 38 [some (.ref 4), some (.int x1)] [.int (1 : Int32), .int (mm_4.1 (mm_4.2.2.1 4) 5), .ref (mm_4.2.2.1 4)] _ i_53_37 rfl ?_
    refine wp_s 39 [some (.ref 4), some (.int x1)] [.int ((mm_4.1 (mm_4.2.2.1 4) 5) + (1 : Int32)), .ref (mm_4.2.2.1 4)] _ i_53_38 rfl ?_
    obtain ⟨mm_7, q_8, hd⟩ := dk_bind hd
    refine hm_put 42 rfl i_53_39 (cU_lt k_6) (cU_kd k_6) (fun _ _ => rfl) (fun _ _ => Nat.le_of_ble_eq_true rfl) rfl ?_
    rw [Option.some.inj q_8]
    obtain rfl := Option.some.inj hd
    exact wp_ret i_53_42 rfl ⟨rfl, rfl⟩
set_option maxHeartbeats 4000000 in
set_option maxRecDepth 100000 in
theorem l_85_ok {X : aX} {S : rS} {g : Nat} {d : Nat} (hdp : 0 ≤ d) : ∀ n, (∀ (s0 : Int32) (m : cM) (zz : cM), l_85 g n 0 s0 m = some zz → aWp X d 85 11 [some (.ref 1)] [] (hr m S) (fun w h' => w = none ∧ h' = hr zz S)) ∧ (∀ (s0 : Int32) (m : cM) (zz : cM), l_85 g n 1 s0 m = some zz → aWp X d 85 89 [some (.ref 1)] [.int s0, .ref 1] (hr m S) (fun w h' => w = none ∧ h' = hr zz S)) := by
  intro n
  induction n with
  | zero => exact ⟨fun _ _ _ hd => by simp [l_85] at hd, fun _ _ _ hd => by simp [l_85] at hd⟩
  | succ n ih =>
    refine ⟨?_, ?_⟩
    · intro s0 m zz hd
      unfold l_85 at hd
      rw [if_pos rfl] at hd
      refine wp_s 12 [some (.ref 1)] [.ref 1] _ i_85_11 rfl ?_
      refine hm_get (w := .int (m.1 1 2)) 15 rfl i_85_12 (cb rfl) kk_1 rfl ?_
      refine wp_s 16 [some (.ref 1)] [.ref 1, .int (m.1 1 2)] _ i_85_15 rfl ?_
      refine hm_get (w := .int (m.1 1 1)) 19 rfl i_85_16 (cb rfl) kk_1 rfl ?_
      refine wp_cmp_ge 105 22 rfl rfl i_85_19 (fun c_1 => ?_) (fun c_1 => ?_)
      · rw [if_pos c_1] at hd
        obtain rfl := Option.some.inj hd
        exact wp_ret i_85_105 rfl ⟨rfl, rfl⟩
      · rw [if_neg c_1] at hd
        refine wp_s 23 [some (.ref 1)] [.ref 1] _ i_85_22 rfl ?_
        refine hm_get (w := .ref 2) 26 rfl i_85_23 (cb rfl) kk_1 rfl ?_
        refine wp_s 27 [some (.ref 1)] [.ref 1, .ref 2] _ i_85_26 rfl ?_
        refine hm_get (w := .int (m.1 1 2)) 30 rfl i_85_27 (cb rfl) kk_1 rfl ?_
        obtain ⟨k_2, hd⟩ := dk_if hd
        refine hm_bald 31 rfl i_85_30 (by decide) (cb rfl) kk_2 k_2 ?_
        refine wp_s 33 [some (.ref 1)] [.int (48 : Int32), .int (m.1 2 (m.1 1 2).toNatClampNeg)] _ i_85_31 rfl ?_
        refine wp_cmp_lt 105 36 rfl rfl i_85_33 (fun c_3 => ?_) (fun c_3 => ?_)
        · rw [if_pos c_3] at hd
          obtain rfl := Option.some.inj hd
          exact wp_ret i_85_105 rfl ⟨rfl, rfl⟩
        · rw [if_neg c_3] at hd
          refine wp_s 37 [some (.ref 1)] [.ref 1] _ i_85_36 rfl ?_
          refine hm_get (w := .ref 2) 40 rfl i_85_37 (cb rfl) kk_1 rfl ?_
          refine wp_s 41 [some (.ref 1)] [.ref 1, .ref 2] _ i_85_40 rfl ?_
          refine hm_get (w := .int (m.1 1 2)) 44 rfl i_85_41 (cb rfl) kk_1 rfl ?_
          obtain ⟨k_4, hd⟩ := dk_if hd
          refine hm_bald 45 rfl i_85_44 (by decide) (cb rfl) kk_2 k_4 ?_
          refine wp_s 47 [some (.ref 1)] [.int (57 : Int32), .int (m.1 2 (m.1 1 2).toNatClampNeg)] _ i_85_45 rfl ?_
          refine wp_cmp_gt 105 50 rfl rfl i_85_47 (fun c_5 => ?_) (fun c_5 => ?_)
          · rw [if_pos c_5] at hd
            obtain rfl := Option.some.inj hd
            exact wp_ret i_85_105 rfl ⟨rfl, rfl⟩
          · rw [if_neg c_5] at hd
            refine wp_s 51 [some (.ref 1)] [.ref 1] _ i_85_50 rfl ?_
            refine wp_s 52 [some (.ref 1)] [.ref 1, .ref 1] _ i_85_51 rfl ?_
            refine hm_get (w := .int (m.1 1 2)) 55 rfl i_85_52 (cb rfl) kk_1 rfl ?_
            refine wp_s 56 [some (.ref 1)] [.ref 1, .int (m.1 1 2), .ref 1] _ i_85_55 rfl ?_
            refine hm_get (w := .int (m.1 1 4)) 59 rfl i_85_56 (cb rfl) kk_1 rfl ?_
            refine wp_s 60 [some (.ref 1)] [.int ((m.1 1 2) - (m.1 1 4)), .ref 1] _ i_85_59 rfl ?_
            refine wp_s 61 [some (.ref 1)] [.int (5 : Int32), .int ((m.1 1 2) - (m.1 1 4)), .ref 1] _ i_85_60 rfl ?_
            refine wp_cmp_ge 87 64 rfl rfl i_85_61 (fun c_6 => ?_) (fun c_6 => ?_)
            · rw [if_pos c_6] at hd
              refine wp_s 89 [some (.ref 1)] [.int (100000 : Int32), .ref 1] _ i_85_87 rfl ?_
              exact aWp.forget (ih.2 _ _ _ hd) (lvS lvE)
            · rw [if_neg c_6] at hd
              refine wp_s 65 [some (.ref 1)] [.ref 1, .ref 1] _ i_85_64 rfl ?_
              refine hm_get (w := .int (m.1 1 5)) 68 rfl i_85_65 (cb rfl) kk_1 rfl ?_
              refine wp_s 70 [some (.ref 1)] [.int (10 : Int32), .int (m.1 1 5), .ref 1] _ i_85_68 rfl ?_
              refine wp_s 71 [some (.ref 1)] [.int ((m.1 1 5) * (10 : Int32)), .ref 1] _ i_85_70 rfl ?_
              refine wp_s 72 [some (.ref 1)] [.ref 1, .int ((m.1 1 5) * (10 : Int32)), .ref 1] _ i_85_71 rfl ?_
              refine hm_get (w := .ref 2) 75 rfl i_85_72 (cb rfl) kk_1 rfl ?_
              refine wp_s 76 [some (.ref 1)] [.ref 1, .ref 2, .int ((m.1 1 5) * (10 : Int32)), .ref 1] _ i_85_75 rfl ?_
              refine hm_get (w := .int (m.1 1 2)) 79 rfl i_85_76 (cb rfl) kk_1 rfl ?_
              obtain ⟨k_7, hd⟩ := dk_if hd
              refine hm_bald 80 rfl i_85_79 (by decide) (cb rfl) kk_2 k_7 ?_
              refine wp_s 81 [some (.ref 1)] [.int (((m.1 1 5) * (10 : Int32)) + (m.1 2 (m.1 1 2).toNatClampNeg)), .ref 1] _ i_85_80 rfl ?_
              refine wp_s 83 [some (.ref 1)] [.int (48 : Int32), .int (((m.1 1 5) * (10 : Int32)) + (m.1 2 (m.1 1 2).toNatClampNeg)), .ref 1] _ i_85_81 rfl ?_
              refine wp_s 84 [some (.ref 1)] [.int ((((m.1 1 5) * (10 : Int32)) + (m.1 2 (m.1 1 2).toNatClampNeg)) - (48 : Int32)), .ref 1] _ i_85_83 rfl ?_
              refine wp_s 89 [some (.ref 1)] [.int ((((m.1 1 5) * (10 : Int32)) + (m.1 2 (m.1 1 2).toNatClampNeg)) - (48 : Int32)), .ref 1] _ i_85_84 rfl ?_
              exact aWp.forget (ih.2 _ _ _ hd) (lvS lvE)
    · intro s0 m zz hd
      unfold l_85 at hd
      rw [if_neg (by decide), if_pos rfl] at hd
      obtain ⟨mm_8, q_9, hd⟩ := dk_bind hd
      refine hm_put 92 rfl i_85_89 (cb rfl) kk_1 (fun _ _ => rfl) (fun _ _ => Nat.le_of_ble_eq_true rfl) rfl ?_
      rw [Option.some.inj q_9]
      refine wp_s 93 [some (.ref 1)] [.ref 1] _ i_85_92 rfl ?_
      refine wp_s 94 [some (.ref 1)] [.ref 1, .ref 1] _ i_85_93 rfl ?_
      refine hm_get (w := .int (mm_8.1 1 2)) 97 rfl i_85_94 (cb rfl) kk_1 rfl ?_
      refine wp_s 98 [some (.ref 1)] [.int (1 : Int32), .int (mm_8.1 1 2), .ref 1] _ i_85_97 rfl ?_
      refine wp_s 99 [some (.ref 1)] [.int ((mm_8.1 1 2) + (1 : Int32)), .ref 1] _ i_85_98 rfl ?_
      obtain ⟨mm_10, q_11, hd⟩ := dk_bind hd
      refine hm_put 102 rfl i_85_99 (cb rfl) kk_1 (fun _ _ => rfl) (fun _ _ => Nat.le_of_ble_eq_true rfl) rfl ?_
      rw [Option.some.inj q_11]
      refine wp_s 11 [some (.ref 1)] [] _ i_85_102 rfl ?_
      exact aWp.forget (ih.1 _ _ _ hd) (lvS lvE)
set_option maxHeartbeats 4000000 in
set_option maxRecDepth 100000 in
theorem d_85_ok {X : aX} {S : rS} {g : Nat}  {m : cM} {zz : cM} {d : Nat} (hdp : 0 ≤ d) (hd : d_85 g  m = some zz) : aWp X d 85 0 (aEntL [.ref 1] 1) [] (hr m S) (fun w h' => w = none ∧ h' = hr zz S) := by
  unfold d_85 at hd
  refine wp_lv (l2 := [some (.ref 1)]) rfl ?_
  refine wp_s 1 [some (.ref 1)] [.ref 1] _ i_85_0 rfl ?_
  refine wp_s 3 [some (.ref 1)] [.int (20 : Int32), .ref 1] _ i_85_1 rfl ?_
  obtain ⟨mm_1001, q_1002, hd⟩ := dk_bind hd
  refine hm_put 6 rfl i_85_3 (cb rfl) kk_1 (fun _ _ => rfl) (fun _ _ => Nat.le_of_ble_eq_true rfl) rfl ?_
  rw [Option.some.inj q_1002]
  refine wp_s 7 [some (.ref 1)] [.ref 1] _ i_85_6 rfl ?_
  refine wp_s 8 [some (.ref 1)] [.int (0 : Int32), .ref 1] _ i_85_7 rfl ?_
  obtain ⟨mm_1003, q_1004, hd⟩ := dk_bind hd
  refine hm_put 11 rfl i_85_8 (cb rfl) kk_1 (fun _ _ => rfl) (fun _ _ => Nat.le_of_ble_eq_true rfl) rfl ?_
  rw [Option.some.inj q_1004]
  exact aWp.forget ((l_85_ok hdp g).1 _ _ _ hd) (lvS lvE)
set_option maxHeartbeats 4000000 in
set_option maxRecDepth 100000 in
theorem l_86_ok {X : aX} {S : rS} {g : Nat} {d : Nat} (hdp : 0 ≤ d) : ∀ n, (∀ (x1 : Int32) (x2 : Int32) (x3 : Int32) (x4 : Int32) (m : cM) (zz : cM), l_86 g n 0 x1 x2 x3 x4 m = some zz → aWp X d 86 0 [some (.ref 1), none, none, none, none] [] (hr m S) (fun w h' => w = none ∧ h' = hr zz S)) ∧ (∀ (x1 : Int32) (x2 : Int32) (x3 : Int32) (x4 : Int32) (m : cM) (zz : cM), l_86 g n 1 x1 x2 x3 x4 m = some zz → aWp X d 86 52 [some (.ref 1), none, none, none, none] [] (hr m S) (fun w h' => w = none ∧ h' = hr zz S)) ∧ (∀ (x1 : Int32) (x2 : Int32) (x3 : Int32) (x4 : Int32) (m : cM) (zz : cM), l_86 g n 2 x1 x2 x3 x4 m = some zz → aWp X d 86 70 [some (.ref 1), some (.int x1), some (.int x2), none, none] [] (hr m S) (fun w h' => w = none ∧ h' = hr zz S)) ∧ (∀ (x1 : Int32) (x2 : Int32) (x3 : Int32) (x4 : Int32) (m : cM) (zz : cM), l_86 g n 3 x1 x2 x3 x4 m = some zz → aWp X d 86 90 [some (.ref 1), some (.int x1), some (.int x2), some (.int x3), some (.int x4)] [] (hr m S) (fun w h' => w = none ∧ h' = hr zz S)) ∧ (∀ (x1 : Int32) (x2 : Int32) (x3 : Int32) (x4 : Int32) (m : cM) (zz : cM), l_86 g n 4 x1 x2 x3 x4 m = some zz → aWp X d 86 126 [some (.ref 1), some (.int x1), some (.int x2), some (.int x3), some (.int x4)] [] (hr m S) (fun w h' => w = none ∧ h' = hr zz S)) ∧ (∀ (x1 : Int32) (x2 : Int32) (x3 : Int32) (x4 : Int32) (m : cM) (zz : cM), l_86 g n 5 x1 x2 x3 x4 m = some zz → aWp X d 86 151 [some (.ref 1), some (.int x1), some (.int x2), some (.int x3), some (.int x4)] [] (hr m S) (fun w h' => w = none ∧ h' = hr zz S)) := by
  intro n
  induction n with
  | zero => exact ⟨fun _ _ _ _ _ _ hd => by simp [l_86] at hd, fun _ _ _ _ _ _ hd => by simp [l_86] at hd, fun _ _ _ _ _ _ hd => by simp [l_86] at hd, fun _ _ _ _ _ _ hd => by simp [l_86] at hd, fun _ _ _ _ _ _ hd => by simp [l_86] at hd, fun _ _ _ _ _ _ hd => by simp [l_86] at hd⟩
  | succ n ih =>
    refine ⟨?_, ?_, ?_, ?_, ?_, ?_⟩
    · intro x1 x2 x3 x4 m zz hd
      unfold l_86 at hd
      rw [if_pos rfl] at hd
      refine wp_s 1 [some (.ref 1), none, none, none, none] [.ref 1] _ i_86_0 rfl ?_
      refine hm_get (w := .int (m.1 1 2)) 4 rfl i_86_1 (cb rfl) kk_1 rfl ?_
      refine wp_s 5 [some (.ref 1), none, none, none, none] [.ref 1, .int (m.1 1 2)] _ i_86_4 rfl ?_
      refine hm_get (w := .int (m.1 1 1)) 8 rfl i_86_5 (cb rfl) kk_1 rfl ?_
      refine wp_cmp_ge 52 11 rfl rfl i_86_8 (fun c_1 => ?_) (fun c_1 => ?_)
      · rw [if_pos c_1] at hd
        exact aWp.forget (ih.2.1 _ _ _ _ _ _ hd) (lvS (lvN (lvN (lvN (lvN lvE)))))
      · rw [if_neg c_1] at hd
        refine wp_s 12 [some (.ref 1), none, none, none, none] [.ref 1] _ i_86_11 rfl ?_
        refine hm_get (w := .ref 2) 15 rfl i_86_12 (cb rfl) kk_1 rfl ?_
        refine wp_s 16 [some (.ref 1), none, none, none, none] [.ref 1, .ref 2] _ i_86_15 rfl ?_
        refine hm_get (w := .int (m.1 1 2)) 19 rfl i_86_16 (cb rfl) kk_1 rfl ?_
        obtain ⟨k_2, hd⟩ := dk_if hd
        refine hm_bald 20 rfl i_86_19 (by decide) (cb rfl) kk_2 k_2 ?_
        refine wp_s 22 [some (.ref 1), none, none, none, none] [.int (97 : Int32), .int (m.1 2 (m.1 1 2).toNatClampNeg)] _ i_86_20 rfl ?_
        refine wp_cmp_lt 52 25 rfl rfl i_86_22 (fun c_3 => ?_) (fun c_3 => ?_)
        · rw [if_pos c_3] at hd
          exact aWp.forget (ih.2.1 _ _ _ _ _ _ hd) (lvS (lvN (lvN (lvN (lvN lvE)))))
        · rw [if_neg c_3] at hd
          refine wp_s 26 [some (.ref 1), none, none, none, none] [.ref 1] _ i_86_25 rfl ?_
          refine hm_get (w := .ref 2) 29 rfl i_86_26 (cb rfl) kk_1 rfl ?_
          refine wp_s 30 [some (.ref 1), none, none, none, none] [.ref 1, .ref 2] _ i_86_29 rfl ?_
          refine hm_get (w := .int (m.1 1 2)) 33 rfl i_86_30 (cb rfl) kk_1 rfl ?_
          obtain ⟨k_4, hd⟩ := dk_if hd
          refine hm_bald 34 rfl i_86_33 (by decide) (cb rfl) kk_2 k_4 ?_
          refine wp_s 36 [some (.ref 1), none, none, none, none] [.int (122 : Int32), .int (m.1 2 (m.1 1 2).toNatClampNeg)] _ i_86_34 rfl ?_
          refine wp_cmp_gt 52 39 rfl rfl i_86_36 (fun c_5 => ?_) (fun c_5 => ?_)
          · rw [if_pos c_5] at hd
            exact aWp.forget (ih.2.1 _ _ _ _ _ _ hd) (lvS (lvN (lvN (lvN (lvN lvE)))))
          · rw [if_neg c_5] at hd
            refine wp_s 40 [some (.ref 1), none, none, none, none] [.ref 1] _ i_86_39 rfl ?_
            refine wp_s 41 [some (.ref 1), none, none, none, none] [.ref 1, .ref 1] _ i_86_40 rfl ?_
            refine hm_get (w := .int (m.1 1 2)) 44 rfl i_86_41 (cb rfl) kk_1 rfl ?_
            refine wp_s 45 [some (.ref 1), none, none, none, none] [.int (1 : Int32), .int (m.1 1 2), .ref 1] _ i_86_44 rfl ?_
            refine wp_s 46 [some (.ref 1), none, none, none, none] [.int ((m.1 1 2) + (1 : Int32)), .ref 1] _ i_86_45 rfl ?_
            obtain ⟨mm_6, q_7, hd⟩ := dk_bind hd
            refine hm_put 49 rfl i_86_46 (cb rfl) kk_1 (fun _ _ => rfl) (fun _ _ => Nat.le_of_ble_eq_true rfl) rfl ?_
            rw [Option.some.inj q_7]
            refine wp_s 0 [some (.ref 1), none, none, none, none] [] _ i_86_49 rfl ?_
            exact aWp.forget (ih.1 _ _ _ _ _ _ hd) (lvS (lvN (lvN (lvN (lvN lvE)))))
    · intro x1 x2 x3 x4 m zz hd
      unfold l_86 at hd
      rw [if_neg (by decide), if_pos rfl] at hd
      refine wp_s 53 [some (.ref 1), none, none, none, none] [.ref 1] _ i_86_52 rfl ?_
      refine wp_s 55 [some (.ref 1), none, none, none, none] [.int (22 : Int32), .ref 1] _ i_86_53 rfl ?_
      obtain ⟨mm_8, q_9, hd⟩ := dk_bind hd
      refine hm_put 58 rfl i_86_55 (cb rfl) kk_1 (fun _ _ => rfl) (fun _ _ => Nat.le_of_ble_eq_true rfl) rfl ?_
      rw [Option.some.inj q_9]
      refine wp_s 59 [some (.ref 1), none, none, none, none] [.ref 1] _ i_86_58 rfl ?_
      refine hm_get (w := .int (mm_8.1 1 2)) 62 rfl i_86_59 (cb rfl) kk_1 rfl ?_
      refine wp_s 63 [some (.ref 1), none, none, none, none] [.ref 1, .int (mm_8.1 1 2)] _ i_86_62 rfl ?_
      refine hm_get (w := .int (mm_8.1 1 4)) 66 rfl i_86_63 (cb rfl) kk_1 rfl ?_
      refine wp_s 67 [some (.ref 1), none, none, none, none] [.int ((mm_8.1 1 2) - (mm_8.1 1 4))] _ i_86_66 rfl ?_
      refine wp_s 68 [some (.ref 1), some (.int ((mm_8.1 1 2) - (mm_8.1 1 4))), none, none, none] [] _ i_86_67 rfl ?_
      refine wp_s 69 [some (.ref 1), some (.int ((mm_8.1 1 2) - (mm_8.1 1 4))), none, none, none] [.int (0 : Int32)] _ i_86_68 rfl ?_
      refine wp_s 70 [some (.ref 1), some (.int ((mm_8.1 1 2) - (mm_8.1 1 4))), some (.int (0 : Int32)), none, none] [] _ i_86_69 rfl ?_
      exact aWp.forget (ih.2.2.1 _ _ _ _ _ _ hd) (lvS (lvS (lvS (lvN (lvN lvE)))))
    · intro x1 x2 x3 x4 m zz hd
      unfold l_86 at hd
      rw [if_neg (by decide), if_neg (by decide), if_pos rfl] at hd
      refine wp_s 71 [some (.ref 1), some (.int x1), some (.int x2), none, none] [.int x2] _ i_86_70 rfl ?_
      refine wp_s 73 [some (.ref 1), some (.int x1), some (.int x2), none, none] [.int (20 : Int32), .int x2] _ i_86_71 rfl ?_
      refine wp_cmp_ge 157 76 rfl rfl i_86_73 (fun c_10 => ?_) (fun c_10 => ?_)
      · rw [if_pos c_10] at hd
        obtain rfl := Option.some.inj hd
        exact wp_ret i_86_157 rfl ⟨rfl, rfl⟩
      · rw [if_neg c_10] at hd
        refine wp_s 77 [some (.ref 1), some (.int x1), some (.int x2), none, none] [.int x1] _ i_86_76 rfl ?_
        refine wp_s 79 [some (.ref 1), some (.int x1), some (.int x2), none, none] [.int (8 : Int32), .int x1] _ i_86_77 rfl ?_
        refine wp_cmp_ge 157 82 rfl rfl i_86_79 (fun c_11 => ?_) (fun c_11 => ?_)
        · rw [if_pos c_11] at hd
          obtain rfl := Option.some.inj hd
          exact wp_ret i_86_157 rfl ⟨rfl, rfl⟩
        · rw [if_neg c_11] at hd
          refine wp_s 83 [some (.ref 1), some (.int x1), some (.int x2), none, none] [.int x2] _ i_86_82 rfl ?_
          refine wp_s 85 [some (.ref 1), some (.int x1), some (.int x2), none, none] [.int (8 : Int32), .int x2] _ i_86_83 rfl ?_
          refine wp_s 86 [some (.ref 1), some (.int x1), some (.int x2), none, none] [.int (x2 * (8 : Int32))] _ i_86_85 rfl ?_
          refine wp_s 87 [some (.ref 1), some (.int x1), some (.int x2), some (.int (x2 * (8 : Int32))), none] [] _ i_86_86 rfl ?_
          refine wp_s 88 [some (.ref 1), some (.int x1), some (.int x2), some (.int (x2 * (8 : Int32))), none] [.int (0 : Int32)] _ i_86_87 rfl ?_
          refine wp_s 90 [some (.ref 1), some (.int x1), some (.int x2), some (.int (x2 * (8 : Int32))), some (.int (0 : Int32))] [] _ i_86_88 rfl ?_
          exact aWp.forget (ih.2.2.2.1 _ _ _ _ _ _ hd) (lvS (lvS (lvS (lvS (lvS lvE)))))
    · intro x1 x2 x3 x4 m zz hd
      unfold l_86 at hd
      rw [if_neg (by decide), if_neg (by decide), if_neg (by decide), if_pos rfl] at hd
      refine wp_s 92 [some (.ref 1), some (.int x1), some (.int x2), some (.int x3), some (.int x4)] [.int x4] _ i_86_90 rfl ?_
      refine wp_s 93 [some (.ref 1), some (.int x1), some (.int x2), some (.int x3), some (.int x4)] [.int x1, .int x4] _ i_86_92 rfl ?_
      refine wp_cmp_ge 126 96 rfl rfl i_86_93 (fun c_12 => ?_) (fun c_12 => ?_)
      · rw [if_pos c_12] at hd
        exact aWp.forget (ih.2.2.2.2.1 _ _ _ _ _ _ hd) (lvS (lvS (lvS (lvS (lvS lvE)))))
      · rw [if_neg c_12] at hd
        refine wp_s 98 [some (.ref 1), some (.int x1), some (.int x2), some (.int x3), some (.int x4)] [.float 0] _ i_86_96 rfl ?_
        refine wp_s 99 [some (.ref 1), some (.int x1), some (.int x2), some (.int x3), some (.int x4)] [.int x3, .float 0] _ i_86_98 rfl ?_
        refine wp_s 101 [some (.ref 1), some (.int x1), some (.int x2), some (.int x3), some (.int x4)] [.int x4, .int x3, .float 0] _ i_86_99 rfl ?_
        refine wp_s 102 [some (.ref 1), some (.int x1), some (.int x2), some (.int x3), some (.int x4)] [.int (x3 + x4), .float 0] _ i_86_101 rfl ?_
        obtain ⟨k_13, hd⟩ := dk_if hd
        refine hp_chr 105 rfl i_86_102 rfl k_13 ?_
        refine wp_s 106 [some (.ref 1), some (.int x1), some (.int x2), some (.int x3), some (.int x4)] [.ref 1, .int (aTxt ((x3 + x4)).toNatClampNeg)] _ i_86_105 rfl ?_
        refine hm_get (w := .ref 2) 109 rfl i_86_106 (cb rfl) kk_1 rfl ?_
        refine wp_s 110 [some (.ref 1), some (.int x1), some (.int x2), some (.int x3), some (.int x4)] [.ref 1, .ref 2, .int (aTxt ((x3 + x4)).toNatClampNeg)] _ i_86_109 rfl ?_
        refine hm_get (w := .int (m.1 1 4)) 113 rfl i_86_110 (cb rfl) kk_1 rfl ?_
        refine wp_s 115 [some (.ref 1), some (.int x1), some (.int x2), some (.int x3), some (.int x4)] [.int x4, .int (m.1 1 4), .ref 2, .int (aTxt ((x3 + x4)).toNatClampNeg)] _ i_86_113 rfl ?_
        refine wp_s 116 [some (.ref 1), some (.int x1), some (.int x2), some (.int x3), some (.int x4)] [.int ((m.1 1 4) + x4), .ref 2, .int (aTxt ((x3 + x4)).toNatClampNeg)] _ i_86_115 rfl ?_
        obtain ⟨k_14, hd⟩ := dk_if hd
        refine hm_bald 117 rfl i_86_116 (by decide) (cb rfl) kk_2 k_14 ?_
        refine wp_cmp_ne 126 120 rfl rfl i_86_117 (fun c_15 => ?_) (fun c_15 => ?_)
        · rw [if_pos c_15] at hd
          exact aWp.forget (ih.2.2.2.2.1 _ _ _ _ _ _ hd) (lvS (lvS (lvS (lvS (lvS lvE)))))
        · rw [if_neg c_15] at hd
          refine wp_s 123 [some (.ref 1), some (.int x1), some (.int x2), some (.int x3), some (.int (x4 + (1 : Int32)))] [] _ i_86_120 rfl ?_
          refine wp_s 90 [some (.ref 1), some (.int x1), some (.int x2), some (.int x3), some (.int (x4 + (1 : Int32)))] [] _ i_86_123 rfl ?_
          exact aWp.forget (ih.2.2.2.1 _ _ _ _ _ _ hd) (lvS (lvS (lvS (lvS (lvS lvE)))))
    · intro x1 x2 x3 x4 m zz hd
      unfold l_86 at hd
      rw [if_neg (by decide), if_neg (by decide), if_neg (by decide), if_neg (by decide), if_pos rfl] at hd
      refine wp_s 128 [some (.ref 1), some (.int x1), some (.int x2), some (.int x3), some (.int x4)] [.int x4] _ i_86_126 rfl ?_
      refine wp_s 129 [some (.ref 1), some (.int x1), some (.int x2), some (.int x3), some (.int x4)] [.int x1, .int x4] _ i_86_128 rfl ?_
      refine wp_cmp_ne 151 132 rfl rfl i_86_129 (fun c_16 => ?_) (fun c_16 => ?_)
      · rw [if_pos c_16] at hd
        exact aWp.forget (ih.2.2.2.2.2 _ _ _ _ _ _ hd) (lvS (lvS (lvS (lvS (lvS lvE)))))
      · rw [if_neg c_16] at hd
        refine wp_s 134 [some (.ref 1), some (.int x1), some (.int x2), some (.int x3), some (.int x4)] [.float 0] _ i_86_132 rfl ?_
        refine wp_s 135 [some (.ref 1), some (.int x1), some (.int x2), some (.int x3), some (.int x4)] [.int x3, .float 0] _ i_86_134 rfl ?_
        refine wp_s 137 [some (.ref 1), some (.int x1), some (.int x2), some (.int x3), some (.int x4)] [.int x4, .int x3, .float 0] _ i_86_135 rfl ?_
        refine wp_s 138 [some (.ref 1), some (.int x1), some (.int x2), some (.int x3), some (.int x4)] [.int (x3 + x4), .float 0] _ i_86_137 rfl ?_
        obtain ⟨k_17, hd⟩ := dk_if hd
        refine hp_chr 141 rfl i_86_138 rfl k_17 ?_
        refine wp_s 143 [some (.ref 1), some (.int x1), some (.int x2), some (.int x3), some (.int x4)] [.int (32 : Int32), .int (aTxt ((x3 + x4)).toNatClampNeg)] _ i_86_141 rfl ?_
        refine wp_cmp_ne 151 146 rfl rfl i_86_143 (fun c_18 => ?_) (fun c_18 => ?_)
        · rw [if_pos c_18] at hd
          exact aWp.forget (ih.2.2.2.2.2 _ _ _ _ _ _ hd) (lvS (lvS (lvS (lvS (lvS lvE)))))
        · rw [if_neg c_18] at hd
          refine wp_s 147 [some (.ref 1), some (.int x1), some (.int x2), some (.int x3), some (.int x4)] [.ref 1] _ i_86_146 rfl ?_
          refine wp_s 148 [some (.ref 1), some (.int x1), some (.int x2), some (.int x3), some (.int x4)] [.int x2, .ref 1] _ i_86_147 rfl ?_
          obtain ⟨mm_19, q_20, hd⟩ := dk_bind hd
          refine hm_put 151 rfl i_86_148 (cb rfl) kk_1 (fun _ _ => rfl) (fun _ _ => Nat.le_of_ble_eq_true rfl) rfl ?_
          rw [Option.some.inj q_20]
          exact aWp.forget (ih.2.2.2.2.2 _ _ _ _ _ _ hd) (lvS (lvS (lvS (lvS (lvS lvE)))))
    · intro x1 x2 x3 x4 m zz hd
      unfold l_86 at hd
      rw [if_neg (by decide), if_neg (by decide), if_neg (by decide), if_neg (by decide), if_neg (by decide), if_pos rfl] at hd
      refine wp_s 154 [some (.ref 1), some (.int x1), some (.int (x2 + (1 : Int32))), some (.int x3), some (.int x4)] [] _ i_86_151 rfl ?_
      refine wp_s 70 [some (.ref 1), some (.int x1), some (.int (x2 + (1 : Int32))), some (.int x3), some (.int x4)] [] _ i_86_154 rfl ?_
      exact aWp.forget (ih.2.2.1 _ _ _ _ _ _ hd) (lvS (lvS (lvS (lvN (lvN lvE)))))
set_option maxHeartbeats 4000000 in
set_option maxRecDepth 100000 in
theorem d_86_ok {X : aX} {S : rS} {g : Nat}  {m : cM} {zz : cM} {d : Nat} (hdp : 0 ≤ d) (hd : d_86 g  m = some zz) : aWp X d 86 0 (aEntL [.ref 1] 5) [] (hr m S) (fun w h' => w = none ∧ h' = hr zz S) := by
  unfold d_86 at hd
  refine wp_lv (l2 := [some (.ref 1), none, none, none, none]) rfl ?_
  exact aWp.forget ((l_86_ok hdp g).1 _ _ _ _ _ _ hd) (lvS (lvN (lvN (lvN (lvN lvE)))))
set_option maxHeartbeats 4000000 in
set_option maxRecDepth 100000 in
theorem j_87_295_ok {X : aX} {S : rS} {g : Nat} {x1 : Int32} {s0 : Int32} {s1 : Int32} {m : cM} {zz : cM} {d : Nat} (hdp : 0 ≤ d) (hd : j_87_295 g x1 s0 s1 m = some zz) : aWp X d 87 295 [some (.ref 1), some (.int x1)] [.int s0, .int s1, .ref 1] (hr m S) (fun w h' => w = none ∧ h' = hr zz S) := by
  unfold j_87_295 at hd
  refine wp_s 296 [some (.ref 1), some (.int x1)] [.int (s1 + s0), .ref 1] _ i_87_295 rfl ?_
  obtain ⟨mm_1, q_2, hd⟩ := dk_bind hd
  refine hm_put 299 rfl i_87_296 (cb rfl) kk_1 (fun _ _ => rfl) (fun _ _ => Nat.le_of_ble_eq_true rfl) rfl ?_
  rw [Option.some.inj q_2]
  obtain rfl := Option.some.inj hd
  exact wp_ret i_87_299 rfl ⟨rfl, rfl⟩
set_option maxHeartbeats 4000000 in
set_option maxRecDepth 100000 in
theorem j_87_290_ok {X : aX} {S : rS} {g : Nat} {x1 : Int32} {s0 : Int32} {m : cM} {zz : cM} {d : Nat} (hdp : 0 ≤ d) (hd : j_87_290 g x1 s0 m = some zz) : aWp X d 87 290 [some (.ref 1), some (.int x1)] [.int s0, .ref 1] (hr m S) (fun w h' => w = none ∧ h' = hr zz S) := by
  unfold j_87_290 at hd
  refine wp_s 291 [some (.ref 1), some (.int x1)] [.int (2 : Int32), .int s0, .ref 1] _ i_87_290 rfl ?_
  refine wp_s 295 [some (.ref 1), some (.int x1)] [.int (2 : Int32), .int s0, .ref 1] _ i_87_291 rfl ?_
  exact aWp.forget (j_87_295_ok hdp hd) (lvS (lvS lvE))
set_option maxHeartbeats 4000000 in
set_option maxRecDepth 100000 in
theorem j_87_267_ok {X : aX} {S : rS} {g : Nat} {x1 : Int32} {m : cM} {zz : cM} {d : Nat} (hdp : 0 ≤ d) (hd : j_87_267 g x1 m = some zz) : aWp X d 87 267 [some (.ref 1), some (.int x1)] [] (hr m S) (fun w h' => w = none ∧ h' = hr zz S) := by
  unfold j_87_267 at hd
  refine wp_s 268 [some (.ref 1), some (.int x1)] [.ref 1] _ i_87_267 rfl ?_
  refine wp_s 269 [some (.ref 1), some (.int x1)] [.ref 1, .ref 1] _ i_87_268 rfl ?_
  refine hm_get (w := .int (m.1 1 2)) 272 rfl i_87_269 (cb rfl) kk_1 rfl ?_
  refine wp_s 273 [some (.ref 1), some (.int x1)] [.ref 1, .int (m.1 1 2), .ref 1] _ i_87_272 rfl ?_
  refine hm_get (w := .int (m.1 1 3)) 276 rfl i_87_273 (cb rfl) kk_1 rfl ?_
  refine wp_s 278 [some (.ref 1), some (.int x1)] [.int (32 : Int32), .int (m.1 1 3), .int (m.1 1 2), .ref 1] _ i_87_276 rfl ?_
  refine wp_cmp_eq 290 281 rfl rfl i_87_278 (fun c_1 => ?_) (fun c_1 => ?_)
  · rw [if_pos c_1] at hd
    exact aWp.forget (j_87_290_ok hdp hd) (lvS (lvS lvE))
  · rw [if_neg c_1] at hd
    refine wp_s 282 [some (.ref 1), some (.int x1)] [.ref 1, .int (m.1 1 2), .ref 1] _ i_87_281 rfl ?_
    refine hm_get (w := .int (m.1 1 3)) 285 rfl i_87_282 (cb rfl) kk_1 rfl ?_
    refine wp_s 287 [some (.ref 1), some (.int x1)] [.int (34 : Int32), .int (m.1 1 3), .int (m.1 1 2), .ref 1] _ i_87_285 rfl ?_
    refine wp_cmp_ne 294 290 rfl rfl i_87_287 (fun c_2 => ?_) (fun c_2 => ?_)
    · rw [if_pos c_2] at hd
      refine wp_s 295 [some (.ref 1), some (.int x1)] [.int (1 : Int32), .int (m.1 1 2), .ref 1] _ i_87_294 rfl ?_
      exact aWp.forget (j_87_295_ok hdp hd) (lvS (lvS lvE))
    · rw [if_neg c_2] at hd
      exact aWp.forget (j_87_290_ok hdp hd) (lvS (lvS lvE))
set_option maxHeartbeats 4000000 in
set_option maxRecDepth 100000 in
theorem j_87_255_ok {X : aX} {S : rS} {g : Nat} {x1 : Int32} {s0 : Int32} {m : cM} {zz : cM} {d : Nat} (hdp : 0 ≤ d) (hd : j_87_255 g x1 s0 m = some zz) : aWp X d 87 255 [some (.ref 1), some (.int x1)] [.int s0, .ref 1] (hr m S) (fun w h' => w = none ∧ h' = hr zz S) := by
  unfold j_87_255 at hd
  obtain ⟨mm_1, q_2, hd⟩ := dk_bind hd
  refine hm_put 258 rfl i_87_255 (cb rfl) kk_1 (fun _ _ => rfl) (fun _ _ => Nat.le_of_ble_eq_true rfl) rfl ?_
  rw [Option.some.inj q_2]
  refine wp_s 267 [some (.ref 1), some (.int x1)] [] _ i_87_258 rfl ?_
  exact aWp.forget (j_87_267_ok hdp hd) (lvS (lvS lvE))
set_option maxHeartbeats 4000000 in
set_option maxRecDepth 100000 in
theorem j_87_228_ok {X : aX} {S : rS} {g : Nat} {x1 : Int32} {s0 : Int32} {m : cM} {zz : cM} {d : Nat} (hdp : 0 ≤ d) (hd : j_87_228 g x1 s0 m = some zz) : aWp X d 87 228 [some (.ref 1), some (.int x1)] [.int s0, .ref 1] (hr m S) (fun w h' => w = none ∧ h' = hr zz S) := by
  unfold j_87_228 at hd
  obtain ⟨mm_1, q_2, hd⟩ := dk_bind hd
  refine hm_put 231 rfl i_87_228 (cb rfl) kk_1 (fun _ _ => rfl) (fun _ _ => Nat.le_of_ble_eq_true rfl) rfl ?_
  rw [Option.some.inj q_2]
  refine wp_s 267 [some (.ref 1), some (.int x1)] [] _ i_87_231 rfl ?_
  exact aWp.forget (j_87_267_ok hdp hd) (lvS (lvS lvE))
set_option maxHeartbeats 4000000 in
set_option maxRecDepth 100000 in
theorem j_87_34_ok {X : aX} {S : rS} {g : Nat} {s0 : Int32} {m : cM} {zz : cM} {d : Nat} (hdp : 0 ≤ d) (hd : j_87_34 g s0 m = some zz) : aWp X d 87 34 [some (.ref 1), none] [.int s0] (hr m S) (fun w h' => w = none ∧ h' = hr zz S) := by
  unfold j_87_34 at hd
  refine wp_s 35 [some (.ref 1), some (.int s0)] [] _ i_87_34 rfl ?_
  refine wp_s 36 [some (.ref 1), some (.int s0)] [.ref 1] _ i_87_35 rfl ?_
  refine hm_get (w := .ref 2) 39 rfl i_87_36 (cb rfl) kk_1 rfl ?_
  refine wp_s 40 [some (.ref 1), some (.int s0)] [.ref 1, .ref 2] _ i_87_39 rfl ?_
  refine hm_get (w := .int (m.1 1 2)) 43 rfl i_87_40 (cb rfl) kk_1 rfl ?_
  obtain ⟨k_1, hd⟩ := dk_if hd
  refine hm_bald 44 rfl i_87_43 (by decide) (cb rfl) kk_2 k_1 ?_
  by_cases c_2 : (m.1 2 (m.1 1 2).toNatClampNeg) = (37 : Int32)
  · rw [if_pos c_2] at hd
    refine hp_lsw 207 i_87_44 (by rw [c_2]; decide) ?_
    refine wp_s 208 [some (.ref 1), some (.int s0)] [.ref 1] _ i_87_207 rfl ?_
    refine wp_s 210 [some (.ref 1), some (.int s0)] [.int (30 : Int32), .ref 1] _ i_87_208 rfl ?_
    obtain ⟨mm_3, q_4, hd⟩ := dk_bind hd
    refine hm_put 213 rfl i_87_210 (cb rfl) kk_1 (fun _ _ => rfl) (fun _ _ => Nat.le_of_ble_eq_true rfl) rfl ?_
    rw [Option.some.inj q_4]
    refine wp_s 267 [some (.ref 1), some (.int s0)] [] _ i_87_213 rfl ?_
    exact aWp.forget (j_87_267_ok hdp hd) (lvS (lvS lvE))
  rw [if_neg c_2] at hd
  by_cases c_5 : (m.1 2 (m.1 1 2).toNatClampNeg) = (42 : Int32)
  · rw [if_pos c_5] at hd
    refine hp_lsw 189 i_87_44 (by rw [c_5]; decide) ?_
    refine wp_s 190 [some (.ref 1), some (.int s0)] [.ref 1] _ i_87_189 rfl ?_
    refine wp_s 192 [some (.ref 1), some (.int s0)] [.int (28 : Int32), .ref 1] _ i_87_190 rfl ?_
    obtain ⟨mm_6, q_7, hd⟩ := dk_bind hd
    refine hm_put 195 rfl i_87_192 (cb rfl) kk_1 (fun _ _ => rfl) (fun _ _ => Nat.le_of_ble_eq_true rfl) rfl ?_
    rw [Option.some.inj q_7]
    refine wp_s 267 [some (.ref 1), some (.int s0)] [] _ i_87_195 rfl ?_
    exact aWp.forget (j_87_267_ok hdp hd) (lvS (lvS lvE))
  rw [if_neg c_5] at hd
  by_cases c_8 : (m.1 2 (m.1 1 2).toNatClampNeg) = (43 : Int32)
  · rw [if_pos c_8] at hd
    refine hp_lsw 171 i_87_44 (by rw [c_8]; decide) ?_
    refine wp_s 172 [some (.ref 1), some (.int s0)] [.ref 1] _ i_87_171 rfl ?_
    refine wp_s 174 [some (.ref 1), some (.int s0)] [.int (26 : Int32), .ref 1] _ i_87_172 rfl ?_
    obtain ⟨mm_9, q_10, hd⟩ := dk_bind hd
    refine hm_put 177 rfl i_87_174 (cb rfl) kk_1 (fun _ _ => rfl) (fun _ _ => Nat.le_of_ble_eq_true rfl) rfl ?_
    rw [Option.some.inj q_10]
    refine wp_s 267 [some (.ref 1), some (.int s0)] [] _ i_87_177 rfl ?_
    exact aWp.forget (j_87_267_ok hdp hd) (lvS (lvS lvE))
  rw [if_neg c_8] at hd
  by_cases c_11 : (m.1 2 (m.1 1 2).toNatClampNeg) = (45 : Int32)
  · rw [if_pos c_11] at hd
    refine hp_lsw 180 i_87_44 (by rw [c_11]; decide) ?_
    refine wp_s 181 [some (.ref 1), some (.int s0)] [.ref 1] _ i_87_180 rfl ?_
    refine wp_s 183 [some (.ref 1), some (.int s0)] [.int (27 : Int32), .ref 1] _ i_87_181 rfl ?_
    obtain ⟨mm_12, q_13, hd⟩ := dk_bind hd
    refine hm_put 186 rfl i_87_183 (cb rfl) kk_1 (fun _ _ => rfl) (fun _ _ => Nat.le_of_ble_eq_true rfl) rfl ?_
    rw [Option.some.inj q_13]
    refine wp_s 267 [some (.ref 1), some (.int s0)] [] _ i_87_186 rfl ?_
    exact aWp.forget (j_87_267_ok hdp hd) (lvS (lvS lvE))
  rw [if_neg c_11] at hd
  by_cases c_14 : (m.1 2 (m.1 1 2).toNatClampNeg) = (47 : Int32)
  · rw [if_pos c_14] at hd
    refine hp_lsw 198 i_87_44 (by rw [c_14]; decide) ?_
    refine wp_s 199 [some (.ref 1), some (.int s0)] [.ref 1] _ i_87_198 rfl ?_
    refine wp_s 201 [some (.ref 1), some (.int s0)] [.int (29 : Int32), .ref 1] _ i_87_199 rfl ?_
    obtain ⟨mm_15, q_16, hd⟩ := dk_bind hd
    refine hm_put 204 rfl i_87_201 (cb rfl) kk_1 (fun _ _ => rfl) (fun _ _ => Nat.le_of_ble_eq_true rfl) rfl ?_
    rw [Option.some.inj q_16]
    refine wp_s 267 [some (.ref 1), some (.int s0)] [] _ i_87_204 rfl ?_
    exact aWp.forget (j_87_267_ok hdp hd) (lvS (lvS lvE))
  rw [if_neg c_14] at hd
  by_cases c_17 : (m.1 2 (m.1 1 2).toNatClampNeg) = (59 : Int32)
  · rw [if_pos c_17] at hd
    refine hp_lsw 144 i_87_44 (by rw [c_17]; decide) ?_
    refine wp_s 145 [some (.ref 1), some (.int s0)] [.ref 1] _ i_87_144 rfl ?_
    refine wp_s 147 [some (.ref 1), some (.int s0)] [.int (23 : Int32), .ref 1] _ i_87_145 rfl ?_
    obtain ⟨mm_18, q_19, hd⟩ := dk_bind hd
    refine hm_put 150 rfl i_87_147 (cb rfl) kk_1 (fun _ _ => rfl) (fun _ _ => Nat.le_of_ble_eq_true rfl) rfl ?_
    rw [Option.some.inj q_19]
    refine wp_s 267 [some (.ref 1), some (.int s0)] [] _ i_87_150 rfl ?_
    exact aWp.forget (j_87_267_ok hdp hd) (lvS (lvS lvE))
  rw [if_neg c_17] at hd
  by_cases c_20 : (m.1 2 (m.1 1 2).toNatClampNeg) = (60 : Int32)
  · rw [if_pos c_20] at hd
    refine hp_lsw 216 i_87_44 (by rw [c_20]; decide) ?_
    refine wp_s 217 [some (.ref 1), some (.int s0)] [.ref 1] _ i_87_216 rfl ?_
    refine wp_s 218 [some (.ref 1), some (.int s0)] [.int s0, .ref 1] _ i_87_217 rfl ?_
    refine wp_if_eq 226 221 rfl rfl i_87_218 (fun c_21 => ?_) (fun c_21 => ?_)
    · rw [if_pos c_21] at hd
      refine wp_s 228 [some (.ref 1), some (.int s0)] [.int (31 : Int32), .ref 1] _ i_87_226 rfl ?_
      exact aWp.forget (j_87_228_ok hdp hd) (lvS (lvS lvE))
    · rw [if_neg c_21] at hd
      refine wp_s 223 [some (.ref 1), some (.int s0)] [.int (32 : Int32), .ref 1] _ i_87_221 rfl ?_
      refine wp_s 228 [some (.ref 1), some (.int s0)] [.int (32 : Int32), .ref 1] _ i_87_223 rfl ?_
      exact aWp.forget (j_87_228_ok hdp hd) (lvS (lvS lvE))
  rw [if_neg c_20] at hd
  by_cases c_22 : (m.1 2 (m.1 1 2).toNatClampNeg) = (61 : Int32)
  · rw [if_pos c_22] at hd
    refine hp_lsw 234 i_87_44 (by rw [c_22]; decide) ?_
    refine wp_s 235 [some (.ref 1), some (.int s0)] [.ref 1] _ i_87_234 rfl ?_
    refine wp_s 237 [some (.ref 1), some (.int s0)] [.int (33 : Int32), .ref 1] _ i_87_235 rfl ?_
    obtain ⟨mm_23, q_24, hd⟩ := dk_bind hd
    refine hm_put 240 rfl i_87_237 (cb rfl) kk_1 (fun _ _ => rfl) (fun _ _ => Nat.le_of_ble_eq_true rfl) rfl ?_
    rw [Option.some.inj q_24]
    refine wp_s 267 [some (.ref 1), some (.int s0)] [] _ i_87_240 rfl ?_
    exact aWp.forget (j_87_267_ok hdp hd) (lvS (lvS lvE))
  rw [if_neg c_22] at hd
  by_cases c_25 : (m.1 2 (m.1 1 2).toNatClampNeg) = (62 : Int32)
  · rw [if_pos c_25] at hd
    refine hp_lsw 243 i_87_44 (by rw [c_25]; decide) ?_
    refine wp_s 244 [some (.ref 1), some (.int s0)] [.ref 1] _ i_87_243 rfl ?_
    refine wp_s 245 [some (.ref 1), some (.int s0)] [.int s0, .ref 1] _ i_87_244 rfl ?_
    refine wp_if_eq 253 248 rfl rfl i_87_245 (fun c_26 => ?_) (fun c_26 => ?_)
    · rw [if_pos c_26] at hd
      refine wp_s 255 [some (.ref 1), some (.int s0)] [.int (35 : Int32), .ref 1] _ i_87_253 rfl ?_
      exact aWp.forget (j_87_255_ok hdp hd) (lvS (lvS lvE))
    · rw [if_neg c_26] at hd
      refine wp_s 250 [some (.ref 1), some (.int s0)] [.int (34 : Int32), .ref 1] _ i_87_248 rfl ?_
      refine wp_s 255 [some (.ref 1), some (.int s0)] [.int (34 : Int32), .ref 1] _ i_87_250 rfl ?_
      exact aWp.forget (j_87_255_ok hdp hd) (lvS (lvS lvE))
  rw [if_neg c_25] at hd
  by_cases c_27 : (m.1 2 (m.1 1 2).toNatClampNeg) = (91 : Int32)
  · rw [if_pos c_27] at hd
    refine hp_lsw 153 i_87_44 (by rw [c_27]; decide) ?_
    refine wp_s 154 [some (.ref 1), some (.int s0)] [.ref 1] _ i_87_153 rfl ?_
    refine wp_s 156 [some (.ref 1), some (.int s0)] [.int (24 : Int32), .ref 1] _ i_87_154 rfl ?_
    obtain ⟨mm_28, q_29, hd⟩ := dk_bind hd
    refine hm_put 159 rfl i_87_156 (cb rfl) kk_1 (fun _ _ => rfl) (fun _ _ => Nat.le_of_ble_eq_true rfl) rfl ?_
    rw [Option.some.inj q_29]
    refine wp_s 267 [some (.ref 1), some (.int s0)] [] _ i_87_159 rfl ?_
    exact aWp.forget (j_87_267_ok hdp hd) (lvS (lvS lvE))
  rw [if_neg c_27] at hd
  by_cases c_30 : (m.1 2 (m.1 1 2).toNatClampNeg) = (93 : Int32)
  · rw [if_pos c_30] at hd
    refine hp_lsw 162 i_87_44 (by rw [c_30]; decide) ?_
    refine wp_s 163 [some (.ref 1), some (.int s0)] [.ref 1] _ i_87_162 rfl ?_
    refine wp_s 165 [some (.ref 1), some (.int s0)] [.int (25 : Int32), .ref 1] _ i_87_163 rfl ?_
    obtain ⟨mm_31, q_32, hd⟩ := dk_bind hd
    refine hm_put 168 rfl i_87_165 (cb rfl) kk_1 (fun _ _ => rfl) (fun _ _ => Nat.le_of_ble_eq_true rfl) rfl ?_
    rw [Option.some.inj q_32]
    refine wp_s 267 [some (.ref 1), some (.int s0)] [] _ i_87_168 rfl ?_
    exact aWp.forget (j_87_267_ok hdp hd) (lvS (lvS lvE))
  rw [if_neg c_30] at hd
  refine hp_lsw 261 i_87_44 (by rw [lv_osw c_2 (by decide), lv_osw c_5 (by decide), lv_osw c_8 (by decide), lv_osw c_11 (by decide), lv_osw c_14 (by decide), lv_osw c_17 (by decide), lv_osw c_20 (by decide), lv_osw c_22 (by decide), lv_osw c_25 (by decide), lv_osw c_27 (by decide), lv_osw c_30 (by decide)]; rfl) ?_
  refine wp_s 262 [some (.ref 1), some (.int s0)] [.ref 1] _ i_87_261 rfl ?_
  refine wp_s 264 [some (.ref 1), some (.int s0)] [.int (22 : Int32), .ref 1] _ i_87_262 rfl ?_
  obtain ⟨mm_33, q_34, hd⟩ := dk_bind hd
  refine hm_put 267 rfl i_87_264 (cb rfl) kk_1 (fun _ _ => rfl) (fun _ _ => Nat.le_of_ble_eq_true rfl) rfl ?_
  rw [Option.some.inj q_34]
  exact aWp.forget (j_87_267_ok hdp hd) (lvS (lvS lvE))
set_option maxHeartbeats 4000000 in
set_option maxRecDepth 100000 in
theorem j_87_33_ok {X : aX} {S : rS} {g : Nat}  {m : cM} {zz : cM} {d : Nat} (hdp : 0 ≤ d) (hd : j_87_33 g  m = some zz) : aWp X d 87 33 [some (.ref 1), none] [] (hr m S) (fun w h' => w = none ∧ h' = hr zz S) := by
  unfold j_87_33 at hd
  refine wp_s 34 [some (.ref 1), none] [.int (0 : Int32)] _ i_87_33 rfl ?_
  exact aWp.forget (j_87_34_ok hdp hd) (lvS (lvN lvE))
set_option maxHeartbeats 4000000 in
set_option maxRecDepth 100000 in
theorem d_87_ok {X : aX} {S : rS} {g : Nat}  {m : cM} {zz : cM} {d : Nat} (hdp : 0 ≤ d) (hd : d_87 g  m = some zz) : aWp X d 87 0 (aEntL [.ref 1] 2) [] (hr m S) (fun w h' => w = none ∧ h' = hr zz S) := by
  unfold d_87 at hd
  refine wp_lv (l2 := [some (.ref 1), none]) rfl ?_
  refine wp_s 1 [some (.ref 1), none] [.ref 1] _ i_87_0 rfl ?_
  refine hm_get (w := .int (m.1 1 2)) 4 rfl i_87_1 (cb rfl) kk_1 rfl ?_
  refine wp_s 5 [some (.ref 1), none] [.int (1 : Int32), .int (m.1 1 2)] _ i_87_4 rfl ?_
  refine wp_s 6 [some (.ref 1), none] [.int ((m.1 1 2) + (1 : Int32))] _ i_87_5 rfl ?_
  refine wp_s 7 [some (.ref 1), none] [.ref 1, .int ((m.1 1 2) + (1 : Int32))] _ i_87_6 rfl ?_
  refine hm_get (w := .int (m.1 1 1)) 10 rfl i_87_7 (cb rfl) kk_1 rfl ?_
  refine wp_cmp_ge 33 13 rfl rfl i_87_10 (fun c_1 => ?_) (fun c_1 => ?_)
  · rw [if_pos c_1] at hd
    exact aWp.forget (j_87_33_ok hdp hd) (lvS (lvN lvE))
  · rw [if_neg c_1] at hd
    refine wp_s 14 [some (.ref 1), none] [.ref 1] _ i_87_13 rfl ?_
    refine hm_get (w := .ref 2) 17 rfl i_87_14 (cb rfl) kk_1 rfl ?_
    refine wp_s 18 [some (.ref 1), none] [.ref 1, .ref 2] _ i_87_17 rfl ?_
    refine hm_get (w := .int (m.1 1 2)) 21 rfl i_87_18 (cb rfl) kk_1 rfl ?_
    refine wp_s 22 [some (.ref 1), none] [.int (1 : Int32), .int (m.1 1 2), .ref 2] _ i_87_21 rfl ?_
    refine wp_s 23 [some (.ref 1), none] [.int ((m.1 1 2) + (1 : Int32)), .ref 2] _ i_87_22 rfl ?_
    obtain ⟨k_2, hd⟩ := dk_if hd
    refine hm_bald 24 rfl i_87_23 (by decide) (cb rfl) kk_2 k_2 ?_
    refine wp_s 26 [some (.ref 1), none] [.int (61 : Int32), .int (m.1 2 ((m.1 1 2) + (1 : Int32)).toNatClampNeg)] _ i_87_24 rfl ?_
    refine wp_cmp_ne 33 29 rfl rfl i_87_26 (fun c_3 => ?_) (fun c_3 => ?_)
    · rw [if_pos c_3] at hd
      exact aWp.forget (j_87_33_ok hdp hd) (lvS (lvN lvE))
    · rw [if_neg c_3] at hd
      refine wp_s 30 [some (.ref 1), none] [.int (1 : Int32)] _ i_87_29 rfl ?_
      refine wp_s 34 [some (.ref 1), none] [.int (1 : Int32)] _ i_87_30 rfl ?_
      exact aWp.forget (j_87_34_ok hdp hd) (lvS (lvN lvE))
set_option maxHeartbeats 4000000 in
set_option maxRecDepth 100000 in
theorem l_84_ok {X : aX} {S : rS} {g : Nat} {d : Nat} (hdp : 1 ≤ d) : ∀ n, (∀  (m : cM) (zz : cM), l_84 g n 0  m = some zz → aWp X d 84 0 [some (.ref 1)] [] (hr m S) (fun w h' => w = none ∧ h' = hr zz S)) ∧ (∀  (m : cM) (zz : cM), l_84 g n 1  m = some zz → aWp X d 84 38 [some (.ref 1)] [] (hr m S) (fun w h' => w = none ∧ h' = hr zz S)) ∧ (∀  (m : cM) (zz : cM), l_84 g n 2  m = some zz → aWp X d 84 101 [some (.ref 1)] [] (hr m S) (fun w h' => w = none ∧ h' = hr zz S)) ∧ (∀  (m : cM) (zz : cM), l_84 g n 3  m = some zz → aWp X d 84 136 [some (.ref 1)] [] (hr m S) (fun w h' => w = none ∧ h' = hr zz S)) := by
  intro n
  induction n with
  | zero => exact ⟨fun _ _ hd => by simp [l_84] at hd, fun _ _ hd => by simp [l_84] at hd, fun _ _ hd => by simp [l_84] at hd, fun _ _ hd => by simp [l_84] at hd⟩
  | succ n ih =>
    refine ⟨?_, ?_, ?_, ?_⟩
    · intro  m zz hd
      unfold l_84 at hd
      rw [if_pos rfl] at hd
      obtain ⟨e, rfl⟩ : ∃ e, d = e + 1 := ⟨d - 1, by omega⟩
      refine wp_s 1 [some (.ref 1)] [.ref 1] _ i_84_0 rfl ?_
      refine hm_get (w := .int (m.1 1 2)) 4 rfl i_84_1 (cb rfl) kk_1 rfl ?_
      refine wp_s 5 [some (.ref 1)] [.ref 1, .int (m.1 1 2)] _ i_84_4 rfl ?_
      refine hm_get (w := .int (m.1 1 1)) 8 rfl i_84_5 (cb rfl) kk_1 rfl ?_
      refine wp_cmp_ge 38 11 rfl rfl i_84_8 (fun c_1 => ?_) (fun c_1 => ?_)
      · rw [if_pos c_1] at hd
        exact aWp.forget (ih.2.1 _ _ hd) (lvS lvE)
      · rw [if_neg c_1] at hd
        refine wp_s 12 [some (.ref 1)] [.ref 1] _ i_84_11 rfl ?_
        refine hm_get (w := .ref 2) 15 rfl i_84_12 (cb rfl) kk_1 rfl ?_
        refine wp_s 16 [some (.ref 1)] [.ref 1, .ref 2] _ i_84_15 rfl ?_
        refine hm_get (w := .int (m.1 1 2)) 19 rfl i_84_16 (cb rfl) kk_1 rfl ?_
        obtain ⟨k_2, hd⟩ := dk_if hd
        refine hm_bald 20 rfl i_84_19 (by decide) (cb rfl) kk_2 k_2 ?_
        refine wp_s 22 [some (.ref 1)] [.int (32 : Int32), .int (m.1 2 (m.1 1 2).toNatClampNeg)] _ i_84_20 rfl ?_
        refine wp_cmp_ne 38 25 rfl rfl i_84_22 (fun c_3 => ?_) (fun c_3 => ?_)
        · rw [if_pos c_3] at hd
          exact aWp.forget (ih.2.1 _ _ hd) (lvS lvE)
        · rw [if_neg c_3] at hd
          refine wp_s 26 [some (.ref 1)] [.ref 1] _ i_84_25 rfl ?_
          refine wp_s 27 [some (.ref 1)] [.ref 1, .ref 1] _ i_84_26 rfl ?_
          refine hm_get (w := .int (m.1 1 2)) 30 rfl i_84_27 (cb rfl) kk_1 rfl ?_
          refine wp_s 31 [some (.ref 1)] [.int (1 : Int32), .int (m.1 1 2), .ref 1] _ i_84_30 rfl ?_
          refine wp_s 32 [some (.ref 1)] [.int ((m.1 1 2) + (1 : Int32)), .ref 1] _ i_84_31 rfl ?_
          obtain ⟨mm_4, q_5, hd⟩ := dk_bind hd
          refine hm_put 35 rfl i_84_32 (cb rfl) kk_1 (fun _ _ => rfl) (fun _ _ => Nat.le_of_ble_eq_true rfl) rfl ?_
          rw [Option.some.inj q_5]
          refine wp_s 0 [some (.ref 1)] [] _ i_84_35 rfl ?_
          exact aWp.forget (ih.1 _ _ hd) (lvS lvE)
    · intro  m zz hd
      unfold l_84 at hd
      rw [if_neg (by decide), if_pos rfl] at hd
      obtain ⟨e, rfl⟩ : ∃ e, d = e + 1 := ⟨d - 1, by omega⟩
      refine wp_s 39 [some (.ref 1)] [.ref 1] _ i_84_38 rfl ?_
      refine wp_s 40 [some (.ref 1)] [.ref 1, .ref 1] _ i_84_39 rfl ?_
      refine hm_get (w := .int (m.1 1 2)) 43 rfl i_84_40 (cb rfl) kk_1 rfl ?_
      obtain ⟨mm_6, q_7, hd⟩ := dk_bind hd
      refine hm_put 46 rfl i_84_43 (cb rfl) kk_1 (fun _ _ => rfl) (fun _ _ => Nat.le_of_ble_eq_true rfl) rfl ?_
      rw [Option.some.inj q_7]
      refine wp_s 47 [some (.ref 1)] [.ref 1] _ i_84_46 rfl ?_
      refine hm_get (w := .int (mm_6.1 1 2)) 50 rfl i_84_47 (cb rfl) kk_1 rfl ?_
      refine wp_s 51 [some (.ref 1)] [.ref 1, .int (mm_6.1 1 2)] _ i_84_50 rfl ?_
      refine hm_get (w := .int (mm_6.1 1 1)) 54 rfl i_84_51 (cb rfl) kk_1 rfl ?_
      refine wp_cmp_lt 66 57 rfl rfl i_84_54 (fun c_8 => ?_) (fun c_8 => ?_)
      · rw [if_pos c_8] at hd
        refine wp_s 67 [some (.ref 1)] [.ref 1] _ i_84_66 rfl ?_
        refine hm_get (w := .ref 2) 70 rfl i_84_67 (cb rfl) kk_1 rfl ?_
        refine wp_s 71 [some (.ref 1)] [.ref 1, .ref 2] _ i_84_70 rfl ?_
        refine hm_get (w := .int (mm_6.1 1 2)) 74 rfl i_84_71 (cb rfl) kk_1 rfl ?_
        obtain ⟨k_9, hd⟩ := dk_if hd
        refine hm_bald 75 rfl i_84_74 (by decide) (cb rfl) kk_2 k_9 ?_
        refine wp_s 77 [some (.ref 1)] [.int (48 : Int32), .int (mm_6.1 2 (mm_6.1 1 2).toNatClampNeg)] _ i_84_75 rfl ?_
        refine wp_cmp_lt 101 80 rfl rfl i_84_77 (fun c_10 => ?_) (fun c_10 => ?_)
        · rw [if_pos c_10] at hd
          exact aWp.forget (ih.2.2.1 _ _ hd) (lvS lvE)
        · rw [if_neg c_10] at hd
          refine wp_s 81 [some (.ref 1)] [.ref 1] _ i_84_80 rfl ?_
          refine hm_get (w := .ref 2) 84 rfl i_84_81 (cb rfl) kk_1 rfl ?_
          refine wp_s 85 [some (.ref 1)] [.ref 1, .ref 2] _ i_84_84 rfl ?_
          refine hm_get (w := .int (mm_6.1 1 2)) 88 rfl i_84_85 (cb rfl) kk_1 rfl ?_
          obtain ⟨k_11, hd⟩ := dk_if hd
          refine hm_bald 89 rfl i_84_88 (by decide) (cb rfl) kk_2 k_11 ?_
          refine wp_s 91 [some (.ref 1)] [.int (57 : Int32), .int (mm_6.1 2 (mm_6.1 1 2).toNatClampNeg)] _ i_84_89 rfl ?_
          refine wp_cmp_gt 101 94 rfl rfl i_84_91 (fun c_12 => ?_) (fun c_12 => ?_)
          · rw [if_pos c_12] at hd
            exact aWp.forget (ih.2.2.1 _ _ hd) (lvS lvE)
          · rw [if_neg c_12] at hd
            refine wp_s 95 [some (.ref 1)] [.ref 1] _ i_84_94 rfl ?_
            obtain ⟨z_13, q_14, hd⟩ := dk_bind hd
            refine wp_callV 98 rfl i_84_95 (by decide) rfl (vs := []) (rest := []) rfl rfl rfl (hm_isO (cb rfl) kk_1) (y := m_85) rfl (Nat.le_of_ble_eq_true rfl) (d_85_ok (S := S) (d := e) (by omega) q_14) ?_
            rintro v_15 h_16 ⟨rfl, rfl⟩
            refine wp_s 140 [some (.ref 1)] [] _ i_84_98 rfl ?_
            obtain rfl := Option.some.inj hd
            exact wp_ret i_84_140 rfl ⟨rfl, rfl⟩
      · rw [if_neg c_8] at hd
        refine wp_s 58 [some (.ref 1)] [.ref 1] _ i_84_57 rfl ?_
        refine wp_s 60 [some (.ref 1)] [.int (21 : Int32), .ref 1] _ i_84_58 rfl ?_
        obtain ⟨mm_17, q_18, hd⟩ := dk_bind hd
        refine hm_put 63 rfl i_84_60 (cb rfl) kk_1 (fun _ _ => rfl) (fun _ _ => Nat.le_of_ble_eq_true rfl) rfl ?_
        rw [Option.some.inj q_18]
        refine wp_s 140 [some (.ref 1)] [] _ i_84_63 rfl ?_
        obtain rfl := Option.some.inj hd
        exact wp_ret i_84_140 rfl ⟨rfl, rfl⟩
    · intro  m zz hd
      unfold l_84 at hd
      rw [if_neg (by decide), if_neg (by decide), if_pos rfl] at hd
      obtain ⟨e, rfl⟩ : ∃ e, d = e + 1 := ⟨d - 1, by omega⟩
      refine wp_s 102 [some (.ref 1)] [.ref 1] _ i_84_101 rfl ?_
      refine hm_get (w := .ref 2) 105 rfl i_84_102 (cb rfl) kk_1 rfl ?_
      refine wp_s 106 [some (.ref 1)] [.ref 1, .ref 2] _ i_84_105 rfl ?_
      refine hm_get (w := .int (m.1 1 2)) 109 rfl i_84_106 (cb rfl) kk_1 rfl ?_
      obtain ⟨k_19, hd⟩ := dk_if hd
      refine hm_bald 110 rfl i_84_109 (by decide) (cb rfl) kk_2 k_19 ?_
      refine wp_s 112 [some (.ref 1)] [.int (97 : Int32), .int (m.1 2 (m.1 1 2).toNatClampNeg)] _ i_84_110 rfl ?_
      refine wp_cmp_lt 136 115 rfl rfl i_84_112 (fun c_20 => ?_) (fun c_20 => ?_)
      · rw [if_pos c_20] at hd
        exact aWp.forget (ih.2.2.2 _ _ hd) (lvS lvE)
      · rw [if_neg c_20] at hd
        refine wp_s 116 [some (.ref 1)] [.ref 1] _ i_84_115 rfl ?_
        refine hm_get (w := .ref 2) 119 rfl i_84_116 (cb rfl) kk_1 rfl ?_
        refine wp_s 120 [some (.ref 1)] [.ref 1, .ref 2] _ i_84_119 rfl ?_
        refine hm_get (w := .int (m.1 1 2)) 123 rfl i_84_120 (cb rfl) kk_1 rfl ?_
        obtain ⟨k_21, hd⟩ := dk_if hd
        refine hm_bald 124 rfl i_84_123 (by decide) (cb rfl) kk_2 k_21 ?_
        refine wp_s 126 [some (.ref 1)] [.int (122 : Int32), .int (m.1 2 (m.1 1 2).toNatClampNeg)] _ i_84_124 rfl ?_
        refine wp_cmp_gt 136 129 rfl rfl i_84_126 (fun c_22 => ?_) (fun c_22 => ?_)
        · rw [if_pos c_22] at hd
          exact aWp.forget (ih.2.2.2 _ _ hd) (lvS lvE)
        · rw [if_neg c_22] at hd
          refine wp_s 130 [some (.ref 1)] [.ref 1] _ i_84_129 rfl ?_
          obtain ⟨z_23, q_24, hd⟩ := dk_bind hd
          refine wp_callV 133 rfl i_84_130 (by decide) rfl (vs := []) (rest := []) rfl rfl rfl (hm_isO (cb rfl) kk_1) (y := m_86) rfl (Nat.le_of_ble_eq_true rfl) (d_86_ok (S := S) (d := e) (by omega) q_24) ?_
          rintro v_25 h_26 ⟨rfl, rfl⟩
          refine wp_s 140 [some (.ref 1)] [] _ i_84_133 rfl ?_
          obtain rfl := Option.some.inj hd
          exact wp_ret i_84_140 rfl ⟨rfl, rfl⟩
    · intro  m zz hd
      unfold l_84 at hd
      rw [if_neg (by decide), if_neg (by decide), if_neg (by decide), if_pos rfl] at hd
      obtain ⟨e, rfl⟩ : ∃ e, d = e + 1 := ⟨d - 1, by omega⟩
      refine wp_s 137 [some (.ref 1)] [.ref 1] _ i_84_136 rfl ?_
      obtain ⟨z_27, q_28, hd⟩ := dk_bind hd
      refine wp_callV 140 rfl i_84_137 (by decide) rfl (vs := []) (rest := []) rfl rfl rfl (hm_isO (cb rfl) kk_1) (y := m_87) rfl (Nat.le_of_ble_eq_true rfl) (d_87_ok (S := S) (d := e) (by omega) q_28) ?_
      rintro v_29 h_30 ⟨rfl, rfl⟩
      obtain rfl := Option.some.inj hd
      exact wp_ret i_84_140 rfl ⟨rfl, rfl⟩
set_option maxHeartbeats 4000000 in
set_option maxRecDepth 100000 in
theorem d_84_ok {X : aX} {S : rS} {g : Nat}  {m : cM} {zz : cM} {d : Nat} (hdp : 1 ≤ d) (hd : d_84 g  m = some zz) : aWp X d 84 0 (aEntL [.ref 1] 1) [] (hr m S) (fun w h' => w = none ∧ h' = hr zz S) := by
  unfold d_84 at hd
  refine wp_lv (l2 := [some (.ref 1)]) rfl ?_
  obtain ⟨e, rfl⟩ : ∃ e, d = e + 1 := ⟨d - 1, by omega⟩
  exact aWp.forget ((l_84_ok hdp g).1 _ _ hd) (lvS lvE)
set_option maxHeartbeats 4000000 in
set_option maxRecDepth 100000 in
theorem j_51_80_ok {X : aX} {S : rS} {g : Nat} {x1 : Int32} {s0 : Int32} {m : cM} {zz : cM} {d : Nat} (hdp : 2 ≤ d) (hd : j_51_80 g x1 s0 m = some zz) : aWp X d 51 80 [some (.ref 4), some (.int x1)] [.int s0, .ref 4] (hr m S) (fun w h' => w = none ∧ h' = hr zz S) := by
  unfold j_51_80 at hd
  obtain ⟨e, rfl⟩ : ∃ e, d = e + 1 := ⟨d - 1, by omega⟩
  obtain ⟨z_1, q_2, hd⟩ := dk_bind hd
  refine wp_callV 83 rfl i_51_80 (by decide) rfl (vs := [.int s0]) (rest := []) rfl rfl rfl (hm_isO (cb rfl) kk_4) (y := m_53) rfl (Nat.le_of_ble_eq_true rfl) (d_53_ok (S := S) (d := e) (by omega) q_2) ?_
  rintro v_3 h_4 ⟨rfl, rfl⟩
  refine wp_s 84 [some (.ref 4), some (.int x1)] [.ref 4] _ i_51_83 rfl ?_
  refine hm_get (w := .ref 1) 87 rfl i_51_84 (cb rfl) kk_4 rfl ?_
  obtain ⟨z_5, q_6, hd⟩ := dk_bind hd
  refine wp_callV 90 rfl i_51_87 (by decide) rfl (vs := []) (rest := []) rfl rfl rfl (hm_isO (cb rfl) kk_1) (y := m_84) rfl (Nat.le_of_ble_eq_true rfl) (d_84_ok (S := S) (d := e) (by omega) q_6) ?_
  rintro v_7 h_8 ⟨rfl, rfl⟩
  obtain rfl := Option.some.inj hd
  exact wp_ret i_51_90 rfl ⟨rfl, rfl⟩
set_option maxHeartbeats 4000000 in
set_option maxRecDepth 100000 in
theorem j_51_56_ok {X : aX} {S : rS} {g : Nat} {x1 : Int32} {m : cM} {zz : cM} {d : Nat} (hdp : 2 ≤ d) (hd : j_51_56 g x1 m = some zz) : aWp X d 51 56 [some (.ref 4), some (.int x1)] [] (hr m S) (fun w h' => w = none ∧ h' = hr zz S) := by
  unfold j_51_56 at hd
  obtain ⟨e, rfl⟩ : ∃ e, d = e + 1 := ⟨d - 1, by omega⟩
  refine wp_s 57 [some (.ref 4), some (.int x1)] [.ref 4] _ i_51_56 rfl ?_
  obtain ⟨z_1, q_2, hd⟩ := dk_bind hd
  refine wp_callV 60 rfl i_51_57 (by decide) rfl (vs := []) (rest := []) rfl rfl rfl (hm_isO (cb rfl) kk_4) (y := m_52) rfl (Nat.le_of_ble_eq_true rfl) (d_52_ok (S := S) (d := e) (by omega) q_2) ?_
  rintro v_3 h_4 ⟨rfl, rfl⟩
  refine wp_s 61 [some (.ref 4), some (.int x1)] [.ref 4] _ i_51_60 rfl ?_
  refine wp_s 62 [some (.ref 4), some (.int x1)] [.int x1, .ref 4] _ i_51_61 rfl ?_
  refine wp_s 64 [some (.ref 4), some (.int x1)] [.int (20 : Int32), .int x1, .ref 4] _ i_51_62 rfl ?_
  refine wp_cmp_ne 77 67 rfl rfl i_51_64 (fun c_5 => ?_) (fun c_5 => ?_)
  · rw [if_pos c_5] at hd
    refine wp_s 78 [some (.ref 4), some (.int x1)] [.int (-1 : Int32), .ref 4] _ i_51_77 rfl ?_
    refine wp_s 79 [some (.ref 4), some (.int x1)] [.int x1, .int (-1 : Int32), .ref 4] _ i_51_78 rfl ?_
    refine wp_s 80 [some (.ref 4), some (.int x1)] [.int ((-1 : Int32) - x1), .ref 4] _ i_51_79 rfl ?_
    exact aWp.forget (j_51_80_ok hdp hd) (lvS (lvS lvE))
  · rw [if_neg c_5] at hd
    refine wp_s 68 [some (.ref 4), some (.int x1)] [.ref 4, .ref 4] _ i_51_67 rfl ?_
    refine hm_get (w := .ref 1) 71 rfl i_51_68 (cb rfl) kk_4 rfl ?_
    refine hm_get (w := .int (z_1.1 1 5)) 74 rfl i_51_71 (cb rfl) kk_1 rfl ?_
    refine wp_s 80 [some (.ref 4), some (.int x1)] [.int (z_1.1 1 5), .ref 4] _ i_51_74 rfl ?_
    exact aWp.forget (j_51_80_ok hdp hd) (lvS (lvS lvE))
set_option maxHeartbeats 4000000 in
set_option maxRecDepth 100000 in
theorem j_51_29_ok {X : aX} {S : rS} {g : Nat} {x1 : Int32} {m : cM} {zz : cM} {d : Nat} (hdp : 2 ≤ d) (hd : j_51_29 g x1 m = some zz) : aWp X d 51 29 [some (.ref 4), some (.int x1)] [] (hr m S) (fun w h' => w = none ∧ h' = hr zz S) := by
  unfold j_51_29 at hd
  obtain ⟨e, rfl⟩ : ∃ e, d = e + 1 := ⟨d - 1, by omega⟩
  refine wp_s 30 [some (.ref 4), some (.int x1)] [.int x1] _ i_51_29 rfl ?_
  refine wp_s 32 [some (.ref 4), some (.int x1)] [.int (20 : Int32), .int x1] _ i_51_30 rfl ?_
  refine wp_cmp_ne 56 35 rfl rfl i_51_32 (fun c_1 => ?_) (fun c_1 => ?_)
  · rw [if_pos c_1] at hd
    exact aWp.forget (j_51_56_ok hdp hd) (lvS (lvS lvE))
  · rw [if_neg c_1] at hd
    refine wp_s 36 [some (.ref 4), some (.int x1)] [.ref 4] _ i_51_35 rfl ?_
    refine hm_get (w := .ref 1) 39 rfl i_51_36 (cb rfl) kk_4 rfl ?_
    refine hm_get (w := .int (m.1 1 5)) 42 rfl i_51_39 (cb rfl) kk_1 rfl ?_
    refine wp_s 44 [some (.ref 4), some (.int x1)] [.int (99999 : Int32), .int (m.1 1 5)] _ i_51_42 rfl ?_
    refine wp_cmp_le 56 47 rfl rfl i_51_44 (fun c_2 => ?_) (fun c_2 => ?_)
    · rw [if_pos c_2] at hd
      exact aWp.forget (j_51_56_ok hdp hd) (lvS (lvS lvE))
    · rw [if_neg c_2] at hd
      refine wp_s 48 [some (.ref 4), some (.int x1)] [.ref 4] _ i_51_47 rfl ?_
      refine hm_get (w := .ref 1) 51 rfl i_51_48 (cb rfl) kk_4 rfl ?_
      refine wp_s 52 [some (.ref 4), some (.int x1)] [.int (1 : Int32), .ref 1] _ i_51_51 rfl ?_
      obtain ⟨z_3, q_4, hd⟩ := dk_bind hd
      refine wp_callV 55 rfl i_51_52 (by decide) rfl (vs := [.int (1 : Int32)]) (rest := []) rfl rfl rfl (hm_isO (cb rfl) kk_1) (y := m_83) rfl (Nat.le_of_ble_eq_true rfl) (d_83_ok (S := S) (d := e) (by omega) q_4) ?_
      rintro v_5 h_6 ⟨rfl, rfl⟩
      obtain rfl := Option.some.inj hd
      exact wp_ret i_51_55 rfl ⟨rfl, rfl⟩
set_option maxHeartbeats 4000000 in
set_option maxRecDepth 100000 in
theorem d_51_ok {X : aX} {S : rS} {g : Nat}  {m : cM} {zz : cM} {d : Nat} (hdp : 2 ≤ d) (hd : d_51 g  m = some zz) : aWp X d 51 0 (aEntL [.ref 4] 2) [] (hr m S) (fun w h' => w = none ∧ h' = hr zz S) := by
  unfold d_51 at hd
  refine wp_lv (l2 := [some (.ref 4), none]) rfl ?_
  obtain ⟨e, rfl⟩ : ∃ e, d = e + 1 := ⟨d - 1, by omega⟩
  refine wp_s 1 [some (.ref 4), none] [.ref 4] _ i_51_0 rfl ?_
  refine hm_get (w := .ref 1) 4 rfl i_51_1 (cb rfl) kk_4 rfl ?_
  refine hm_get (w := .int (m.1 1 3)) 7 rfl i_51_4 (cb rfl) kk_1 rfl ?_
  refine wp_s 8 [some (.ref 4), some (.int (m.1 1 3))] [] _ i_51_7 rfl ?_
  refine wp_s 9 [some (.ref 4), some (.int (m.1 1 3))] [.int (m.1 1 3)] _ i_51_8 rfl ?_
  refine wp_s 11 [some (.ref 4), some (.int (m.1 1 3))] [.int (20 : Int32), .int (m.1 1 3)] _ i_51_9 rfl ?_
  refine wp_cmp_eq 29 14 rfl rfl i_51_11 (fun c_1 => ?_) (fun c_1 => ?_)
  · rw [if_pos c_1] at hd
    exact aWp.forget (j_51_29_ok hdp hd) (lvS (lvS lvE))
  · rw [if_neg c_1] at hd
    refine wp_s 15 [some (.ref 4), some (.int (m.1 1 3))] [.int (m.1 1 3)] _ i_51_14 rfl ?_
    refine wp_s 17 [some (.ref 4), some (.int (m.1 1 3))] [.int (8 : Int32), .int (m.1 1 3)] _ i_51_15 rfl ?_
    refine wp_cmp_lt 29 20 rfl rfl i_51_17 (fun c_2 => ?_) (fun c_2 => ?_)
    · rw [if_pos c_2] at hd
      exact aWp.forget (j_51_29_ok hdp hd) (lvS (lvS lvE))
    · rw [if_neg c_2] at hd
      refine wp_s 21 [some (.ref 4), some (.int (m.1 1 3))] [.ref 4] _ i_51_20 rfl ?_
      refine hm_get (w := .ref 1) 24 rfl i_51_21 (cb rfl) kk_4 rfl ?_
      refine wp_s 25 [some (.ref 4), some (.int (m.1 1 3))] [.int (0 : Int32), .ref 1] _ i_51_24 rfl ?_
      obtain ⟨z_3, q_4, hd⟩ := dk_bind hd
      refine wp_callV 28 rfl i_51_25 (by decide) rfl (vs := [.int (0 : Int32)]) (rest := []) rfl rfl rfl (hm_isO (cb rfl) kk_1) (y := m_83) rfl (Nat.le_of_ble_eq_true rfl) (d_83_ok (S := S) (d := e) (by omega) q_4) ?_
      rintro v_5 h_6 ⟨rfl, rfl⟩
      obtain rfl := Option.some.inj hd
      exact wp_ret i_51_28 rfl ⟨rfl, rfl⟩
set_option maxHeartbeats 4000000 in
set_option maxRecDepth 100000 in
theorem l_50_ok {X : aX} {S : rS} {g : Nat} {sf50 : Int32 → cM → Option cM} {e : Nat} (hdp : 2 ≤ e) (hs50 : ∀ (x1 : Int32) (m zz : cM), sf50 x1 m = some zz → aWp X e 50 0 (aEntL [.ref 4, .int x1] 6) [] (hr m S) (fun w h' => w = none ∧ h' = hr zz S)) : ∀ n, (∀ (x1 : Int32) (s0 : Int32) (x2 : Int32) (x3 : Int32) (x4 : Int32) (m : cM) (zz : cM), l_50 sf50 g n 0 x1 s0 x2 x3 x4 m = some zz → aWp X (e + 1) 50 21 [some (.ref 4), some (.int x1), none, none, none, none] [.int s0] (hr m S) (fun w h' => w = none ∧ h' = hr zz S)) ∧ (∀ (x1 : Int32) (s0 : Int32) (x2 : Int32) (x3 : Int32) (x4 : Int32) (m : cM) (zz : cM), l_50 sf50 g n 1 x1 s0 x2 x3 x4 m = some zz → aWp X (e + 1) 50 33 [some (.ref 4), some (.int x1), some (.int x2), none, none, none] [.int s0] (hr m S) (fun w h' => w = none ∧ h' = hr zz S)) ∧ (∀ (x1 : Int32) (s0 : Int32) (x2 : Int32) (x3 : Int32) (x4 : Int32) (m : cM) (zz : cM), l_50 sf50 g n 2 x1 s0 x2 x3 x4 m = some zz → aWp X (e + 1) 50 44 [some (.ref 4), some (.int x1), some (.int x2), some (.int x3), some (.int x4), none] [] (hr m S) (fun w h' => w = none ∧ h' = hr zz S)) := by
  intro n
  induction n with
  | zero => exact ⟨fun _ _ _ _ _ _ _ hd => by simp [l_50] at hd, fun _ _ _ _ _ _ _ hd => by simp [l_50] at hd, fun _ _ _ _ _ _ _ hd => by simp [l_50] at hd⟩
  | succ n ih =>
    refine ⟨?_, ?_, ?_⟩
    · intro x1 s0 x2 x3 x4 m zz hd
      unfold l_50 at hd
      rw [if_pos rfl] at hd
      refine wp_s 22 [some (.ref 4), some (.int x1), some (.int s0), none, none, none] [] _ i_50_21 rfl ?_
      refine wp_s 23 [some (.ref 4), some (.int x1), some (.int s0), none, none, none] [.int x1] _ i_50_22 rfl ?_
      refine wp_if_ne 31 26 rfl rfl i_50_23 (fun c_1 => ?_) (fun c_1 => ?_)
      · rw [if_pos c_1] at hd
        refine wp_s 33 [some (.ref 4), some (.int x1), some (.int s0), none, none, none] [.int (30 : Int32)] _ i_50_31 rfl ?_
        exact aWp.forget (ih.2.1 _ _ _ _ _ _ _ hd) (lvS (lvS (lvS (lvN (lvN (lvN lvE))))))
      · rw [if_neg c_1] at hd
        refine wp_s 28 [some (.ref 4), some (.int x1), some (.int s0), none, none, none] [.int (27 : Int32)] _ i_50_26 rfl ?_
        refine wp_s 33 [some (.ref 4), some (.int x1), some (.int s0), none, none, none] [.int (27 : Int32)] _ i_50_28 rfl ?_
        exact aWp.forget (ih.2.1 _ _ _ _ _ _ _ hd) (lvS (lvS (lvS (lvN (lvN (lvN lvE))))))
    · intro x1 s0 x2 x3 x4 m zz hd
      unfold l_50 at hd
      rw [if_neg (by decide), if_pos rfl] at hd
      refine wp_s 34 [some (.ref 4), some (.int x1), some (.int x2), some (.int s0), none, none] [] _ i_50_33 rfl ?_
      refine wp_s 35 [some (.ref 4), some (.int x1), some (.int x2), some (.int s0), none, none] [.ref 4] _ i_50_34 rfl ?_
      refine wp_s 36 [some (.ref 4), some (.int x1), some (.int x2), some (.int s0), none, none] [.int x1, .ref 4] _ i_50_35 rfl ?_
      refine wp_s 37 [some (.ref 4), some (.int x1), some (.int x2), some (.int s0), none, none] [.int (1 : Int32), .int x1, .ref 4] _ i_50_36 rfl ?_
      refine wp_s 38 [some (.ref 4), some (.int x1), some (.int x2), some (.int s0), none, none] [.int (x1 + (1 : Int32)), .ref 4] _ i_50_37 rfl ?_
      obtain ⟨z_2, q_3, hd⟩ := dk_bind hd
      refine wp_callV 41 rfl i_50_38 (by decide) rfl (vs := [.int (x1 + (1 : Int32))]) (rest := []) rfl rfl rfl (hm_isO (cb rfl) kk_4) (y := m_50) rfl (Nat.le_of_ble_eq_true rfl) (hs50 _ _ _ q_3) ?_
      rintro v_4 h_5 ⟨rfl, rfl⟩
      refine wp_s 42 [some (.ref 4), some (.int x1), some (.int x2), some (.int s0), none, none] [.int (0 : Int32)] _ i_50_41 rfl ?_
      refine wp_s 44 [some (.ref 4), some (.int x1), some (.int x2), some (.int s0), some (.int (0 : Int32)), none] [] _ i_50_42 rfl ?_
      exact aWp.forget (ih.2.2 _ _ _ _ _ _ _ hd) (lvS (lvS (lvS (lvS (lvS (lvN lvE))))))
    · intro x1 s0 x2 x3 x4 m zz hd
      unfold l_50 at hd
      rw [if_neg (by decide), if_neg (by decide), if_pos rfl] at hd
      refine wp_s 46 [some (.ref 4), some (.int x1), some (.int x2), some (.int x3), some (.int x4), none] [.int x4] _ i_50_44 rfl ?_
      refine wp_s 49 [some (.ref 4), some (.int x1), some (.int x2), some (.int x3), some (.int x4), none] [.int (400 : Int32), .int x4] _ i_50_46 rfl ?_
      refine wp_cmp_ge 104 52 rfl rfl i_50_49 (fun c_6 => ?_) (fun c_6 => ?_)
      · rw [if_pos c_6] at hd
        obtain rfl := Option.some.inj hd
        exact wp_ret i_50_104 rfl ⟨rfl, rfl⟩
      · rw [if_neg c_6] at hd
        refine wp_s 53 [some (.ref 4), some (.int x1), some (.int x2), some (.int x3), some (.int x4), none] [.ref 4] _ i_50_52 rfl ?_
        refine hm_get (w := .ref 1) 56 rfl i_50_53 (cb rfl) kk_4 rfl ?_
        refine hm_get (w := .int (m.1 1 3)) 59 rfl i_50_56 (cb rfl) kk_1 rfl ?_
        refine wp_s 60 [some (.ref 4), some (.int x1), some (.int x2), some (.int x3), some (.int x4), none] [.int x2, .int (m.1 1 3)] _ i_50_59 rfl ?_
        refine wp_s 61 [some (.ref 4), some (.int x1), some (.int x2), some (.int x3), some (.int x4), none] [.int x3, .int x2, .int (m.1 1 3)] _ i_50_60 rfl ?_
        obtain ⟨z_7, q_8, hd⟩ := dk_bind hd
        refine wp_callS 64 rfl i_50_61 (by decide) (vs := [.int (m.1 1 3), .int x2, .int x3]) (rest := []) rfl rfl rfl (y := m_138) rfl (Nat.le_of_ble_eq_true rfl) (d_138_ok (S := S) (d := e) (by omega) q_8) ?_
        rintro v_9 h_10 ⟨rfl, rfl⟩
        refine wp_if_eq 104 67 rfl rfl i_50_64 (fun c_11 => ?_) (fun c_11 => ?_)
        · rw [if_pos c_11] at hd
          obtain rfl := Option.some.inj hd
          exact wp_ret i_50_104 rfl ⟨rfl, rfl⟩
        · rw [if_neg c_11] at hd
          refine wp_s 68 [some (.ref 4), some (.int x1), some (.int x2), some (.int x3), some (.int x4), none] [.ref 4] _ i_50_67 rfl ?_
          refine hm_get (w := .ref 1) 71 rfl i_50_68 (cb rfl) kk_4 rfl ?_
          refine hm_get (w := .int (m.1 1 3)) 74 rfl i_50_71 (cb rfl) kk_1 rfl ?_
          refine wp_s 76 [some (.ref 4), some (.int x1), some (.int x2), some (.int x3), some (.int x4), some (.int (m.1 1 3))] [] _ i_50_74 rfl ?_
          refine wp_s 77 [some (.ref 4), some (.int x1), some (.int x2), some (.int x3), some (.int x4), some (.int (m.1 1 3))] [.ref 4] _ i_50_76 rfl ?_
          refine hm_get (w := .ref 1) 80 rfl i_50_77 (cb rfl) kk_4 rfl ?_
          obtain ⟨z_12, q_13, hd⟩ := dk_bind hd
          refine wp_callV 83 rfl i_50_80 (by decide) rfl (vs := []) (rest := []) rfl rfl rfl (hm_isO (cb rfl) kk_1) (y := m_84) rfl (Nat.le_of_ble_eq_true rfl) (d_84_ok (S := S) (d := e) (by omega) q_13) ?_
          rintro v_14 h_15 ⟨rfl, rfl⟩
          refine wp_s 84 [some (.ref 4), some (.int x1), some (.int x2), some (.int x3), some (.int x4), some (.int (m.1 1 3))] [.ref 4] _ i_50_83 rfl ?_
          refine wp_s 85 [some (.ref 4), some (.int x1), some (.int x2), some (.int x3), some (.int x4), some (.int (m.1 1 3))] [.int x1, .ref 4] _ i_50_84 rfl ?_
          refine wp_s 86 [some (.ref 4), some (.int x1), some (.int x2), some (.int x3), some (.int x4), some (.int (m.1 1 3))] [.int (1 : Int32), .int x1, .ref 4] _ i_50_85 rfl ?_
          refine wp_s 87 [some (.ref 4), some (.int x1), some (.int x2), some (.int x3), some (.int x4), some (.int (m.1 1 3))] [.int (x1 + (1 : Int32)), .ref 4] _ i_50_86 rfl ?_
          obtain ⟨z_16, q_17, hd⟩ := dk_bind hd
          refine wp_callV 90 rfl i_50_87 (by decide) rfl (vs := [.int (x1 + (1 : Int32))]) (rest := []) rfl rfl rfl (hm_isO (cb rfl) kk_4) (y := m_50) rfl (Nat.le_of_ble_eq_true rfl) (hs50 _ _ _ q_17) ?_
          rintro v_18 h_19 ⟨rfl, rfl⟩
          refine wp_s 91 [some (.ref 4), some (.int x1), some (.int x2), some (.int x3), some (.int x4), some (.int (m.1 1 3))] [.ref 4] _ i_50_90 rfl ?_
          refine wp_s 92 [some (.ref 4), some (.int x1), some (.int x2), some (.int x3), some (.int x4), some (.int (m.1 1 3))] [.int (-1 : Int32), .ref 4] _ i_50_91 rfl ?_
          refine wp_s 94 [some (.ref 4), some (.int x1), some (.int x2), some (.int x3), some (.int x4), some (.int (m.1 1 3))] [.int (m.1 1 3), .int (-1 : Int32), .ref 4] _ i_50_92 rfl ?_
          refine wp_s 95 [some (.ref 4), some (.int x1), some (.int x2), some (.int x3), some (.int x4), some (.int (m.1 1 3))] [.int ((-1 : Int32) - (m.1 1 3)), .ref 4] _ i_50_94 rfl ?_
          obtain ⟨z_20, q_21, hd⟩ := dk_bind hd
          refine wp_callV 98 rfl i_50_95 (by decide) rfl (vs := [.int ((-1 : Int32) - (m.1 1 3))]) (rest := []) rfl rfl rfl (hm_isO (cb rfl) kk_4) (y := m_53) rfl (Nat.le_of_ble_eq_true rfl) (d_53_ok (S := S) (d := e) (by omega) q_21) ?_
          rintro v_22 h_23 ⟨rfl, rfl⟩
          refine wp_s 101 [some (.ref 4), some (.int x1), some (.int x2), some (.int x3), some (.int (x4 + (1 : Int32))), some (.int (m.1 1 3))] [] _ i_50_98 rfl ?_
          refine wp_s 44 [some (.ref 4), some (.int x1), some (.int x2), some (.int x3), some (.int (x4 + (1 : Int32))), some (.int (m.1 1 3))] [] _ i_50_101 rfl ?_
          exact aWp.forget (ih.2.2 _ _ _ _ _ _ _ hd) (lvS (lvS (lvS (lvS (lvS (lvN lvE))))))
set_option maxHeartbeats 4000000 in
set_option maxRecDepth 100000 in
theorem t_50_ok {X : aX} {S : rS} {g : Nat} {sf50 : Int32 → cM → Option cM} {x1 : Int32} {m : cM} {zz : cM} {e : Nat} (hdp : 2 ≤ e) (hs50 : ∀ (x1 : Int32) (m zz : cM), sf50 x1 m = some zz → aWp X e 50 0 (aEntL [.ref 4, .int x1] 6) [] (hr m S) (fun w h' => w = none ∧ h' = hr zz S)) (hd : t_50 sf50 g x1 m = some zz) : aWp X (e + 1) 50 0 (aEntL [.ref 4, .int x1] 6) [] (hr m S) (fun w h' => w = none ∧ h' = hr zz S) := by
  unfold t_50 at hd
  refine wp_lv (l2 := [some (.ref 4), some (.int x1), none, none, none, none]) rfl ?_
  refine wp_s 1 [some (.ref 4), some (.int x1), none, none, none, none] [.int x1] _ i_50_0 rfl ?_
  refine wp_s 2 [some (.ref 4), some (.int x1), none, none, none, none] [.int (1 : Int32), .int x1] _ i_50_1 rfl ?_
  refine wp_cmp_le 10 5 rfl rfl i_50_2 (fun c_1001 => ?_) (fun c_1001 => ?_)
  · rw [if_pos c_1001] at hd
    refine wp_s 11 [some (.ref 4), some (.int x1), none, none, none, none] [.int x1] _ i_50_10 rfl ?_
    refine wp_if_ne 19 14 rfl rfl i_50_11 (fun c_1002 => ?_) (fun c_1002 => ?_)
    · rw [if_pos c_1002] at hd
      refine wp_s 21 [some (.ref 4), some (.int x1), none, none, none, none] [.int (28 : Int32)] _ i_50_19 rfl ?_
      exact aWp.forget ((l_50_ok hdp hs50 g).1 _ _ _ _ _ _ _ hd) (lvS (lvS (lvN (lvN (lvN (lvN lvE))))))
    · rw [if_neg c_1002] at hd
      refine wp_s 16 [some (.ref 4), some (.int x1), none, none, none, none] [.int (26 : Int32)] _ i_50_14 rfl ?_
      refine wp_s 21 [some (.ref 4), some (.int x1), none, none, none, none] [.int (26 : Int32)] _ i_50_16 rfl ?_
      exact aWp.forget ((l_50_ok hdp hs50 g).1 _ _ _ _ _ _ _ hd) (lvS (lvS (lvN (lvN (lvN (lvN lvE))))))
  · rw [if_neg c_1001] at hd
    refine wp_s 6 [some (.ref 4), some (.int x1), none, none, none, none] [.ref 4] _ i_50_5 rfl ?_
    obtain ⟨z_1003, q_1004, hd⟩ := dk_bind hd
    refine wp_callV 9 rfl i_50_6 (by decide) rfl (vs := []) (rest := []) rfl rfl rfl (hm_isO (cb rfl) kk_4) (y := m_51) rfl (Nat.le_of_ble_eq_true rfl) (d_51_ok (S := S) (d := e) (by omega) q_1004) ?_
    rintro v_1005 h_1006 ⟨rfl, rfl⟩
    obtain rfl := Option.some.inj hd
    exact wp_ret i_50_9 rfl ⟨rfl, rfl⟩
theorem R_50_ok {X : aX} {S : rS} {g : Nat} : ∀ n, (∀ (x1 : Int32) (m zz : cM), R_50 g n 0 x1 m = some zz → aWp X (2 + n) 50 0 (aEntL [.ref 4, .int x1] 6) [] (hr m S) (fun w h' => w = none ∧ h' = hr zz S)) := by
  intro n
  induction n with
  | zero => exact fun _ _ _ hd => by simp [R_50] at hd
  | succ n ih =>
    intro x1 m zz hd
    unfold R_50 at hd
    rw [if_pos rfl] at hd
    exact t_50_ok (e := 2 + n) (by omega) ih hd
theorem d_50_ok {X : aX} {S : rS} {g : Nat} {x1 : Int32} {m zz : cM} {d : Nat} (hdp : 7 ≤ d) (hd : d_50 g x1 m = some zz) : aWp X d 50 0 (aEntL [.ref 4, .int x1] 6) [] (hr m S) (fun w h' => w = none ∧ h' = hr zz S) := ((R_50_ok 5) _ _ _ hd).deep hdp
set_option maxHeartbeats 4000000 in
set_option maxRecDepth 100000 in
theorem j_47_36_ok {X : aX} {S : rS} {g : Nat} {sf47 : Int32 → Int32 → cM → Option cM} {sf48 : Int32 → Int32 → cM → Option cM} {sf49 : Int32 → cM → Option cM} {x1 : Int32} {x2 : Int32} {m : cM} {zz : cM} {e : Nat} (hdp : 7 ≤ e) (hs47 : ∀ (x1 : Int32) (x2 : Int32) (m zz : cM), sf47 x1 x2 m = some zz → aWp X e 47 0 (aEntL [.ref 4, .int x1, .int x2] 4) [] (hr m S) (fun w h' => w = none ∧ h' = hr zz S)) (hs48 : ∀ (x1 : Int32) (x2 : Int32) (m zz : cM), sf48 x1 x2 m = some zz → aWp X e 48 0 (aEntL [.ref 4, .int x1, .int x2] 5) [] (hr m S) (fun w h' => w = none ∧ h' = hr zz S)) (hs49 : ∀ (x1 : Int32) (m zz : cM), sf49 x1 m = some zz → aWp X e 49 0 (aEntL [.ref 4, .int x1] 2) [] (hr m S) (fun w h' => w = none ∧ h' = hr zz S)) (hd : j_47_36 sf47 sf48 sf49 g x1 x2 m = some zz) : aWp X (e + 1) 47 36 [some (.ref 4), some (.int x1), some (.int x2), none] [] (hr m S) (fun w h' => w = none ∧ h' = hr zz S) := by
  unfold j_47_36 at hd
  refine wp_s 37 [some (.ref 4), some (.int x1), some (.int x2), none] [.ref 4] _ i_47_36 rfl ?_
  refine wp_s 38 [some (.ref 4), some (.int x1), some (.int x2), none] [.int x2, .ref 4] _ i_47_37 rfl ?_
  obtain ⟨z_1, q_2, hd⟩ := dk_bind hd
  refine wp_callV 41 rfl i_47_38 (by decide) rfl (vs := [.int x2]) (rest := []) rfl rfl rfl (hm_isO (cb rfl) kk_4) (y := m_49) rfl (Nat.le_of_ble_eq_true rfl) (hs49 _ _ _ q_2) ?_
  rintro v_3 h_4 ⟨rfl, rfl⟩
  obtain rfl := Option.some.inj hd
  exact wp_ret i_47_41 rfl ⟨rfl, rfl⟩
set_option maxHeartbeats 4000000 in
set_option maxRecDepth 100000 in
theorem t_47_ok {X : aX} {S : rS} {g : Nat} {sf47 : Int32 → Int32 → cM → Option cM} {sf48 : Int32 → Int32 → cM → Option cM} {sf49 : Int32 → cM → Option cM} {x1 : Int32} {x2 : Int32} {m : cM} {zz : cM} {e : Nat} (hdp : 7 ≤ e) (hs47 : ∀ (x1 : Int32) (x2 : Int32) (m zz : cM), sf47 x1 x2 m = some zz → aWp X e 47 0 (aEntL [.ref 4, .int x1, .int x2] 4) [] (hr m S) (fun w h' => w = none ∧ h' = hr zz S)) (hs48 : ∀ (x1 : Int32) (x2 : Int32) (m zz : cM), sf48 x1 x2 m = some zz → aWp X e 48 0 (aEntL [.ref 4, .int x1, .int x2] 5) [] (hr m S) (fun w h' => w = none ∧ h' = hr zz S)) (hs49 : ∀ (x1 : Int32) (m zz : cM), sf49 x1 m = some zz → aWp X e 49 0 (aEntL [.ref 4, .int x1] 2) [] (hr m S) (fun w h' => w = none ∧ h' = hr zz S)) (hd : t_47 sf47 sf48 sf49 g x1 x2 m = some zz) : aWp X (e + 1) 47 0 (aEntL [.ref 4, .int x1, .int x2] 4) [] (hr m S) (fun w h' => w = none ∧ h' = hr zz S) := by
  unfold t_47 at hd
  refine wp_lv (l2 := [some (.ref 4), some (.int x1), some (.int x2), none]) rfl ?_
  refine wp_s 1 [some (.ref 4), some (.int x1), some (.int x2), none] [.int x1] _ i_47_0 rfl ?_
  refine wp_s 2 [some (.ref 4), some (.int x1), some (.int x2), none] [.int (2 : Int32), .int x1] _ i_47_1 rfl ?_
  refine wp_cmp_ge 12 5 rfl rfl i_47_2 (fun c_1 => ?_) (fun c_1 => ?_)
  · rw [if_pos c_1] at hd
    refine wp_s 13 [some (.ref 4), some (.int x1), some (.int x2), none] [.ref 4] _ i_47_12 rfl ?_
    refine hm_get (w := .ref 1) 16 rfl i_47_13 (cb rfl) kk_4 rfl ?_
    refine hm_get (w := .int (m.1 1 3)) 19 rfl i_47_16 (cb rfl) kk_1 rfl ?_
    refine wp_s 21 [some (.ref 4), some (.int x1), some (.int x2), none] [.int (19 : Int32), .int (m.1 1 3)] _ i_47_19 rfl ?_
    refine wp_cmp_eq 36 24 rfl rfl i_47_21 (fun c_2 => ?_) (fun c_2 => ?_)
    · rw [if_pos c_2] at hd
      exact aWp.forget (j_47_36_ok hdp hs47 hs48 hs49 hd) (lvS (lvS (lvS (lvN lvE))))
    · rw [if_neg c_2] at hd
      refine wp_s 25 [some (.ref 4), some (.int x1), some (.int x2), none] [.ref 4] _ i_47_24 rfl ?_
      refine hm_get (w := .ref 1) 28 rfl i_47_25 (cb rfl) kk_4 rfl ?_
      refine hm_get (w := .int (m.1 1 3)) 31 rfl i_47_28 (cb rfl) kk_1 rfl ?_
      refine wp_s 33 [some (.ref 4), some (.int x1), some (.int x2), none] [.int (24 : Int32), .int (m.1 1 3)] _ i_47_31 rfl ?_
      refine wp_cmp_ne 42 36 rfl rfl i_47_33 (fun c_3 => ?_) (fun c_3 => ?_)
      · rw [if_pos c_3] at hd
        refine wp_s 43 [some (.ref 4), some (.int x1), some (.int x2), none] [.ref 4] _ i_47_42 rfl ?_
        refine wp_s 44 [some (.ref 4), some (.int x1), some (.int x2), none] [.int (0 : Int32), .ref 4] _ i_47_43 rfl ?_
        obtain ⟨z_4, q_5, hd⟩ := dk_bind hd
        refine wp_callV 47 rfl i_47_44 (by decide) rfl (vs := [.int (0 : Int32)]) (rest := []) rfl rfl rfl (hm_isO (cb rfl) kk_4) (y := m_50) rfl (Nat.le_of_ble_eq_true rfl) (d_50_ok (S := S) (d := e) (by omega) q_5) ?_
        rintro v_6 h_7 ⟨rfl, rfl⟩
        refine wp_s 48 [some (.ref 4), some (.int x1), some (.int x2), none] [.ref 4] _ i_47_47 rfl ?_
        refine hm_get (w := .ref 1) 51 rfl i_47_48 (cb rfl) kk_4 rfl ?_
        refine hm_get (w := .int (z_4.1 1 3)) 54 rfl i_47_51 (cb rfl) kk_1 rfl ?_
        refine wp_s 55 [some (.ref 4), some (.int x1), some (.int x2), some (.int (z_4.1 1 3))] [] _ i_47_54 rfl ?_
        refine wp_s 56 [some (.ref 4), some (.int x1), some (.int x2), some (.int (z_4.1 1 3))] [.int (z_4.1 1 3)] _ i_47_55 rfl ?_
        refine wp_s 58 [some (.ref 4), some (.int x1), some (.int x2), some (.int (z_4.1 1 3))] [.int (31 : Int32), .int (z_4.1 1 3)] _ i_47_56 rfl ?_
        refine wp_s 60 [some (.ref 4), some (.int x1), some (.int x2), some (.int (z_4.1 1 3))] [.int (35 : Int32), .int (31 : Int32), .int (z_4.1 1 3)] _ i_47_58 rfl ?_
        obtain ⟨z_8, q_9, hd⟩ := dk_bind hd
        refine wp_callS 63 rfl i_47_60 (by decide) (vs := [.int (z_4.1 1 3), .int (31 : Int32), .int (35 : Int32)]) (rest := []) rfl rfl rfl (y := m_138) rfl (Nat.le_of_ble_eq_true rfl) (d_138_ok (S := S) (d := e) (by omega) q_9) ?_
        rintro v_10 h_11 ⟨rfl, rfl⟩
        refine wp_if_ne 75 66 rfl rfl i_47_63 (fun c_12 => ?_) (fun c_12 => ?_)
        · rw [if_pos c_12] at hd
          refine wp_s 76 [some (.ref 4), some (.int x1), some (.int x2), some (.int (z_4.1 1 3))] [.ref 4] _ i_47_75 rfl ?_
          obtain ⟨z_13, q_14, hd⟩ := dk_bind hd
          refine wp_callV 79 rfl i_47_76 (by decide) rfl (vs := []) (rest := []) rfl rfl rfl (hm_isO (cb rfl) kk_4) (y := m_52) rfl (Nat.le_of_ble_eq_true rfl) (d_52_ok (S := S) (d := e) (by omega) q_14) ?_
          rintro v_15 h_16 ⟨rfl, rfl⟩
          refine wp_s 80 [some (.ref 4), some (.int x1), some (.int x2), some (.int (z_4.1 1 3))] [.ref 4] _ i_47_79 rfl ?_
          refine hm_get (w := .ref 1) 83 rfl i_47_80 (cb rfl) kk_4 rfl ?_
          obtain ⟨z_17, q_18, hd⟩ := dk_bind hd
          refine wp_callV 86 rfl i_47_83 (by decide) rfl (vs := []) (rest := []) rfl rfl rfl (hm_isO (cb rfl) kk_1) (y := m_84) rfl (Nat.le_of_ble_eq_true rfl) (d_84_ok (S := S) (d := e) (by omega) q_18) ?_
          rintro v_19 h_20 ⟨rfl, rfl⟩
          refine wp_s 87 [some (.ref 4), some (.int x1), some (.int x2), some (.int (z_4.1 1 3))] [.ref 4] _ i_47_86 rfl ?_
          refine wp_s 88 [some (.ref 4), some (.int x1), some (.int x2), some (.int (z_4.1 1 3))] [.int (0 : Int32), .ref 4] _ i_47_87 rfl ?_
          obtain ⟨z_21, q_22, hd⟩ := dk_bind hd
          refine wp_callV 91 rfl i_47_88 (by decide) rfl (vs := [.int (0 : Int32)]) (rest := []) rfl rfl rfl (hm_isO (cb rfl) kk_4) (y := m_50) rfl (Nat.le_of_ble_eq_true rfl) (d_50_ok (S := S) (d := e) (by omega) q_22) ?_
          rintro v_23 h_24 ⟨rfl, rfl⟩
          refine wp_s 92 [some (.ref 4), some (.int x1), some (.int x2), some (.int (z_4.1 1 3))] [.ref 4] _ i_47_91 rfl ?_
          refine wp_s 93 [some (.ref 4), some (.int x1), some (.int x2), some (.int (z_4.1 1 3))] [.int (-1 : Int32), .ref 4] _ i_47_92 rfl ?_
          refine wp_s 94 [some (.ref 4), some (.int x1), some (.int x2), some (.int (z_4.1 1 3))] [.int (z_4.1 1 3), .int (-1 : Int32), .ref 4] _ i_47_93 rfl ?_
          refine wp_s 95 [some (.ref 4), some (.int x1), some (.int x2), some (.int (z_4.1 1 3))] [.int ((-1 : Int32) - (z_4.1 1 3)), .ref 4] _ i_47_94 rfl ?_
          obtain ⟨z_25, q_26, hd⟩ := dk_bind hd
          refine wp_callV 98 rfl i_47_95 (by decide) rfl (vs := [.int ((-1 : Int32) - (z_4.1 1 3))]) (rest := []) rfl rfl rfl (hm_isO (cb rfl) kk_4) (y := m_53) rfl (Nat.le_of_ble_eq_true rfl) (d_53_ok (S := S) (d := e) (by omega) q_26) ?_
          rintro v_27 h_28 ⟨rfl, rfl⟩
          obtain rfl := Option.some.inj hd
          exact wp_ret i_47_98 rfl ⟨rfl, rfl⟩
        · rw [if_neg c_12] at hd
          refine wp_s 67 [some (.ref 4), some (.int x1), some (.int x2), some (.int (z_4.1 1 3))] [.ref 4] _ i_47_66 rfl ?_
          refine hm_get (w := .ref 1) 70 rfl i_47_67 (cb rfl) kk_4 rfl ?_
          refine wp_s 71 [some (.ref 4), some (.int x1), some (.int x2), some (.int (z_4.1 1 3))] [.int (0 : Int32), .ref 1] _ i_47_70 rfl ?_
          obtain ⟨z_29, q_30, hd⟩ := dk_bind hd
          refine wp_callV 74 rfl i_47_71 (by decide) rfl (vs := [.int (0 : Int32)]) (rest := []) rfl rfl rfl (hm_isO (cb rfl) kk_1) (y := m_83) rfl (Nat.le_of_ble_eq_true rfl) (d_83_ok (S := S) (d := e) (by omega) q_30) ?_
          rintro v_31 h_32 ⟨rfl, rfl⟩
          obtain rfl := Option.some.inj hd
          exact wp_ret i_47_74 rfl ⟨rfl, rfl⟩
      · rw [if_neg c_3] at hd
        exact aWp.forget (j_47_36_ok hdp hs47 hs48 hs49 hd) (lvS (lvS (lvS (lvN lvE))))
  · rw [if_neg c_1] at hd
    refine wp_s 6 [some (.ref 4), some (.int x1), some (.int x2), none] [.ref 4] _ i_47_5 rfl ?_
    refine wp_s 7 [some (.ref 4), some (.int x1), some (.int x2), none] [.int x1, .ref 4] _ i_47_6 rfl ?_
    refine wp_s 8 [some (.ref 4), some (.int x1), some (.int x2), none] [.int x2, .int x1, .ref 4] _ i_47_7 rfl ?_
    obtain ⟨z_33, q_34, hd⟩ := dk_bind hd
    refine wp_callV 11 rfl i_47_8 (by decide) rfl (vs := [.int x1, .int x2]) (rest := []) rfl rfl rfl (hm_isO (cb rfl) kk_4) (y := m_48) rfl (Nat.le_of_ble_eq_true rfl) (hs48 _ _ _ _ q_34) ?_
    rintro v_35 h_36 ⟨rfl, rfl⟩
    obtain rfl := Option.some.inj hd
    exact wp_ret i_47_11 rfl ⟨rfl, rfl⟩
set_option maxHeartbeats 4000000 in
set_option maxRecDepth 100000 in
theorem l_48_ok {X : aX} {S : rS} {g : Nat} {sf47 : Int32 → Int32 → cM → Option cM} {sf48 : Int32 → Int32 → cM → Option cM} {sf49 : Int32 → cM → Option cM} {e : Nat} (hdp : 7 ≤ e) (hs47 : ∀ (x1 : Int32) (x2 : Int32) (m zz : cM), sf47 x1 x2 m = some zz → aWp X e 47 0 (aEntL [.ref 4, .int x1, .int x2] 4) [] (hr m S) (fun w h' => w = none ∧ h' = hr zz S)) (hs48 : ∀ (x1 : Int32) (x2 : Int32) (m zz : cM), sf48 x1 x2 m = some zz → aWp X e 48 0 (aEntL [.ref 4, .int x1, .int x2] 5) [] (hr m S) (fun w h' => w = none ∧ h' = hr zz S)) (hs49 : ∀ (x1 : Int32) (m zz : cM), sf49 x1 m = some zz → aWp X e 49 0 (aEntL [.ref 4, .int x1] 2) [] (hr m S) (fun w h' => w = none ∧ h' = hr zz S)) : ∀ n, (∀ (x1 : Int32) (x2 : Int32) (s0 : Int32) (x3 : Int32) (x4 : Int32) (m : cM) (zz : cM), l_48 sf47 sf48 sf49 g n 0 x1 x2 s0 x3 x4 m = some zz → aWp X (e + 1) 48 11 [some (.ref 4), some (.int x1), some (.int x2), none, none] [.int s0] (hr m S) (fun w h' => w = none ∧ h' = hr zz S)) ∧ (∀ (x1 : Int32) (x2 : Int32) (s0 : Int32) (x3 : Int32) (x4 : Int32) (m : cM) (zz : cM), l_48 sf47 sf48 sf49 g n 1 x1 x2 s0 x3 x4 m = some zz → aWp X (e + 1) 48 23 [some (.ref 4), some (.int x1), some (.int x2), some (.int x3), some (.int x4)] [] (hr m S) (fun w h' => w = none ∧ h' = hr zz S)) := by
  intro n
  induction n with
  | zero => exact ⟨fun _ _ _ _ _ _ _ hd => by simp [l_48] at hd, fun _ _ _ _ _ _ _ hd => by simp [l_48] at hd⟩
  | succ n ih =>
    refine ⟨?_, ?_⟩
    · intro x1 x2 s0 x3 x4 m zz hd
      unfold l_48 at hd
      rw [if_pos rfl] at hd
      refine wp_s 12 [some (.ref 4), some (.int x1), some (.int x2), some (.int s0), none] [] _ i_48_11 rfl ?_
      refine wp_s 13 [some (.ref 4), some (.int x1), some (.int x2), some (.int s0), none] [.ref 4] _ i_48_12 rfl ?_
      refine wp_s 14 [some (.ref 4), some (.int x1), some (.int x2), some (.int s0), none] [.int x1, .ref 4] _ i_48_13 rfl ?_
      refine wp_s 15 [some (.ref 4), some (.int x1), some (.int x2), some (.int s0), none] [.int (1 : Int32), .int x1, .ref 4] _ i_48_14 rfl ?_
      refine wp_s 16 [some (.ref 4), some (.int x1), some (.int x2), some (.int s0), none] [.int (x1 + (1 : Int32)), .ref 4] _ i_48_15 rfl ?_
      refine wp_s 17 [some (.ref 4), some (.int x1), some (.int x2), some (.int s0), none] [.int x2, .int (x1 + (1 : Int32)), .ref 4] _ i_48_16 rfl ?_
      obtain ⟨z_1, q_2, hd⟩ := dk_bind hd
      refine wp_callV 20 rfl i_48_17 (by decide) rfl (vs := [.int (x1 + (1 : Int32)), .int x2]) (rest := []) rfl rfl rfl (hm_isO (cb rfl) kk_4) (y := m_47) rfl (Nat.le_of_ble_eq_true rfl) (hs47 _ _ _ _ q_2) ?_
      rintro v_3 h_4 ⟨rfl, rfl⟩
      refine wp_s 21 [some (.ref 4), some (.int x1), some (.int x2), some (.int s0), none] [.int (0 : Int32)] _ i_48_20 rfl ?_
      refine wp_s 23 [some (.ref 4), some (.int x1), some (.int x2), some (.int s0), some (.int (0 : Int32))] [] _ i_48_21 rfl ?_
      exact aWp.forget (ih.2 _ _ _ _ _ _ _ hd) (lvS (lvS (lvS (lvS (lvS lvE)))))
    · intro x1 x2 s0 x3 x4 m zz hd
      unfold l_48 at hd
      rw [if_neg (by decide), if_pos rfl] at hd
      refine wp_s 25 [some (.ref 4), some (.int x1), some (.int x2), some (.int x3), some (.int x4)] [.int x4] _ i_48_23 rfl ?_
      refine wp_s 28 [some (.ref 4), some (.int x1), some (.int x2), some (.int x3), some (.int x4)] [.int (400 : Int32), .int x4] _ i_48_25 rfl ?_
      refine wp_cmp_ge 70 31 rfl rfl i_48_28 (fun c_5 => ?_) (fun c_5 => ?_)
      · rw [if_pos c_5] at hd
        obtain rfl := Option.some.inj hd
        exact wp_ret i_48_70 rfl ⟨rfl, rfl⟩
      · rw [if_neg c_5] at hd
        refine wp_s 32 [some (.ref 4), some (.int x1), some (.int x2), some (.int x3), some (.int x4)] [.ref 4] _ i_48_31 rfl ?_
        refine hm_get (w := .ref 1) 35 rfl i_48_32 (cb rfl) kk_4 rfl ?_
        refine hm_get (w := .int (m.1 1 3)) 38 rfl i_48_35 (cb rfl) kk_1 rfl ?_
        refine wp_s 39 [some (.ref 4), some (.int x1), some (.int x2), some (.int x3), some (.int x4)] [.int x3, .int (m.1 1 3)] _ i_48_38 rfl ?_
        refine wp_cmp_ne 70 42 rfl rfl i_48_39 (fun c_6 => ?_) (fun c_6 => ?_)
        · rw [if_pos c_6] at hd
          obtain rfl := Option.some.inj hd
          exact wp_ret i_48_70 rfl ⟨rfl, rfl⟩
        · rw [if_neg c_6] at hd
          refine wp_s 43 [some (.ref 4), some (.int x1), some (.int x2), some (.int x3), some (.int x4)] [.ref 4] _ i_48_42 rfl ?_
          refine hm_get (w := .ref 1) 46 rfl i_48_43 (cb rfl) kk_4 rfl ?_
          obtain ⟨z_7, q_8, hd⟩ := dk_bind hd
          refine wp_callV 49 rfl i_48_46 (by decide) rfl (vs := []) (rest := []) rfl rfl rfl (hm_isO (cb rfl) kk_1) (y := m_84) rfl (Nat.le_of_ble_eq_true rfl) (d_84_ok (S := S) (d := e) (by omega) q_8) ?_
          rintro v_9 h_10 ⟨rfl, rfl⟩
          refine wp_s 50 [some (.ref 4), some (.int x1), some (.int x2), some (.int x3), some (.int x4)] [.ref 4] _ i_48_49 rfl ?_
          refine wp_s 51 [some (.ref 4), some (.int x1), some (.int x2), some (.int x3), some (.int x4)] [.int x1, .ref 4] _ i_48_50 rfl ?_
          refine wp_s 52 [some (.ref 4), some (.int x1), some (.int x2), some (.int x3), some (.int x4)] [.int (1 : Int32), .int x1, .ref 4] _ i_48_51 rfl ?_
          refine wp_s 53 [some (.ref 4), some (.int x1), some (.int x2), some (.int x3), some (.int x4)] [.int (x1 + (1 : Int32)), .ref 4] _ i_48_52 rfl ?_
          refine wp_s 54 [some (.ref 4), some (.int x1), some (.int x2), some (.int x3), some (.int x4)] [.int x2, .int (x1 + (1 : Int32)), .ref 4] _ i_48_53 rfl ?_
          obtain ⟨z_11, q_12, hd⟩ := dk_bind hd
          refine wp_callV 57 rfl i_48_54 (by decide) rfl (vs := [.int (x1 + (1 : Int32)), .int x2]) (rest := []) rfl rfl rfl (hm_isO (cb rfl) kk_4) (y := m_47) rfl (Nat.le_of_ble_eq_true rfl) (hs47 _ _ _ _ q_12) ?_
          rintro v_13 h_14 ⟨rfl, rfl⟩
          refine wp_s 58 [some (.ref 4), some (.int x1), some (.int x2), some (.int x3), some (.int x4)] [.ref 4] _ i_48_57 rfl ?_
          refine wp_s 59 [some (.ref 4), some (.int x1), some (.int x2), some (.int x3), some (.int x4)] [.int (-1 : Int32), .ref 4] _ i_48_58 rfl ?_
          refine wp_s 60 [some (.ref 4), some (.int x1), some (.int x2), some (.int x3), some (.int x4)] [.int x3, .int (-1 : Int32), .ref 4] _ i_48_59 rfl ?_
          refine wp_s 61 [some (.ref 4), some (.int x1), some (.int x2), some (.int x3), some (.int x4)] [.int ((-1 : Int32) - x3), .ref 4] _ i_48_60 rfl ?_
          obtain ⟨z_15, q_16, hd⟩ := dk_bind hd
          refine wp_callV 64 rfl i_48_61 (by decide) rfl (vs := [.int ((-1 : Int32) - x3)]) (rest := []) rfl rfl rfl (hm_isO (cb rfl) kk_4) (y := m_53) rfl (Nat.le_of_ble_eq_true rfl) (d_53_ok (S := S) (d := e) (by omega) q_16) ?_
          rintro v_17 h_18 ⟨rfl, rfl⟩
          refine wp_s 67 [some (.ref 4), some (.int x1), some (.int x2), some (.int x3), some (.int (x4 + (1 : Int32)))] [] _ i_48_64 rfl ?_
          refine wp_s 23 [some (.ref 4), some (.int x1), some (.int x2), some (.int x3), some (.int (x4 + (1 : Int32)))] [] _ i_48_67 rfl ?_
          exact aWp.forget (ih.2 _ _ _ _ _ _ _ hd) (lvS (lvS (lvS (lvS (lvS lvE)))))
set_option maxHeartbeats 4000000 in
set_option maxRecDepth 100000 in
theorem t_48_ok {X : aX} {S : rS} {g : Nat} {sf47 : Int32 → Int32 → cM → Option cM} {sf48 : Int32 → Int32 → cM → Option cM} {sf49 : Int32 → cM → Option cM} {x1 : Int32} {x2 : Int32} {m : cM} {zz : cM} {e : Nat} (hdp : 7 ≤ e) (hs47 : ∀ (x1 : Int32) (x2 : Int32) (m zz : cM), sf47 x1 x2 m = some zz → aWp X e 47 0 (aEntL [.ref 4, .int x1, .int x2] 4) [] (hr m S) (fun w h' => w = none ∧ h' = hr zz S)) (hs48 : ∀ (x1 : Int32) (x2 : Int32) (m zz : cM), sf48 x1 x2 m = some zz → aWp X e 48 0 (aEntL [.ref 4, .int x1, .int x2] 5) [] (hr m S) (fun w h' => w = none ∧ h' = hr zz S)) (hs49 : ∀ (x1 : Int32) (m zz : cM), sf49 x1 m = some zz → aWp X e 49 0 (aEntL [.ref 4, .int x1] 2) [] (hr m S) (fun w h' => w = none ∧ h' = hr zz S)) (hd : t_48 sf47 sf48 sf49 g x1 x2 m = some zz) : aWp X (e + 1) 48 0 (aEntL [.ref 4, .int x1, .int x2] 5) [] (hr m S) (fun w h' => w = none ∧ h' = hr zz S) := by
  unfold t_48 at hd
  refine wp_lv (l2 := [some (.ref 4), some (.int x1), some (.int x2), none, none]) rfl ?_
  refine wp_s 1 [some (.ref 4), some (.int x1), some (.int x2), none, none] [.int x1] _ i_48_0 rfl ?_
  refine wp_if_ne 9 4 rfl rfl i_48_1 (fun c_1001 => ?_) (fun c_1001 => ?_)
  · rw [if_pos c_1001] at hd
    refine wp_s 11 [some (.ref 4), some (.int x1), some (.int x2), none, none] [.int (18 : Int32)] _ i_48_9 rfl ?_
    exact aWp.forget ((l_48_ok hdp hs47 hs48 hs49 g).1 _ _ _ _ _ _ _ hd) (lvS (lvS (lvS (lvN (lvN lvE)))))
  · rw [if_neg c_1001] at hd
    refine wp_s 6 [some (.ref 4), some (.int x1), some (.int x2), none, none] [.int (17 : Int32)] _ i_48_4 rfl ?_
    refine wp_s 11 [some (.ref 4), some (.int x1), some (.int x2), none, none] [.int (17 : Int32)] _ i_48_6 rfl ?_
    exact aWp.forget ((l_48_ok hdp hs47 hs48 hs49 g).1 _ _ _ _ _ _ _ hd) (lvS (lvS (lvS (lvN (lvN lvE)))))
set_option maxHeartbeats 4000000 in
set_option maxRecDepth 100000 in
theorem j_49_88_ok {X : aX} {S : rS} {g : Nat} {sf47 : Int32 → Int32 → cM → Option cM} {sf48 : Int32 → Int32 → cM → Option cM} {sf49 : Int32 → cM → Option cM} {x1 : Int32} {m : cM} {zz : cM} {e : Nat} (hdp : 7 ≤ e) (hs47 : ∀ (x1 : Int32) (x2 : Int32) (m zz : cM), sf47 x1 x2 m = some zz → aWp X e 47 0 (aEntL [.ref 4, .int x1, .int x2] 4) [] (hr m S) (fun w h' => w = none ∧ h' = hr zz S)) (hs48 : ∀ (x1 : Int32) (x2 : Int32) (m zz : cM), sf48 x1 x2 m = some zz → aWp X e 48 0 (aEntL [.ref 4, .int x1, .int x2] 5) [] (hr m S) (fun w h' => w = none ∧ h' = hr zz S)) (hs49 : ∀ (x1 : Int32) (m zz : cM), sf49 x1 m = some zz → aWp X e 49 0 (aEntL [.ref 4, .int x1] 2) [] (hr m S) (fun w h' => w = none ∧ h' = hr zz S)) (hd : j_49_88 sf47 sf48 sf49 g x1 m = some zz) : aWp X (e + 1) 49 88 [some (.ref 4), some (.int x1)] [] (hr m S) (fun w h' => w = none ∧ h' = hr zz S) := by
  unfold j_49_88 at hd
  refine wp_s 89 [some (.ref 4), some (.int x1)] [.ref 4] _ i_49_88 rfl ?_
  refine hm_get (w := .ref 1) 92 rfl i_49_89 (cb rfl) kk_4 rfl ?_
  obtain ⟨z_1, q_2, hd⟩ := dk_bind hd
  refine wp_callV 95 rfl i_49_92 (by decide) rfl (vs := []) (rest := []) rfl rfl rfl (hm_isO (cb rfl) kk_1) (y := m_84) rfl (Nat.le_of_ble_eq_true rfl) (d_84_ok (S := S) (d := e) (by omega) q_2) ?_
  rintro v_3 h_4 ⟨rfl, rfl⟩
  obtain rfl := Option.some.inj hd
  exact wp_ret i_49_95 rfl ⟨rfl, rfl⟩
set_option maxHeartbeats 4000000 in
set_option maxRecDepth 100000 in
theorem t_49_ok {X : aX} {S : rS} {g : Nat} {sf47 : Int32 → Int32 → cM → Option cM} {sf48 : Int32 → Int32 → cM → Option cM} {sf49 : Int32 → cM → Option cM} {x1 : Int32} {m : cM} {zz : cM} {e : Nat} (hdp : 7 ≤ e) (hs47 : ∀ (x1 : Int32) (x2 : Int32) (m zz : cM), sf47 x1 x2 m = some zz → aWp X e 47 0 (aEntL [.ref 4, .int x1, .int x2] 4) [] (hr m S) (fun w h' => w = none ∧ h' = hr zz S)) (hs48 : ∀ (x1 : Int32) (x2 : Int32) (m zz : cM), sf48 x1 x2 m = some zz → aWp X e 48 0 (aEntL [.ref 4, .int x1, .int x2] 5) [] (hr m S) (fun w h' => w = none ∧ h' = hr zz S)) (hs49 : ∀ (x1 : Int32) (m zz : cM), sf49 x1 m = some zz → aWp X e 49 0 (aEntL [.ref 4, .int x1] 2) [] (hr m S) (fun w h' => w = none ∧ h' = hr zz S)) (hd : t_49 sf47 sf48 sf49 g x1 m = some zz) : aWp X (e + 1) 49 0 (aEntL [.ref 4, .int x1] 2) [] (hr m S) (fun w h' => w = none ∧ h' = hr zz S) := by
  unfold t_49 at hd
  refine wp_lv (l2 := [some (.ref 4), some (.int x1)]) rfl ?_
  refine wp_s 1 [some (.ref 4), some (.int x1)] [.int x1] _ i_49_0 rfl ?_
  refine wp_s 3 [some (.ref 4), some (.int x1)] [.int (10 : Int32), .int x1] _ i_49_1 rfl ?_
  refine wp_cmp_lt 17 6 rfl rfl i_49_3 (fun c_1 => ?_) (fun c_1 => ?_)
  · rw [if_pos c_1] at hd
    refine wp_s 18 [some (.ref 4), some (.int x1)] [.ref 4] _ i_49_17 rfl ?_
    refine hm_get (w := .ref 1) 21 rfl i_49_18 (cb rfl) kk_4 rfl ?_
    refine hm_get (w := .int (m.1 1 3)) 24 rfl i_49_21 (cb rfl) kk_1 rfl ?_
    refine wp_s 26 [some (.ref 4), some (.int x1)] [.int (19 : Int32), .int (m.1 1 3)] _ i_49_24 rfl ?_
    refine wp_cmp_ne 53 29 rfl rfl i_49_26 (fun c_2 => ?_) (fun c_2 => ?_)
    · rw [if_pos c_2] at hd
      refine wp_s 54 [some (.ref 4), some (.int x1)] [.ref 4] _ i_49_53 rfl ?_
      refine hm_get (w := .ref 1) 57 rfl i_49_54 (cb rfl) kk_4 rfl ?_
      obtain ⟨z_3, q_4, hd⟩ := dk_bind hd
      refine wp_callV 60 rfl i_49_57 (by decide) rfl (vs := []) (rest := []) rfl rfl rfl (hm_isO (cb rfl) kk_1) (y := m_84) rfl (Nat.le_of_ble_eq_true rfl) (d_84_ok (S := S) (d := e) (by omega) q_4) ?_
      rintro v_5 h_6 ⟨rfl, rfl⟩
      refine wp_s 61 [some (.ref 4), some (.int x1)] [.ref 4] _ i_49_60 rfl ?_
      refine wp_s 62 [some (.ref 4), some (.int x1)] [.int (0 : Int32), .ref 4] _ i_49_61 rfl ?_
      refine wp_s 63 [some (.ref 4), some (.int x1)] [.int x1, .int (0 : Int32), .ref 4] _ i_49_62 rfl ?_
      refine wp_s 64 [some (.ref 4), some (.int x1)] [.int (1 : Int32), .int x1, .int (0 : Int32), .ref 4] _ i_49_63 rfl ?_
      refine wp_s 65 [some (.ref 4), some (.int x1)] [.int (x1 + (1 : Int32)), .int (0 : Int32), .ref 4] _ i_49_64 rfl ?_
      obtain ⟨z_7, q_8, hd⟩ := dk_bind hd
      refine wp_callV 68 rfl i_49_65 (by decide) rfl (vs := [.int (0 : Int32), .int (x1 + (1 : Int32))]) (rest := []) rfl rfl rfl (hm_isO (cb rfl) kk_4) (y := m_47) rfl (Nat.le_of_ble_eq_true rfl) (hs47 _ _ _ _ q_8) ?_
      rintro v_9 h_10 ⟨rfl, rfl⟩
      refine wp_s 69 [some (.ref 4), some (.int x1)] [.ref 4] _ i_49_68 rfl ?_
      refine hm_get (w := .ref 1) 72 rfl i_49_69 (cb rfl) kk_4 rfl ?_
      refine hm_get (w := .int (z_7.1 1 3)) 75 rfl i_49_72 (cb rfl) kk_1 rfl ?_
      refine wp_s 77 [some (.ref 4), some (.int x1)] [.int (25 : Int32), .int (z_7.1 1 3)] _ i_49_75 rfl ?_
      refine wp_cmp_eq 88 80 rfl rfl i_49_77 (fun c_11 => ?_) (fun c_11 => ?_)
      · rw [if_pos c_11] at hd
        exact aWp.forget (j_49_88_ok hdp hs47 hs48 hs49 hd) (lvS (lvS lvE))
      · rw [if_neg c_11] at hd
        refine wp_s 81 [some (.ref 4), some (.int x1)] [.ref 4] _ i_49_80 rfl ?_
        refine hm_get (w := .ref 1) 84 rfl i_49_81 (cb rfl) kk_4 rfl ?_
        refine wp_s 85 [some (.ref 4), some (.int x1)] [.int (0 : Int32), .ref 1] _ i_49_84 rfl ?_
        obtain ⟨z_12, q_13, hd⟩ := dk_bind hd
        refine wp_callV 88 rfl i_49_85 (by decide) rfl (vs := [.int (0 : Int32)]) (rest := []) rfl rfl rfl (hm_isO (cb rfl) kk_1) (y := m_83) rfl (Nat.le_of_ble_eq_true rfl) (d_83_ok (S := S) (d := e) (by omega) q_13) ?_
        rintro v_14 h_15 ⟨rfl, rfl⟩
        exact aWp.forget (j_49_88_ok hdp hs47 hs48 hs49 hd) (lvS (lvS lvE))
    · rw [if_neg c_2] at hd
      refine wp_s 30 [some (.ref 4), some (.int x1)] [.ref 4] _ i_49_29 rfl ?_
      refine hm_get (w := .ref 1) 33 rfl i_49_30 (cb rfl) kk_4 rfl ?_
      obtain ⟨z_16, q_17, hd⟩ := dk_bind hd
      refine wp_callV 36 rfl i_49_33 (by decide) rfl (vs := []) (rest := []) rfl rfl rfl (hm_isO (cb rfl) kk_1) (y := m_84) rfl (Nat.le_of_ble_eq_true rfl) (d_84_ok (S := S) (d := e) (by omega) q_17) ?_
      rintro v_18 h_19 ⟨rfl, rfl⟩
      refine wp_s 37 [some (.ref 4), some (.int x1)] [.ref 4] _ i_49_36 rfl ?_
      refine wp_s 38 [some (.ref 4), some (.int x1)] [.int (2 : Int32), .ref 4] _ i_49_37 rfl ?_
      refine wp_s 39 [some (.ref 4), some (.int x1)] [.int x1, .int (2 : Int32), .ref 4] _ i_49_38 rfl ?_
      refine wp_s 40 [some (.ref 4), some (.int x1)] [.int (1 : Int32), .int x1, .int (2 : Int32), .ref 4] _ i_49_39 rfl ?_
      refine wp_s 41 [some (.ref 4), some (.int x1)] [.int (x1 + (1 : Int32)), .int (2 : Int32), .ref 4] _ i_49_40 rfl ?_
      obtain ⟨z_20, q_21, hd⟩ := dk_bind hd
      refine wp_callV 44 rfl i_49_41 (by decide) rfl (vs := [.int (2 : Int32), .int (x1 + (1 : Int32))]) (rest := []) rfl rfl rfl (hm_isO (cb rfl) kk_4) (y := m_47) rfl (Nat.le_of_ble_eq_true rfl) (hs47 _ _ _ _ q_21) ?_
      rintro v_22 h_23 ⟨rfl, rfl⟩
      refine wp_s 45 [some (.ref 4), some (.int x1)] [.ref 4] _ i_49_44 rfl ?_
      refine wp_s 47 [some (.ref 4), some (.int x1)] [.int (-20 : Int32), .ref 4] _ i_49_45 rfl ?_
      obtain ⟨z_24, q_25, hd⟩ := dk_bind hd
      refine wp_callV 50 rfl i_49_47 (by decide) rfl (vs := [.int (-20 : Int32)]) (rest := []) rfl rfl rfl (hm_isO (cb rfl) kk_4) (y := m_53) rfl (Nat.le_of_ble_eq_true rfl) (d_53_ok (S := S) (d := e) (by omega) q_25) ?_
      rintro v_26 h_27 ⟨rfl, rfl⟩
      refine wp_s 95 [some (.ref 4), some (.int x1)] [] _ i_49_50 rfl ?_
      obtain rfl := Option.some.inj hd
      exact wp_ret i_49_95 rfl ⟨rfl, rfl⟩
  · rw [if_neg c_1] at hd
    refine wp_s 7 [some (.ref 4), some (.int x1)] [.ref 4] _ i_49_6 rfl ?_
    refine hm_get (w := .ref 1) 10 rfl i_49_7 (cb rfl) kk_4 rfl ?_
    refine wp_s 11 [some (.ref 4), some (.int x1)] [.int (2 : Int32), .ref 1] _ i_49_10 rfl ?_
    obtain ⟨z_28, q_29, hd⟩ := dk_bind hd
    refine wp_callV 14 rfl i_49_11 (by decide) rfl (vs := [.int (2 : Int32)]) (rest := []) rfl rfl rfl (hm_isO (cb rfl) kk_1) (y := m_83) rfl (Nat.le_of_ble_eq_true rfl) (d_83_ok (S := S) (d := e) (by omega) q_29) ?_
    rintro v_30 h_31 ⟨rfl, rfl⟩
    refine wp_s 95 [some (.ref 4), some (.int x1)] [] _ i_49_14 rfl ?_
    obtain rfl := Option.some.inj hd
    exact wp_ret i_49_95 rfl ⟨rfl, rfl⟩
theorem R_47_ok {X : aX} {S : rS} {g : Nat} : ∀ n, (∀ (x1 : Int32) (x2 : Int32) (m zz : cM), R_47 g n 0 x1 x2 m = some zz → aWp X (7 + n) 47 0 (aEntL [.ref 4, .int x1, .int x2] 4) [] (hr m S) (fun w h' => w = none ∧ h' = hr zz S)) ∧ (∀ (x1 : Int32) (x2 : Int32) (m zz : cM), R_47 g n 1 x1 x2 m = some zz → aWp X (7 + n) 48 0 (aEntL [.ref 4, .int x1, .int x2] 5) [] (hr m S) (fun w h' => w = none ∧ h' = hr zz S)) ∧ (∀ (x1 : Int32) (m zz : cM), R_47 g n 2 x1 0 m = some zz → aWp X (7 + n) 49 0 (aEntL [.ref 4, .int x1] 2) [] (hr m S) (fun w h' => w = none ∧ h' = hr zz S)) := by
  intro n
  induction n with
  | zero => exact ⟨fun _ _ _ _ hd => by simp [R_47] at hd, fun _ _ _ _ hd => by simp [R_47] at hd, fun _ _ _ hd => by simp [R_47] at hd⟩
  | succ n ih =>
    obtain ⟨ih0, ih1, ih2⟩ := ih
    refine ⟨?_, ?_, ?_⟩
    · intro x1 x2 m zz hd
      unfold R_47 at hd
      rw [if_pos rfl] at hd
      exact t_47_ok (e := 7 + n) (by omega) ih0 ih1 ih2 hd
    · intro x1 x2 m zz hd
      unfold R_47 at hd
      rw [if_neg (by decide), if_pos rfl] at hd
      exact t_48_ok (e := 7 + n) (by omega) ih0 ih1 ih2 hd
    · intro x1 m zz hd
      unfold R_47 at hd
      rw [if_neg (by decide), if_neg (by decide), if_pos rfl] at hd
      exact t_49_ok (e := 7 + n) (by omega) ih0 ih1 ih2 hd
theorem d_47_ok {X : aX} {S : rS} {g : Nat} {x1 : Int32} {x2 : Int32} {m zz : cM} {d : Nat} (hdp : 77 ≤ d) (hd : d_47 g x1 x2 m = some zz) : aWp X d 47 0 (aEntL [.ref 4, .int x1, .int x2] 4) [] (hr m S) (fun w h' => w = none ∧ h' = hr zz S) := ((R_47_ok 70).1 _ _ _ _ hd).deep hdp
theorem d_48_ok {X : aX} {S : rS} {g : Nat} {x1 : Int32} {x2 : Int32} {m zz : cM} {d : Nat} (hdp : 77 ≤ d) (hd : d_48 g x1 x2 m = some zz) : aWp X d 48 0 (aEntL [.ref 4, .int x1, .int x2] 5) [] (hr m S) (fun w h' => w = none ∧ h' = hr zz S) := ((R_47_ok 70).2.1 _ _ _ _ hd).deep hdp
theorem d_49_ok {X : aX} {S : rS} {g : Nat} {x1 : Int32} {m zz : cM} {d : Nat} (hdp : 77 ≤ d) (hd : d_49 g x1 m = some zz) : aWp X d 49 0 (aEntL [.ref 4, .int x1] 2) [] (hr m S) (fun w h' => w = none ∧ h' = hr zz S) := ((R_47_ok 70).2.2 _ _ _ hd).deep hdp
