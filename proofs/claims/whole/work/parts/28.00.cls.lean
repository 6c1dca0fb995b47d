theorem i_0_0 : aIns 0 0 = some (.aload_n 0, 1, 0, 0, .null) := by decide +kernel
theorem i_0_1 : aIns 0 1 = some (.invokespecial 3, 3, 1000, 0, .null) := by decide +kernel
theorem i_0_4 : aIns 0 4 = some (.aload_n 0, 1, 0, 0, .null) := by decide +kernel
theorem i_0_5 : aIns 0 5 = some (.bipush 8, 2, 0, 0, .int (8)) := by decide +kernel
theorem i_0_7 : aIns 0 7 = some (.newarray .int, 2, 0, 0, .null) := by decide +kernel
theorem i_0_9 : aIns 0 9 = some (.putfield 9, 3, 0, 3, .null) := by decide +kernel
theorem i_0_12 : aIns 0 12 = some (.return_, 1, 0, 0, .null) := by decide +kernel
theorem i_7_0 : aIns 7 0 = some (.aload_n 0, 1, 0, 0, .null) := by decide +kernel
theorem i_7_1 : aIns 7 1 = some (.invokespecial 3, 3, 1000, 0, .null) := by decide +kernel
theorem i_7_4 : aIns 7 4 = some (.aload_n 0, 1, 0, 0, .null) := by decide +kernel
theorem i_7_5 : aIns 7 5 = some (.bipush 20, 2, 0, 0, .int (20)) := by decide +kernel
theorem i_7_7 : aIns 7 7 = some (.anewarray 9, 3, 4, 0, .null) := by decide +kernel
theorem i_7_10 : aIns 7 10 = some (.putfield 11, 3, 1, 0, .null) := by decide +kernel
theorem i_7_13 : aIns 7 13 = some (.iconst 0, 1, 0, 0, .int (0)) := by decide +kernel
theorem i_7_14 : aIns 7 14 = some (.istore_n 1, 1, 0, 0, .null) := by decide +kernel
theorem i_7_15 : aIns 7 15 = some (.iload_n 1, 1, 0, 0, .null) := by decide +kernel
theorem i_7_16 : aIns 7 16 = some (.bipush 20, 2, 0, 0, .int (20)) := by decide +kernel
theorem i_7_18 : aIns 7 18 = some (.if_icmp .ge 22, 3, 0, 0, .null) := by decide +kernel
theorem i_7_21 : aIns 7 21 = some (.aload_n 0, 1, 0, 0, .null) := by decide +kernel
theorem i_7_22 : aIns 7 22 = some (.getfield 11, 3, 1, 0, .null) := by decide +kernel
theorem i_7_25 : aIns 7 25 = some (.iload_n 1, 1, 0, 0, .null) := by decide +kernel
theorem i_7_26 : aIns 7 26 = some (.new 9, 3, 7, 0, .null) := by decide +kernel
theorem i_7_29 : aIns 7 29 = some (.dup, 1, 0, 0, .null) := by decide +kernel
theorem i_7_30 : aIns 7 30 = some (.invokespecial 17, 3, 70, 0, .int 7) := by decide +kernel
theorem i_7_33 : aIns 7 33 = some (.aastore, 1, 0, 0, .null) := by decide +kernel
theorem i_7_34 : aIns 7 34 = some (.iinc 1 1, 3, 0, 0, .null) := by decide +kernel
theorem i_7_37 : aIns 7 37 = some (.goto (-22), 3, 0, 0, .null) := by decide +kernel
theorem i_7_40 : aIns 7 40 = some (.return_, 1, 0, 0, .null) := by decide +kernel
theorem i_11_0 : aIns 11 0 = some (.aload_n 0, 1, 0, 0, .null) := by decide +kernel
theorem i_11_1 : aIns 11 1 = some (.invokespecial 3, 3, 1000, 0, .null) := by decide +kernel
theorem i_11_4 : aIns 11 4 = some (.aload_n 0, 1, 0, 0, .null) := by decide +kernel
theorem i_11_5 : aIns 11 5 = some (.new 9, 3, 0, 0, .null) := by decide +kernel
theorem i_11_8 : aIns 11 8 = some (.dup, 1, 0, 0, .null) := by decide +kernel
theorem i_11_9 : aIns 11 9 = some (.invokespecial 11, 3, 0, 0, .int 0) := by decide +kernel
theorem i_11_12 : aIns 11 12 = some (.putfield 12, 3, 2, 2, .null) := by decide +kernel
theorem i_11_15 : aIns 11 15 = some (.aload_n 0, 1, 0, 0, .null) := by decide +kernel
theorem i_11_16 : aIns 11 16 = some (.bipush 8, 2, 0, 0, .int (8)) := by decide +kernel
theorem i_11_18 : aIns 11 18 = some (.newarray .int, 2, 0, 0, .null) := by decide +kernel
theorem i_11_20 : aIns 11 20 = some (.putfield 18, 3, 2, 3, .null) := by decide +kernel
theorem i_11_23 : aIns 11 23 = some (.aload_n 0, 1, 0, 0, .null) := by decide +kernel
theorem i_11_24 : aIns 11 24 = some (.bipush 8, 2, 0, 0, .int (8)) := by decide +kernel
theorem i_11_26 : aIns 11 26 = some (.newarray .int, 2, 0, 0, .null) := by decide +kernel
theorem i_11_28 : aIns 11 28 = some (.putfield 22, 3, 2, 4, .null) := by decide +kernel
theorem i_11_31 : aIns 11 31 = some (.aload_n 0, 1, 0, 0, .null) := by decide +kernel
theorem i_11_32 : aIns 11 32 = some (.bipush 6, 2, 0, 0, .int (6)) := by decide +kernel
theorem i_11_34 : aIns 11 34 = some (.newarray .int, 2, 0, 0, .null) := by decide +kernel
theorem i_11_36 : aIns 11 36 = some (.putfield 25, 3, 2, 5, .null) := by decide +kernel
theorem i_11_39 : aIns 11 39 = some (.aload_n 0, 1, 0, 0, .null) := by decide +kernel
theorem i_11_40 : aIns 11 40 = some (.bipush 30, 2, 0, 0, .int (30)) := by decide +kernel
theorem i_11_42 : aIns 11 42 = some (.newarray .int, 2, 0, 0, .null) := by decide +kernel
theorem i_11_44 : aIns 11 44 = some (.putfield 28, 3, 2, 6, .null) := by decide +kernel
theorem i_11_47 : aIns 11 47 = some (.aload_n 0, 1, 0, 0, .null) := by decide +kernel
theorem i_11_48 : aIns 11 48 = some (.bipush 8, 2, 0, 0, .int (8)) := by decide +kernel
theorem i_11_50 : aIns 11 50 = some (.newarray .int, 2, 0, 0, .null) := by decide +kernel
theorem i_11_52 : aIns 11 52 = some (.putfield 31, 3, 2, 7, .null) := by decide +kernel
theorem i_11_55 : aIns 11 55 = some (.aload_n 0, 1, 0, 0, .null) := by decide +kernel
theorem i_11_56 : aIns 11 56 = some (.bipush 7, 2, 0, 0, .int (7)) := by decide +kernel
theorem i_11_58 : aIns 11 58 = some (.newarray .int, 2, 0, 0, .null) := by decide +kernel
theorem i_11_60 : aIns 11 60 = some (.putfield 34, 3, 2, 8, .null) := by decide +kernel
theorem i_11_63 : aIns 11 63 = some (.aload_n 0, 1, 0, 0, .null) := by decide +kernel
theorem i_11_64 : aIns 11 64 = some (.bipush 7, 2, 0, 0, .int (7)) := by decide +kernel
theorem i_11_66 : aIns 11 66 = some (.newarray .int, 2, 0, 0, .null) := by decide +kernel
theorem i_11_68 : aIns 11 68 = some (.putfield 37, 3, 2, 9, .null) := by decide +kernel
theorem i_11_71 : aIns 11 71 = some (.aload_n 0, 1, 0, 0, .null) := by decide +kernel
theorem i_11_72 : aIns 11 72 = some (.new 40, 3, 7, 0, .null) := by decide +kernel
theorem i_11_75 : aIns 11 75 = some (.dup, 1, 0, 0, .null) := by decide +kernel
theorem i_11_76 : aIns 11 76 = some (.invokespecial 42, 3, 70, 0, .int 7) := by decide +kernel
theorem i_11_79 : aIns 11 79 = some (.putfield 43, 3, 2, 10, .null) := by decide +kernel
theorem i_11_82 : aIns 11 82 = some (.aload_n 0, 1, 0, 0, .null) := by decide +kernel
theorem i_11_83 : aIns 11 83 = some (.aload_n 1, 1, 0, 0, .null) := by decide +kernel
theorem i_11_84 : aIns 11 84 = some (.putfield 47, 3, 2, 0, .null) := by decide +kernel
theorem i_11_87 : aIns 11 87 = some (.aload_n 0, 1, 0, 0, .null) := by decide +kernel
theorem i_11_88 : aIns 11 88 = some (.aload_n 2, 1, 0, 0, .null) := by decide +kernel
theorem i_11_89 : aIns 11 89 = some (.putfield 51, 3, 2, 1, .null) := by decide +kernel
theorem i_11_92 : aIns 11 92 = some (.return_, 1, 0, 0, .null) := by decide +kernel
theorem i_40_0 : aIns 40 0 = some (.aload_n 0, 1, 0, 0, .null) := by decide +kernel
theorem i_40_1 : aIns 40 1 = some (.invokespecial 3, 3, 1000, 0, .null) := by decide +kernel
theorem i_40_4 : aIns 40 4 = some (.aload_n 0, 1, 0, 0, .null) := by decide +kernel
theorem i_40_5 : aIns 40 5 = some (.sipush 400, 3, 0, 0, .int (400)) := by decide +kernel
theorem i_40_8 : aIns 40 8 = some (.newarray .int, 2, 0, 0, .null) := by decide +kernel
theorem i_40_10 : aIns 40 10 = some (.putfield 9, 3, 3, 0, .null) := by decide +kernel
theorem i_40_13 : aIns 40 13 = some (.aload_n 0, 1, 0, 0, .null) := by decide +kernel
theorem i_40_14 : aIns 40 14 = some (.bipush 12, 2, 0, 0, .int (12)) := by decide +kernel
theorem i_40_16 : aIns 40 16 = some (.newarray .int, 2, 0, 0, .null) := by decide +kernel
theorem i_40_18 : aIns 40 18 = some (.putfield 15, 3, 3, 1, .null) := by decide +kernel
theorem i_40_21 : aIns 40 21 = some (.aload_n 0, 1, 0, 0, .null) := by decide +kernel
theorem i_40_22 : aIns 40 22 = some (.bipush 12, 2, 0, 0, .int (12)) := by decide +kernel
theorem i_40_24 : aIns 40 24 = some (.newarray .int, 2, 0, 0, .null) := by decide +kernel
theorem i_40_26 : aIns 40 26 = some (.putfield 18, 3, 3, 2, .null) := by decide +kernel
theorem i_40_29 : aIns 40 29 = some (.aload_n 0, 1, 0, 0, .null) := by decide +kernel
theorem i_40_30 : aIns 40 30 = some (.bipush 12, 2, 0, 0, .int (12)) := by decide +kernel
theorem i_40_32 : aIns 40 32 = some (.newarray .int, 2, 0, 0, .null) := by decide +kernel
theorem i_40_34 : aIns 40 34 = some (.putfield 21, 3, 3, 3, .null) := by decide +kernel
theorem i_40_37 : aIns 40 37 = some (.aload_n 0, 1, 0, 0, .null) := by decide +kernel
theorem i_40_38 : aIns 40 38 = some (.bipush 62, 2, 0, 0, .int (62)) := by decide +kernel
theorem i_40_40 : aIns 40 40 = some (.newarray .long, 2, 3, 0, .null) := by decide +kernel
theorem i_40_42 : aIns 40 42 = some (.putfield 24, 3, 3, 4, .null) := by decide +kernel
theorem i_40_45 : aIns 40 45 = some (.return_, 1, 0, 0, .null) := by decide +kernel
theorem i_44_0 : aIns 44 0 = some (.aload_n 0, 1, 0, 0, .null) := by decide +kernel
theorem i_44_1 : aIns 44 1 = some (.invokespecial 3, 3, 1000, 0, .null) := by decide +kernel
theorem i_44_4 : aIns 44 4 = some (.aload_n 0, 1, 0, 0, .null) := by decide +kernel
theorem i_44_5 : aIns 44 5 = some (.aload_n 1, 1, 0, 0, .null) := by decide +kernel
theorem i_44_6 : aIns 44 6 = some (.putfield 9, 3, 4, 0, .null) := by decide +kernel
theorem i_44_9 : aIns 44 9 = some (.return_, 1, 0, 0, .null) := by decide +kernel
theorem i_54_0 : aIns 54 0 = some (.aload_n 0, 1, 0, 0, .null) := by decide +kernel
theorem i_54_1 : aIns 54 1 = some (.invokespecial 3, 3, 1000, 0, .null) := by decide +kernel
theorem i_54_4 : aIns 54 4 = some (.aload_n 0, 1, 0, 0, .null) := by decide +kernel
theorem i_54_5 : aIns 54 5 = some (.bipush 8, 2, 0, 0, .int (8)) := by decide +kernel
theorem i_54_7 : aIns 54 7 = some (.newarray .int, 2, 0, 0, .null) := by decide +kernel
theorem i_54_9 : aIns 54 9 = some (.putfield 9, 3, 5, 5, .null) := by decide +kernel
theorem i_54_12 : aIns 54 12 = some (.aload_n 0, 1, 0, 0, .null) := by decide +kernel
theorem i_54_13 : aIns 54 13 = some (.bipush 8, 2, 0, 0, .int (8)) := by decide +kernel
theorem i_54_15 : aIns 54 15 = some (.newarray .int, 2, 0, 0, .null) := by decide +kernel
theorem i_54_17 : aIns 54 17 = some (.putfield 15, 3, 5, 6, .null) := by decide +kernel
theorem i_54_20 : aIns 54 20 = some (.aload_n 0, 1, 0, 0, .null) := by decide +kernel
theorem i_54_21 : aIns 54 21 = some (.bipush 8, 2, 0, 0, .int (8)) := by decide +kernel
theorem i_54_23 : aIns 54 23 = some (.newarray .int, 2, 0, 0, .null) := by decide +kernel
theorem i_54_25 : aIns 54 25 = some (.putfield 18, 3, 5, 7, .null) := by decide +kernel
theorem i_54_28 : aIns 54 28 = some (.aload_n 0, 1, 0, 0, .null) := by decide +kernel
theorem i_54_29 : aIns 54 29 = some (.bipush 6, 2, 0, 0, .int (6)) := by decide +kernel
theorem i_54_31 : aIns 54 31 = some (.newarray .int, 2, 0, 0, .null) := by decide +kernel
theorem i_54_33 : aIns 54 33 = some (.putfield 21, 3, 5, 9, .null) := by decide +kernel
theorem i_54_36 : aIns 54 36 = some (.aload_n 0, 1, 0, 0, .null) := by decide +kernel
theorem i_54_37 : aIns 54 37 = some (.bipush 6, 2, 0, 0, .int (6)) := by decide +kernel
theorem i_54_39 : aIns 54 39 = some (.newarray .int, 2, 0, 0, .null) := by decide +kernel
theorem i_54_41 : aIns 54 41 = some (.putfield 24, 3, 5, 10, .null) := by decide +kernel
theorem i_54_44 : aIns 54 44 = some (.aload_n 0, 1, 0, 0, .null) := by decide +kernel
theorem i_54_45 : aIns 54 45 = some (.iconst 4, 1, 0, 0, .int (4)) := by decide +kernel
theorem i_54_46 : aIns 54 46 = some (.newarray .int, 2, 0, 0, .null) := by decide +kernel
theorem i_54_48 : aIns 54 48 = some (.putfield 27, 3, 5, 12, .null) := by decide +kernel
theorem i_54_51 : aIns 54 51 = some (.aload_n 0, 1, 0, 0, .null) := by decide +kernel
theorem i_54_52 : aIns 54 52 = some (.iconst 4, 1, 0, 0, .int (4)) := by decide +kernel
theorem i_54_53 : aIns 54 53 = some (.newarray .int, 2, 0, 0, .null) := by decide +kernel
theorem i_54_55 : aIns 54 55 = some (.putfield 30, 3, 5, 13, .null) := by decide +kernel
theorem i_54_58 : aIns 54 58 = some (.aload_n 0, 1, 0, 0, .null) := by decide +kernel
theorem i_54_59 : aIns 54 59 = some (.iconst 4, 1, 0, 0, .int (4)) := by decide +kernel
theorem i_54_60 : aIns 54 60 = some (.newarray .int, 2, 0, 0, .null) := by decide +kernel
theorem i_54_62 : aIns 54 62 = some (.putfield 33, 3, 5, 14, .null) := by decide +kernel
theorem i_54_65 : aIns 54 65 = some (.aload_n 0, 1, 0, 0, .null) := by decide +kernel
theorem i_54_66 : aIns 54 66 = some (.iconst 5, 1, 0, 0, .int (5)) := by decide +kernel
theorem i_54_67 : aIns 54 67 = some (.newarray .int, 2, 0, 0, .null) := by decide +kernel
theorem i_54_69 : aIns 54 69 = some (.putfield 36, 3, 5, 16, .null) := by decide +kernel
theorem i_54_72 : aIns 54 72 = some (.aload_n 0, 1, 0, 0, .null) := by decide +kernel
theorem i_54_73 : aIns 54 73 = some (.iconst 5, 1, 0, 0, .int (5)) := by decide +kernel
theorem i_54_74 : aIns 54 74 = some (.newarray .int, 2, 0, 0, .null) := by decide +kernel
theorem i_54_76 : aIns 54 76 = some (.putfield 39, 3, 5, 17, .null) := by decide +kernel
theorem i_54_79 : aIns 54 79 = some (.aload_n 0, 1, 0, 0, .null) := by decide +kernel
theorem i_54_80 : aIns 54 80 = some (.iconst 5, 1, 0, 0, .int (5)) := by decide +kernel
theorem i_54_81 : aIns 54 81 = some (.newarray .int, 2, 0, 0, .null) := by decide +kernel
theorem i_54_83 : aIns 54 83 = some (.putfield 42, 3, 5, 18, .null) := by decide +kernel
theorem i_54_86 : aIns 54 86 = some (.aload_n 0, 1, 0, 0, .null) := by decide +kernel
theorem i_54_87 : aIns 54 87 = some (.iconst 5, 1, 0, 0, .int (5)) := by decide +kernel
theorem i_54_88 : aIns 54 88 = some (.newarray .int, 2, 0, 0, .null) := by decide +kernel
theorem i_54_90 : aIns 54 90 = some (.putfield 45, 3, 5, 19, .null) := by decide +kernel
theorem i_54_93 : aIns 54 93 = some (.return_, 1, 0, 0, .null) := by decide +kernel
theorem i_59_0 : aIns 59 0 = some (.aload_n 0, 1, 0, 0, .null) := by decide +kernel
theorem i_59_1 : aIns 59 1 = some (.invokespecial 3, 3, 1000, 0, .null) := by decide +kernel
theorem i_59_4 : aIns 59 4 = some (.aload_n 0, 1, 0, 0, .null) := by decide +kernel
theorem i_59_5 : aIns 59 5 = some (.aload_n 1, 1, 0, 0, .null) := by decide +kernel
theorem i_59_6 : aIns 59 6 = some (.putfield 9, 3, 6, 0, .null) := by decide +kernel
theorem i_59_9 : aIns 59 9 = some (.return_, 1, 0, 0, .null) := by decide +kernel
theorem i_70_0 : aIns 70 0 = some (.aload_n 0, 1, 0, 0, .null) := by decide +kernel
theorem i_70_1 : aIns 70 1 = some (.invokespecial 3, 3, 1000, 0, .null) := by decide +kernel
theorem i_70_4 : aIns 70 4 = some (.aload_n 0, 1, 0, 0, .null) := by decide +kernel
theorem i_70_5 : aIns 70 5 = some (.bipush 8, 2, 0, 0, .int (8)) := by decide +kernel
theorem i_70_7 : aIns 70 7 = some (.newarray .int, 2, 0, 0, .null) := by decide +kernel
theorem i_70_9 : aIns 70 9 = some (.putfield 9, 3, 7, 0, .null) := by decide +kernel
theorem i_70_12 : aIns 70 12 = some (.aload_n 0, 1, 0, 0, .null) := by decide +kernel
theorem i_70_13 : aIns 70 13 = some (.bipush 8, 2, 0, 0, .int (8)) := by decide +kernel
theorem i_70_15 : aIns 70 15 = some (.newarray .int, 2, 0, 0, .null) := by decide +kernel
theorem i_70_17 : aIns 70 17 = some (.putfield 15, 3, 7, 1, .null) := by decide +kernel
theorem i_70_20 : aIns 70 20 = some (.aload_n 0, 1, 0, 0, .null) := by decide +kernel
theorem i_70_21 : aIns 70 21 = some (.bipush 8, 2, 0, 0, .int (8)) := by decide +kernel
theorem i_70_23 : aIns 70 23 = some (.newarray .int, 2, 0, 0, .null) := by decide +kernel
theorem i_70_25 : aIns 70 25 = some (.putfield 18, 3, 7, 2, .null) := by decide +kernel
theorem i_70_28 : aIns 70 28 = some (.aload_n 0, 1, 0, 0, .null) := by decide +kernel
theorem i_70_29 : aIns 70 29 = some (.bipush 8, 2, 0, 0, .int (8)) := by decide +kernel
theorem i_70_31 : aIns 70 31 = some (.newarray .int, 2, 0, 0, .null) := by decide +kernel
theorem i_70_33 : aIns 70 33 = some (.putfield 21, 3, 7, 3, .null) := by decide +kernel
theorem i_70_36 : aIns 70 36 = some (.aload_n 0, 1, 0, 0, .null) := by decide +kernel
theorem i_70_37 : aIns 70 37 = some (.bipush 8, 2, 0, 0, .int (8)) := by decide +kernel
theorem i_70_39 : aIns 70 39 = some (.newarray .int, 2, 0, 0, .null) := by decide +kernel
theorem i_70_41 : aIns 70 41 = some (.putfield 24, 3, 7, 4, .null) := by decide +kernel
theorem i_70_44 : aIns 70 44 = some (.aload_n 0, 1, 0, 0, .null) := by decide +kernel
theorem i_70_45 : aIns 70 45 = some (.bipush 8, 2, 0, 0, .int (8)) := by decide +kernel
theorem i_70_47 : aIns 70 47 = some (.newarray .int, 2, 0, 0, .null) := by decide +kernel
theorem i_70_49 : aIns 70 49 = some (.putfield 27, 3, 7, 5, .null) := by decide +kernel
theorem i_70_52 : aIns 70 52 = some (.aload_n 0, 1, 0, 0, .null) := by decide +kernel
theorem i_70_53 : aIns 70 53 = some (.iconst 5, 1, 0, 0, .int (5)) := by decide +kernel
theorem i_70_54 : aIns 70 54 = some (.newarray .int, 2, 0, 0, .null) := by decide +kernel
theorem i_70_56 : aIns 70 56 = some (.putfield 30, 3, 7, 6, .null) := by decide +kernel
theorem i_70_59 : aIns 70 59 = some (.aload_n 0, 1, 0, 0, .null) := by decide +kernel
theorem i_70_60 : aIns 70 60 = some (.iconst 5, 1, 0, 0, .int (5)) := by decide +kernel
theorem i_70_61 : aIns 70 61 = some (.newarray .int, 2, 0, 0, .null) := by decide +kernel
theorem i_70_63 : aIns 70 63 = some (.putfield 33, 3, 7, 7, .null) := by decide +kernel
theorem i_70_66 : aIns 70 66 = some (.return_, 1, 0, 0, .null) := by decide +kernel
theorem i_80_0 : aIns 80 0 = some (.aload_n 0, 1, 0, 0, .null) := by decide +kernel
theorem i_80_1 : aIns 80 1 = some (.invokespecial 3, 3, 1000, 0, .null) := by decide +kernel
theorem i_80_4 : aIns 80 4 = some (.aload_n 0, 1, 0, 0, .null) := by decide +kernel
theorem i_80_5 : aIns 80 5 = some (.sipush 400, 3, 0, 0, .int (400)) := by decide +kernel
theorem i_80_8 : aIns 80 8 = some (.newarray .byte, 2, 1, 0, .null) := by decide +kernel
theorem i_80_10 : aIns 80 10 = some (.putfield 9, 3, 8, 0, .null) := by decide +kernel
theorem i_80_13 : aIns 80 13 = some (.return_, 1, 0, 0, .null) := by decide +kernel
theorem i_88_0 : aIns 88 0 = some (.aload_n 0, 1, 0, 0, .null) := by decide +kernel
theorem i_88_1 : aIns 88 1 = some (.invokespecial 3, 3, 1000, 0, .null) := by decide +kernel
theorem i_88_4 : aIns 88 4 = some (.aload_n 0, 1, 0, 0, .null) := by decide +kernel
theorem i_88_5 : aIns 88 5 = some (.bipush 6, 2, 0, 0, .int (6)) := by decide +kernel
theorem i_88_7 : aIns 88 7 = some (.anewarray 9, 3, 6, 0, .null) := by decide +kernel
theorem i_88_10 : aIns 88 10 = some (.putfield 11, 3, 9, 1, .null) := by decide +kernel
theorem i_88_13 : aIns 88 13 = some (.aload_n 0, 1, 0, 0, .null) := by decide +kernel
theorem i_88_14 : aIns 88 14 = some (.bipush 8, 2, 0, 0, .int (8)) := by decide +kernel
theorem i_88_16 : aIns 88 16 = some (.newarray .long, 2, 3, 0, .null) := by decide +kernel
theorem i_88_18 : aIns 88 18 = some (.putfield 17, 3, 9, 3, .null) := by decide +kernel
theorem i_88_21 : aIns 88 21 = some (.aload_n 0, 1, 0, 0, .null) := by decide +kernel
theorem i_88_22 : aIns 88 22 = some (.aload_n 1, 1, 0, 0, .null) := by decide +kernel
theorem i_88_23 : aIns 88 23 = some (.putfield 21, 3, 9, 0, .null) := by decide +kernel
theorem i_88_26 : aIns 88 26 = some (.iconst 0, 1, 0, 0, .int (0)) := by decide +kernel
theorem i_88_27 : aIns 88 27 = some (.istore_n 2, 1, 0, 0, .null) := by decide +kernel
theorem i_88_28 : aIns 88 28 = some (.iload_n 2, 1, 0, 0, .null) := by decide +kernel
theorem i_88_29 : aIns 88 29 = some (.bipush 6, 2, 0, 0, .int (6)) := by decide +kernel
theorem i_88_31 : aIns 88 31 = some (.if_icmp .ge 22, 3, 0, 0, .null) := by decide +kernel
theorem i_88_34 : aIns 88 34 = some (.aload_n 0, 1, 0, 0, .null) := by decide +kernel
theorem i_88_35 : aIns 88 35 = some (.getfield 11, 3, 9, 1, .null) := by decide +kernel
theorem i_88_38 : aIns 88 38 = some (.iload_n 2, 1, 0, 0, .null) := by decide +kernel
theorem i_88_39 : aIns 88 39 = some (.new 9, 3, 3, 0, .null) := by decide +kernel
theorem i_88_42 : aIns 88 42 = some (.dup, 1, 0, 0, .null) := by decide +kernel
theorem i_88_43 : aIns 88 43 = some (.invokespecial 25, 3, 40, 0, .int 3) := by decide +kernel
theorem i_88_46 : aIns 88 46 = some (.aastore, 1, 0, 0, .null) := by decide +kernel
theorem i_88_47 : aIns 88 47 = some (.iinc 2 1, 3, 0, 0, .null) := by decide +kernel
theorem i_88_50 : aIns 88 50 = some (.goto (-22), 3, 0, 0, .null) := by decide +kernel
theorem i_88_53 : aIns 88 53 = some (.return_, 1, 0, 0, .null) := by decide +kernel
theorem i_97_0 : aIns 97 0 = some (.aload_n 0, 1, 0, 0, .null) := by decide +kernel
theorem i_97_1 : aIns 97 1 = some (.invokespecial 3, 3, 1000, 0, .null) := by decide +kernel
theorem i_97_4 : aIns 97 4 = some (.aload_n 0, 1, 0, 0, .null) := by decide +kernel
theorem i_97_5 : aIns 97 5 = some (.new 9, 3, 5, 0, .null) := by decide +kernel
theorem i_97_8 : aIns 97 8 = some (.dup, 1, 0, 0, .null) := by decide +kernel
theorem i_97_9 : aIns 97 9 = some (.invokespecial 11, 3, 54, 0, .int 5) := by decide +kernel
theorem i_97_12 : aIns 97 12 = some (.putfield 12, 3, 10, 0, .null) := by decide +kernel
theorem i_97_15 : aIns 97 15 = some (.aload_n 0, 1, 0, 0, .null) := by decide +kernel
theorem i_97_16 : aIns 97 16 = some (.new 18, 3, 7, 0, .null) := by decide +kernel
theorem i_97_19 : aIns 97 19 = some (.dup, 1, 0, 0, .null) := by decide +kernel
theorem i_97_20 : aIns 97 20 = some (.invokespecial 20, 3, 70, 0, .int 7) := by decide +kernel
theorem i_97_23 : aIns 97 23 = some (.putfield 21, 3, 10, 1, .null) := by decide +kernel
theorem i_97_26 : aIns 97 26 = some (.aload_n 0, 1, 0, 0, .null) := by decide +kernel
theorem i_97_27 : aIns 97 27 = some (.iconst (-1), 1, 0, 0, .int (-1)) := by decide +kernel
theorem i_97_28 : aIns 97 28 = some (.putfield 25, 3, 10, 2, .null) := by decide +kernel
theorem i_97_31 : aIns 97 31 = some (.aload_n 0, 1, 0, 0, .null) := by decide +kernel
theorem i_97_32 : aIns 97 32 = some (.bipush 10, 2, 0, 0, .int (10)) := by decide +kernel
theorem i_97_34 : aIns 97 34 = some (.newarray .int, 2, 0, 0, .null) := by decide +kernel
theorem i_97_36 : aIns 97 36 = some (.putfield 29, 3, 10, 4, .null) := by decide +kernel
theorem i_97_39 : aIns 97 39 = some (.aload_n 0, 1, 0, 0, .null) := by decide +kernel
theorem i_97_40 : aIns 97 40 = some (.bipush 10, 2, 0, 0, .int (10)) := by decide +kernel
theorem i_97_42 : aIns 97 42 = some (.newarray .int, 2, 0, 0, .null) := by decide +kernel
theorem i_97_44 : aIns 97 44 = some (.putfield 33, 3, 10, 5, .null) := by decide +kernel
theorem i_97_47 : aIns 97 47 = some (.aload_n 0, 1, 0, 0, .null) := by decide +kernel
theorem i_97_48 : aIns 97 48 = some (.bipush 10, 2, 0, 0, .int (10)) := by decide +kernel
theorem i_97_50 : aIns 97 50 = some (.newarray .int, 2, 0, 0, .null) := by decide +kernel
theorem i_97_52 : aIns 97 52 = some (.putfield 36, 3, 10, 6, .null) := by decide +kernel
theorem i_97_55 : aIns 97 55 = some (.aload_n 0, 1, 0, 0, .null) := by decide +kernel
theorem i_97_56 : aIns 97 56 = some (.bipush 10, 2, 0, 0, .int (10)) := by decide +kernel
theorem i_97_58 : aIns 97 58 = some (.newarray .int, 2, 0, 0, .null) := by decide +kernel
theorem i_97_60 : aIns 97 60 = some (.putfield 39, 3, 10, 7, .null) := by decide +kernel
theorem i_97_63 : aIns 97 63 = some (.return_, 1, 0, 0, .null) := by decide +kernel
theorem i_101_0 : aIns 101 0 = some (.aload_n 0, 1, 0, 0, .null) := by decide +kernel
theorem i_101_1 : aIns 101 1 = some (.invokespecial 1, 3, 1000, 0, .null) := by decide +kernel
theorem i_101_4 : aIns 101 4 = some (.aload_n 0, 1, 0, 0, .null) := by decide +kernel
theorem i_101_5 : aIns 101 5 = some (.new 7, 3, 8, 0, .null) := by decide +kernel
theorem i_101_8 : aIns 101 8 = some (.dup, 1, 0, 0, .null) := by decide +kernel
theorem i_101_9 : aIns 101 9 = some (.invokespecial 9, 3, 80, 0, .int 8) := by decide +kernel
theorem i_101_12 : aIns 101 12 = some (.putfield 10, 3, 11, 0, .null) := by decide +kernel
theorem i_101_15 : aIns 101 15 = some (.aload_n 0, 1, 0, 0, .null) := by decide +kernel
theorem i_101_16 : aIns 101 16 = some (.new 16, 3, 6, 0, .null) := by decide +kernel
theorem i_101_19 : aIns 101 19 = some (.dup, 1, 0, 0, .null) := by decide +kernel
theorem i_101_20 : aIns 101 20 = some (.aload_n 0, 1, 0, 0, .null) := by decide +kernel
theorem i_101_21 : aIns 101 21 = some (.getfield 10, 3, 11, 0, .null) := by decide +kernel
theorem i_101_24 : aIns 101 24 = some (.invokespecial 18, 3, 59, 1, .int 6) := by decide +kernel
theorem i_101_27 : aIns 101 27 = some (.putfield 21, 3, 11, 1, .null) := by decide +kernel
theorem i_101_30 : aIns 101 30 = some (.aload_n 0, 1, 0, 0, .null) := by decide +kernel
theorem i_101_31 : aIns 101 31 = some (.new 25, 3, 4, 0, .null) := by decide +kernel
theorem i_101_34 : aIns 101 34 = some (.dup, 1, 0, 0, .null) := by decide +kernel
theorem i_101_35 : aIns 101 35 = some (.aload_n 0, 1, 0, 0, .null) := by decide +kernel
theorem i_101_36 : aIns 101 36 = some (.getfield 10, 3, 11, 0, .null) := by decide +kernel
theorem i_101_39 : aIns 101 39 = some (.invokespecial 27, 3, 44, 1, .int 4) := by decide +kernel
theorem i_101_42 : aIns 101 42 = some (.putfield 28, 3, 11, 2, .null) := by decide +kernel
theorem i_101_45 : aIns 101 45 = some (.aload_n 0, 1, 0, 0, .null) := by decide +kernel
theorem i_101_46 : aIns 101 46 = some (.new 32, 3, 10, 0, .null) := by decide +kernel
theorem i_101_49 : aIns 101 49 = some (.dup, 1, 0, 0, .null) := by decide +kernel
theorem i_101_50 : aIns 101 50 = some (.invokespecial 34, 3, 97, 0, .int 10) := by decide +kernel
theorem i_101_53 : aIns 101 53 = some (.putfield 35, 3, 11, 3, .null) := by decide +kernel
theorem i_101_56 : aIns 101 56 = some (.aload_n 0, 1, 0, 0, .null) := by decide +kernel
theorem i_101_57 : aIns 101 57 = some (.new 39, 3, 9, 0, .null) := by decide +kernel
theorem i_101_60 : aIns 101 60 = some (.dup, 1, 0, 0, .null) := by decide +kernel
theorem i_101_61 : aIns 101 61 = some (.aload_n 0, 1, 0, 0, .null) := by decide +kernel
theorem i_101_62 : aIns 101 62 = some (.getfield 35, 3, 11, 3, .null) := by decide +kernel
theorem i_101_65 : aIns 101 65 = some (.invokespecial 41, 3, 88, 1, .int 9) := by decide +kernel
theorem i_101_68 : aIns 101 68 = some (.putfield 44, 3, 11, 4, .null) := by decide +kernel
theorem i_101_71 : aIns 101 71 = some (.aload_n 0, 1, 0, 0, .null) := by decide +kernel
theorem i_101_72 : aIns 101 72 = some (.new 48, 3, 2, 0, .null) := by decide +kernel
theorem i_101_75 : aIns 101 75 = some (.dup, 1, 0, 0, .null) := by decide +kernel
theorem i_101_76 : aIns 101 76 = some (.aload_n 0, 1, 0, 0, .null) := by decide +kernel
theorem i_101_77 : aIns 101 77 = some (.getfield 35, 3, 11, 3, .null) := by decide +kernel
theorem i_101_80 : aIns 101 80 = some (.aload_n 0, 1, 0, 0, .null) := by decide +kernel
theorem i_101_81 : aIns 101 81 = some (.getfield 44, 3, 11, 4, .null) := by decide +kernel
theorem i_101_84 : aIns 101 84 = some (.invokespecial 50, 3, 11, 2, .int 2) := by decide +kernel
theorem i_101_87 : aIns 101 87 = some (.putfield 53, 3, 11, 5, .null) := by decide +kernel
theorem i_101_90 : aIns 101 90 = some (.aload_n 0, 1, 0, 0, .null) := by decide +kernel
theorem i_101_91 : aIns 101 91 = some (.new 57, 3, 1, 0, .null) := by decide +kernel
theorem i_101_94 : aIns 101 94 = some (.dup, 1, 0, 0, .null) := by decide +kernel
theorem i_101_95 : aIns 101 95 = some (.invokespecial 59, 3, 7, 0, .int 1) := by decide +kernel
theorem i_101_98 : aIns 101 98 = some (.putfield 60, 3, 11, 6, .null) := by decide +kernel
theorem i_101_101 : aIns 101 101 = some (.aload_n 0, 1, 0, 0, .null) := by decide +kernel
theorem i_101_102 : aIns 101 102 = some (.iconst 4, 1, 0, 0, .int (4)) := by decide +kernel
theorem i_101_103 : aIns 101 103 = some (.anewarray 32, 3, 5, 0, .null) := by decide +kernel
theorem i_101_106 : aIns 101 106 = some (.putfield 64, 3, 11, 7, .null) := by decide +kernel
theorem i_101_109 : aIns 101 109 = some (.aload_n 0, 1, 0, 0, .null) := by decide +kernel
theorem i_101_110 : aIns 101 110 = some (.iconst 4, 1, 0, 0, .int (4)) := by decide +kernel
theorem i_101_111 : aIns 101 111 = some (.newarray .boolean, 2, 2, 0, .null) := by decide +kernel
theorem i_101_113 : aIns 101 113 = some (.putfield 68, 3, 11, 8, .null) := by decide +kernel
theorem i_101_116 : aIns 101 116 = some (.iconst 0, 1, 0, 0, .int (0)) := by decide +kernel
theorem i_101_117 : aIns 101 117 = some (.istore_n 1, 1, 0, 0, .null) := by decide +kernel
theorem i_101_118 : aIns 101 118 = some (.iload_n 1, 1, 0, 0, .null) := by decide +kernel
theorem i_101_119 : aIns 101 119 = some (.iconst 4, 1, 0, 0, .int (4)) := by decide +kernel
theorem i_101_120 : aIns 101 120 = some (.if_icmp .ge 22, 3, 0, 0, .null) := by decide +kernel
theorem i_101_123 : aIns 101 123 = some (.aload_n 0, 1, 0, 0, .null) := by decide +kernel
theorem i_101_124 : aIns 101 124 = some (.getfield 64, 3, 11, 7, .null) := by decide +kernel
theorem i_101_127 : aIns 101 127 = some (.iload_n 1, 1, 0, 0, .null) := by decide +kernel
theorem i_101_128 : aIns 101 128 = some (.new 32, 3, 10, 0, .null) := by decide +kernel
theorem i_101_131 : aIns 101 131 = some (.dup, 1, 0, 0, .null) := by decide +kernel
theorem i_101_132 : aIns 101 132 = some (.invokespecial 34, 3, 97, 0, .int 10) := by decide +kernel
theorem i_101_135 : aIns 101 135 = some (.aastore, 1, 0, 0, .null) := by decide +kernel
theorem i_101_136 : aIns 101 136 = some (.iinc 1 1, 3, 0, 0, .null) := by decide +kernel
theorem i_101_139 : aIns 101 139 = some (.goto (-21), 3, 0, 0, .null) := by decide +kernel
theorem i_101_142 : aIns 101 142 = some (.return_, 1, 0, 0, .null) := by decide +kernel
theorem i_139_0 : aIns 139 0 = some (.aload_n 0, 1, 0, 0, .null) := by decide +kernel
theorem i_139_1 : aIns 139 1 = some (.invokespecial 1, 3, 1000, 0, .null) := by decide +kernel
theorem i_139_4 : aIns 139 4 = some (.aload_n 0, 1, 0, 0, .null) := by decide +kernel
theorem i_139_5 : aIns 139 5 = some (.sipush 400, 3, 0, 0, .int (400)) := by decide +kernel
theorem i_139_8 : aIns 139 8 = some (.newarray .byte, 2, 1, 0, .null) := by decide +kernel
theorem i_139_10 : aIns 139 10 = some (.putfield 7, 3, 12, 0, .null) := by decide +kernel
theorem i_139_13 : aIns 139 13 = some (.aload_n 0, 1, 0, 0, .null) := by decide +kernel
theorem i_139_14 : aIns 139 14 = some (.sipush 2400, 3, 0, 0, .int (2400)) := by decide +kernel
theorem i_139_17 : aIns 139 17 = some (.newarray .int, 2, 0, 0, .null) := by decide +kernel
theorem i_139_19 : aIns 139 19 = some (.putfield 13, 3, 12, 3, .null) := by decide +kernel
theorem i_139_22 : aIns 139 22 = some (.aload_n 0, 1, 0, 0, .null) := by decide +kernel
theorem i_139_23 : aIns 139 23 = some (.bipush 7, 2, 0, 0, .int (7)) := by decide +kernel
theorem i_139_25 : aIns 139 25 = some (.newarray .int, 2, 0, 0, .null) := by decide +kernel
theorem i_139_27 : aIns 139 27 = some (.putfield 17, 3, 12, 4, .null) := by decide +kernel
theorem i_139_30 : aIns 139 30 = some (.aload_n 0, 1, 0, 0, .null) := by decide +kernel
theorem i_139_31 : aIns 139 31 = some (.sipush 288, 3, 0, 0, .int (288)) := by decide +kernel
theorem i_139_34 : aIns 139 34 = some (.newarray .int, 2, 0, 0, .null) := by decide +kernel
theorem i_139_36 : aIns 139 36 = some (.putfield 20, 3, 12, 5, .null) := by decide +kernel
theorem i_139_39 : aIns 139 39 = some (.aload_n 0, 1, 0, 0, .null) := by decide +kernel
theorem i_139_40 : aIns 139 40 = some (.bipush 6, 2, 0, 0, .int (6)) := by decide +kernel
theorem i_139_42 : aIns 139 42 = some (.newarray .int, 2, 0, 0, .null) := by decide +kernel
theorem i_139_44 : aIns 139 44 = some (.putfield 23, 3, 12, 6, .null) := by decide +kernel
theorem i_139_47 : aIns 139 47 = some (.aload_n 0, 1, 0, 0, .null) := by decide +kernel
theorem i_139_48 : aIns 139 48 = some (.sipush 140, 3, 0, 0, .int (140)) := by decide +kernel
theorem i_139_51 : aIns 139 51 = some (.newarray .int, 2, 0, 0, .null) := by decide +kernel
theorem i_139_53 : aIns 139 53 = some (.putfield 26, 3, 12, 7, .null) := by decide +kernel
theorem i_139_56 : aIns 139 56 = some (.aload_n 0, 1, 0, 0, .null) := by decide +kernel
theorem i_139_57 : aIns 139 57 = some (.sipush 400, 3, 0, 0, .int (400)) := by decide +kernel
theorem i_139_60 : aIns 139 60 = some (.newarray .int, 2, 0, 0, .null) := by decide +kernel
theorem i_139_62 : aIns 139 62 = some (.putfield 29, 3, 12, 15, .null) := by decide +kernel
theorem i_139_65 : aIns 139 65 = some (.aload_n 0, 1, 0, 0, .null) := by decide +kernel
theorem i_139_66 : aIns 139 66 = some (.bipush 64, 2, 0, 0, .int (64)) := by decide +kernel
theorem i_139_68 : aIns 139 68 = some (.newarray .long, 2, 3, 0, .null) := by decide +kernel
theorem i_139_70 : aIns 139 70 = some (.putfield 32, 3, 12, 17, .null) := by decide +kernel
theorem i_139_73 : aIns 139 73 = some (.aload_n 0, 1, 0, 0, .null) := by decide +kernel
theorem i_139_74 : aIns 139 74 = some (.bipush 8, 2, 0, 0, .int (8)) := by decide +kernel
theorem i_139_76 : aIns 139 76 = some (.newarray .long, 2, 3, 0, .null) := by decide +kernel
theorem i_139_78 : aIns 139 78 = some (.putfield 36, 3, 12, 19, .null) := by decide +kernel
theorem i_139_81 : aIns 139 81 = some (.aload_n 0, 1, 0, 0, .null) := by decide +kernel
theorem i_139_82 : aIns 139 82 = some (.sipush 181, 3, 0, 0, .int (181)) := by decide +kernel
theorem i_139_85 : aIns 139 85 = some (.newarray .int, 2, 0, 0, .null) := by decide +kernel
theorem i_139_87 : aIns 139 87 = some (.putfield 39, 3, 12, 20, .null) := by decide +kernel
theorem i_139_90 : aIns 139 90 = some (.aload_n 0, 1, 0, 0, .null) := by decide +kernel
theorem i_139_91 : aIns 139 91 = some (.iconst (-1), 1, 0, 0, .int (-1)) := by decide +kernel
theorem i_139_92 : aIns 139 92 = some (.putfield 42, 3, 12, 21, .null) := by decide +kernel
theorem i_139_95 : aIns 139 95 = some (.aload_n 0, 1, 0, 0, .null) := by decide +kernel
theorem i_139_96 : aIns 139 96 = some (.iconst 5, 1, 0, 0, .int (5)) := by decide +kernel
theorem i_139_97 : aIns 139 97 = some (.newarray .int, 2, 0, 0, .null) := by decide +kernel
theorem i_139_99 : aIns 139 99 = some (.putfield 46, 3, 12, 23, .null) := by decide +kernel
theorem i_139_102 : aIns 139 102 = some (.aload_n 0, 1, 0, 0, .null) := by decide +kernel
theorem i_139_103 : aIns 139 103 = some (.sipush 1600, 3, 0, 0, .int (1600)) := by decide +kernel
theorem i_139_106 : aIns 139 106 = some (.newarray .int, 2, 0, 0, .null) := by decide +kernel
theorem i_139_108 : aIns 139 108 = some (.putfield 49, 3, 12, 26, .null) := by decide +kernel
theorem i_139_111 : aIns 139 111 = some (.aload_n 0, 1, 0, 0, .null) := by decide +kernel
theorem i_139_112 : aIns 139 112 = some (.bipush 8, 2, 0, 0, .int (8)) := by decide +kernel
theorem i_139_114 : aIns 139 114 = some (.newarray .int, 2, 0, 0, .null) := by decide +kernel
theorem i_139_116 : aIns 139 116 = some (.putfield 52, 3, 12, 28, .null) := by decide +kernel
theorem i_139_119 : aIns 139 119 = some (.aload_n 0, 1, 0, 0, .null) := by decide +kernel
theorem i_139_120 : aIns 139 120 = some (.iconst 4, 1, 0, 0, .int (4)) := by decide +kernel
theorem i_139_121 : aIns 139 121 = some (.newarray .int, 2, 0, 0, .null) := by decide +kernel
theorem i_139_123 : aIns 139 123 = some (.putfield 55, 3, 12, 31, .null) := by decide +kernel
theorem i_139_126 : aIns 139 126 = some (.aload_n 0, 1, 0, 0, .null) := by decide +kernel
theorem i_139_127 : aIns 139 127 = some (.bipush 6, 2, 0, 0, .int (6)) := by decide +kernel
theorem i_139_129 : aIns 139 129 = some (.newarray .int, 2, 0, 0, .null) := by decide +kernel
theorem i_139_131 : aIns 139 131 = some (.putfield 58, 3, 12, 32, .null) := by decide +kernel
theorem i_139_134 : aIns 139 134 = some (.aload_n 0, 1, 0, 0, .null) := by decide +kernel
theorem i_139_135 : aIns 139 135 = some (.bipush 6, 2, 0, 0, .int (6)) := by decide +kernel
theorem i_139_137 : aIns 139 137 = some (.newarray .int, 2, 0, 0, .null) := by decide +kernel
theorem i_139_139 : aIns 139 139 = some (.putfield 61, 3, 12, 33, .null) := by decide +kernel
theorem i_139_142 : aIns 139 142 = some (.aload_n 0, 1, 0, 0, .null) := by decide +kernel
theorem i_139_143 : aIns 139 143 = some (.bipush 80, 2, 0, 0, .int (80)) := by decide +kernel
theorem i_139_145 : aIns 139 145 = some (.newarray .int, 2, 0, 0, .null) := by decide +kernel
theorem i_139_147 : aIns 139 147 = some (.putfield 64, 3, 12, 34, .null) := by decide +kernel
theorem i_139_150 : aIns 139 150 = some (.aload_n 0, 1, 0, 0, .null) := by decide +kernel
theorem i_139_151 : aIns 139 151 = some (.bipush 8, 2, 0, 0, .int (8)) := by decide +kernel
theorem i_139_153 : aIns 139 153 = some (.newarray .int, 2, 0, 0, .null) := by decide +kernel
theorem i_139_155 : aIns 139 155 = some (.putfield 67, 3, 12, 35, .null) := by decide +kernel
theorem i_139_158 : aIns 139 158 = some (.aload_n 0, 1, 0, 0, .null) := by decide +kernel
theorem i_139_159 : aIns 139 159 = some (.bipush 7, 2, 0, 0, .int (7)) := by decide +kernel
theorem i_139_161 : aIns 139 161 = some (.newarray .int, 2, 0, 0, .null) := by decide +kernel
theorem i_139_163 : aIns 139 163 = some (.putfield 70, 3, 12, 39, .null) := by decide +kernel
theorem i_139_166 : aIns 139 166 = some (.aload_n 0, 1, 0, 0, .null) := by decide +kernel
theorem i_139_167 : aIns 139 167 = some (.sipush 724, 3, 0, 0, .int (724)) := by decide +kernel
theorem i_139_170 : aIns 139 170 = some (.newarray .int, 2, 0, 0, .null) := by decide +kernel
theorem i_139_172 : aIns 139 172 = some (.putfield 73, 3, 12, 43, .null) := by decide +kernel
theorem i_139_175 : aIns 139 175 = some (.aload_n 0, 1, 0, 0, .null) := by decide +kernel
theorem i_139_176 : aIns 139 176 = some (.iconst 4, 1, 0, 0, .int (4)) := by decide +kernel
theorem i_139_177 : aIns 139 177 = some (.newarray .int, 2, 0, 0, .null) := by decide +kernel
theorem i_139_179 : aIns 139 179 = some (.putfield 76, 3, 12, 44, .null) := by decide +kernel
theorem i_139_182 : aIns 139 182 = some (.aload_n 0, 1, 0, 0, .null) := by decide +kernel
theorem i_139_183 : aIns 139 183 = some (.iconst 4, 1, 0, 0, .int (4)) := by decide +kernel
theorem i_139_184 : aIns 139 184 = some (.newarray .int, 2, 0, 0, .null) := by decide +kernel
theorem i_139_186 : aIns 139 186 = some (.putfield 79, 3, 12, 45, .null) := by decide +kernel
theorem i_139_189 : aIns 139 189 = some (.aload_n 0, 1, 0, 0, .null) := by decide +kernel
theorem i_139_190 : aIns 139 190 = some (.iconst 4, 1, 0, 0, .int (4)) := by decide +kernel
theorem i_139_191 : aIns 139 191 = some (.newarray .boolean, 2, 2, 0, .null) := by decide +kernel
theorem i_139_193 : aIns 139 193 = some (.putfield 82, 3, 12, 46, .null) := by decide +kernel
theorem i_139_196 : aIns 139 196 = some (.return_, 1, 0, 0, .null) := by decide +kernel
def d_0 (g : Nat) (a0 : Nat) (h0 : aH) : Option (aH) := ((sF (nA h0 0 8) a0 0 3 (.ref (h0).length)).bind (fun h_1 => some h_1))
set_option maxHeartbeats 4000000 in
set_option maxRecDepth 100000 in
theorem d_0_ok {X : aX} {g : Nat} {a0 : Nat} {h0 : aH} {zz : aH} {d : Nat} (hdp : 0 ≤ d) (hd : d_0 g a0 h0 = some zz) : aWp X d 0 0 (aEntL [.ref a0] 1) [] h0 (fun w h' => w = none ∧ h' = zz) := by
  unfold d_0 at hd
  refine wp_lv (l2 := [some (.ref a0)]) rfl ?_
  refine wp_s 1 [some (.ref a0)] [.ref a0] h0 i_0_0 rfl ?_
  refine hp_obj 4 rfl i_0_1 rfl ?_
  refine wp_s 5 [some (.ref a0)] [.ref a0] h0 i_0_4 rfl ?_
  refine wp_s 7 [some (.ref a0)] [.int (8 : Int32), .ref a0] h0 i_0_5 rfl ?_
  refine hp_newa (N := 8) 9 rfl i_0_7 (by decide) (by decide) (by decide) ?_
  obtain ⟨h_1, q_2, hd⟩ := dk_bind hd
  refine hp_sF 12 rfl i_0_9 q_2 ?_
  obtain rfl := Option.some.inj hd
  exact wp_ret i_0_12 rfl ⟨rfl, rfl⟩
def d_70 (g : Nat) (a0 : Nat) (h0 : aH) : Option (aH) := ((sF (nA h0 0 8) a0 7 0 (.ref (h0).length)).bind (fun h_1 => ((sF (nA h_1 0 8) a0 7 1 (.ref (h_1).length)).bind (fun h_3 => ((sF (nA h_3 0 8) a0 7 2 (.ref (h_3).length)).bind (fun h_5 => ((sF (nA h_5 0 8) a0 7 3 (.ref (h_5).length)).bind (fun h_7 => ((sF (nA h_7 0 8) a0 7 4 (.ref (h_7).length)).bind (fun h_9 => ((sF (nA h_9 0 8) a0 7 5 (.ref (h_9).length)).bind (fun h_11 => ((sF (nA h_11 0 5) a0 7 6 (.ref (h_11).length)).bind (fun h_13 => ((sF (nA h_13 0 5) a0 7 7 (.ref (h_13).length)).bind (fun h_15 => some h_15))))))))))))))))
set_option maxHeartbeats 4000000 in
set_option maxRecDepth 100000 in
theorem d_70_ok {X : aX} {g : Nat} {a0 : Nat} {h0 : aH} {zz : aH} {d : Nat} (hdp : 0 ≤ d) (hd : d_70 g a0 h0 = some zz) : aWp X d 70 0 (aEntL [.ref a0] 1) [] h0 (fun w h' => w = none ∧ h' = zz) := by
  unfold d_70 at hd
  refine wp_lv (l2 := [some (.ref a0)]) rfl ?_
  refine wp_s 1 [some (.ref a0)] [.ref a0] h0 i_70_0 rfl ?_
  refine hp_obj 4 rfl i_70_1 rfl ?_
  refine wp_s 5 [some (.ref a0)] [.ref a0] h0 i_70_4 rfl ?_
  refine wp_s 7 [some (.ref a0)] [.int (8 : Int32), .ref a0] h0 i_70_5 rfl ?_
  refine hp_newa (N := 8) 9 rfl i_70_7 (by decide) (by decide) (by decide) ?_
  obtain ⟨h_1, q_2, hd⟩ := dk_bind hd
  refine hp_sF 12 rfl i_70_9 q_2 ?_
  refine wp_s 13 [some (.ref a0)] [.ref a0] h_1 i_70_12 rfl ?_
  refine wp_s 15 [some (.ref a0)] [.int (8 : Int32), .ref a0] h_1 i_70_13 rfl ?_
  refine hp_newa (N := 8) 17 rfl i_70_15 (by decide) (by decide) (by decide) ?_
  obtain ⟨h_3, q_4, hd⟩ := dk_bind hd
  refine hp_sF 20 rfl i_70_17 q_4 ?_
  refine wp_s 21 [some (.ref a0)] [.ref a0] h_3 i_70_20 rfl ?_
  refine wp_s 23 [some (.ref a0)] [.int (8 : Int32), .ref a0] h_3 i_70_21 rfl ?_
  refine hp_newa (N := 8) 25 rfl i_70_23 (by decide) (by decide) (by decide) ?_
  obtain ⟨h_5, q_6, hd⟩ := dk_bind hd
  refine hp_sF 28 rfl i_70_25 q_6 ?_
  refine wp_s 29 [some (.ref a0)] [.ref a0] h_5 i_70_28 rfl ?_
  refine wp_s 31 [some (.ref a0)] [.int (8 : Int32), .ref a0] h_5 i_70_29 rfl ?_
  refine hp_newa (N := 8) 33 rfl i_70_31 (by decide) (by decide) (by decide) ?_
  obtain ⟨h_7, q_8, hd⟩ := dk_bind hd
  refine hp_sF 36 rfl i_70_33 q_8 ?_
  refine wp_s 37 [some (.ref a0)] [.ref a0] h_7 i_70_36 rfl ?_
  refine wp_s 39 [some (.ref a0)] [.int (8 : Int32), .ref a0] h_7 i_70_37 rfl ?_
  refine hp_newa (N := 8) 41 rfl i_70_39 (by decide) (by decide) (by decide) ?_
  obtain ⟨h_9, q_10, hd⟩ := dk_bind hd
  refine hp_sF 44 rfl i_70_41 q_10 ?_
  refine wp_s 45 [some (.ref a0)] [.ref a0] h_9 i_70_44 rfl ?_
  refine wp_s 47 [some (.ref a0)] [.int (8 : Int32), .ref a0] h_9 i_70_45 rfl ?_
  refine hp_newa (N := 8) 49 rfl i_70_47 (by decide) (by decide) (by decide) ?_
  obtain ⟨h_11, q_12, hd⟩ := dk_bind hd
  refine hp_sF 52 rfl i_70_49 q_12 ?_
  refine wp_s 53 [some (.ref a0)] [.ref a0] h_11 i_70_52 rfl ?_
  refine wp_s 54 [some (.ref a0)] [.int (5 : Int32), .ref a0] h_11 i_70_53 rfl ?_
  refine hp_newa (N := 5) 56 rfl i_70_54 (by decide) (by decide) (by decide) ?_
  obtain ⟨h_13, q_14, hd⟩ := dk_bind hd
  refine hp_sF 59 rfl i_70_56 q_14 ?_
  refine wp_s 60 [some (.ref a0)] [.ref a0] h_13 i_70_59 rfl ?_
  refine wp_s 61 [some (.ref a0)] [.int (5 : Int32), .ref a0] h_13 i_70_60 rfl ?_
  refine hp_newa (N := 5) 63 rfl i_70_61 (by decide) (by decide) (by decide) ?_
  obtain ⟨h_15, q_16, hd⟩ := dk_bind hd
  refine hp_sF 66 rfl i_70_63 q_16 ?_
  obtain rfl := Option.some.inj hd
  exact wp_ret i_70_66 rfl ⟨rfl, rfl⟩
def l_7 (g n tag : Nat) (a0 : Nat) (x1 : Int32) (h0 : aH) : Option (aH) := match n with
  | 0 => none
  | n + 1 => if tag = 0 then (if (20 : Int32) ≤ x1 then some h0 else ((gR h0 a0 1 0).bind (fun f_2 => (if isO (nO h0 7) (h0).length 7 = true then ((d_70 g (h0).length (nO h0 7)).bind (fun z_7 => ((sQ z_7 f_2 x1 (h0).length).bind (fun h_11 => (l_7 g n 0 a0 (x1 + (1 : Int32)) h_11))))) else none)))) else none
set_option maxHeartbeats 4000000 in
set_option maxRecDepth 100000 in
theorem l_7_ok {X : aX} {g : Nat} {d : Nat} (hdp : 1 ≤ d) : ∀ n, (∀ (a0 : Nat) (x1 : Int32) (h0 : aH) (zz : aH), l_7 g n 0 a0 x1 h0 = some zz → aWp X d 7 15 [some (.ref a0), some (.int x1)] [] h0 (fun w h' => w = none ∧ h' = zz)) := by
  intro n
  induction n with
  | zero => exact fun _ _ _ _ hd => by simp [l_7] at hd
  | succ n ih =>
    intro a0 x1 h0 zz hd
    unfold l_7 at hd
    rw [if_pos rfl] at hd
    obtain ⟨e, rfl⟩ : ∃ e, d = e + 1 := ⟨d - 1, by omega⟩
    refine wp_s 16 [some (.ref a0), some (.int x1)] [.int x1] h0 i_7_15 rfl ?_
    refine wp_s 18 [some (.ref a0), some (.int x1)] [.int (20 : Int32), .int x1] h0 i_7_16 rfl ?_
    refine wp_cmp_ge 40 21 rfl rfl i_7_18 (fun c_1 => ?_) (fun c_1 => ?_)
    · rw [if_pos c_1] at hd
      obtain rfl := Option.some.inj hd
      exact wp_ret i_7_40 rfl ⟨rfl, rfl⟩
    · rw [if_neg c_1] at hd
      refine wp_s 22 [some (.ref a0), some (.int x1)] [.ref a0] h0 i_7_21 rfl ?_
      obtain ⟨f_2, q_3, hd⟩ := dk_bind hd
      refine hp_gR 25 rfl i_7_22 q_3 ?_
      refine wp_s 26 [some (.ref a0), some (.int x1)] [.int x1, .ref f_2] h0 i_7_25 rfl ?_
      refine wp_s 29 [some (.ref a0), some (.int x1)] [.ref (h0).length, .int x1, .ref f_2] (nO h0 7) i_7_26 rfl ?_
      refine wp_s 30 [some (.ref a0), some (.int x1)] [.ref (h0).length, .ref (h0).length, .int x1, .ref f_2] (nO h0 7) i_7_29 rfl ?_
      obtain ⟨k_4, hd⟩ := dk_if hd
      obtain ⟨fs_5, o_6⟩ := isO_of k_4
      obtain ⟨z_7, q_8, hd⟩ := dk_bind hd
      refine wp_callI 33 rfl i_7_30 (by decide) rfl (vs := []) (rest := [.ref (h0).length, .int x1, .ref f_2]) rfl rfl rfl o_6 (y := m_70) rfl (Nat.le_of_ble_eq_true rfl) (d_70_ok (d := e) (by omega) q_8) ?_
      rintro v_9 h_10 ⟨rfl, hz⟩
      have hz := hz.symm
      subst hz
      obtain ⟨h_11, q_12, hd⟩ := dk_bind hd
      refine hp_sQ 34 rfl i_7_33 q_12 ?_
      refine wp_s 37 [some (.ref a0), some (.int (x1 + (1 : Int32)))] [] h_11 i_7_34 rfl ?_
      refine wp_s 15 [some (.ref a0), some (.int (x1 + (1 : Int32)))] [] h_11 i_7_37 rfl ?_
      exact aWp.forget (ih _ _ _ _ hd) (lvS (lvS lvE))
def d_7 (g : Nat) (a0 : Nat) (h0 : aH) : Option (aH) := ((sF (nQ h0 4 20) a0 1 0 (.ref (h0).length)).bind (fun h_1001 => (l_7 g g 0 a0 (0 : Int32) h_1001)))
set_option maxHeartbeats 4000000 in
set_option maxRecDepth 100000 in
theorem d_7_ok {X : aX} {g : Nat} {a0 : Nat} {h0 : aH} {zz : aH} {d : Nat} (hdp : 1 ≤ d) (hd : d_7 g a0 h0 = some zz) : aWp X d 7 0 (aEntL [.ref a0] 2) [] h0 (fun w h' => w = none ∧ h' = zz) := by
  unfold d_7 at hd
  refine wp_lv (l2 := [some (.ref a0), none]) rfl ?_
  obtain ⟨e, rfl⟩ : ∃ e, d = e + 1 := ⟨d - 1, by omega⟩
  refine wp_s 1 [some (.ref a0), none] [.ref a0] h0 i_7_0 rfl ?_
  refine hp_obj 4 rfl i_7_1 rfl ?_
  refine wp_s 5 [some (.ref a0), none] [.ref a0] h0 i_7_4 rfl ?_
  refine wp_s 7 [some (.ref a0), none] [.int (20 : Int32), .ref a0] h0 i_7_5 rfl ?_
  refine hp_anew (N := 20) 10 rfl i_7_7 (by decide) (by decide) (by decide) ?_
  obtain ⟨h_1001, q_1002, hd⟩ := dk_bind hd
  refine hp_sF 13 rfl i_7_10 q_1002 ?_
  refine wp_s 14 [some (.ref a0), none] [.int (0 : Int32)] h_1001 i_7_13 rfl ?_
  refine wp_s 15 [some (.ref a0), some (.int (0 : Int32))] [] h_1001 i_7_14 rfl ?_
  exact aWp.forget ((l_7_ok hdp g) _ _ _ _ hd) (lvS (lvS lvE))
def d_11 (g : Nat) (a0 : Nat) (a1 : Nat) (a2 : Nat) (h0 : aH) : Option (aH) := (if isO (nO h0 0) (h0).length 0 = true then ((d_0 g (h0).length (nO h0 0)).bind (fun z_4 => ((sF z_4 a0 2 2 (.ref (h0).length)).bind (fun h_8 => ((sF (nA h_8 0 8) a0 2 3 (.ref (h_8).length)).bind (fun h_10 => ((sF (nA h_10 0 8) a0 2 4 (.ref (h_10).length)).bind (fun h_12 => ((sF (nA h_12 0 6) a0 2 5 (.ref (h_12).length)).bind (fun h_14 => ((sF (nA h_14 0 30) a0 2 6 (.ref (h_14).length)).bind (fun h_16 => ((sF (nA h_16 0 8) a0 2 7 (.ref (h_16).length)).bind (fun h_18 => ((sF (nA h_18 0 7) a0 2 8 (.ref (h_18).length)).bind (fun h_20 => ((sF (nA h_20 0 7) a0 2 9 (.ref (h_20).length)).bind (fun h_22 => (if isO (nO h_22 7) (h_22).length 7 = true then ((d_70 g (h_22).length (nO h_22 7)).bind (fun z_27 => ((sF z_27 a0 2 10 (.ref (h_22).length)).bind (fun h_31 => ((sF h_31 a0 2 0 (.ref a1)).bind (fun h_33 => ((sF h_33 a0 2 1 (.ref a2)).bind (fun h_35 => some h_35)))))))) else none))))))))))))))))))) else none)
set_option maxHeartbeats 4000000 in
set_option maxRecDepth 100000 in
theorem d_11_ok {X : aX} {g : Nat} {a0 : Nat} {a1 : Nat} {a2 : Nat} {h0 : aH} {zz : aH} {d : Nat} (hdp : 1 ≤ d) (hd : d_11 g a0 a1 a2 h0 = some zz) : aWp X d 11 0 (aEntL [.ref a0, .ref a1, .ref a2] 3) [] h0 (fun w h' => w = none ∧ h' = zz) := by
  unfold d_11 at hd
  refine wp_lv (l2 := [some (.ref a0), some (.ref a1), some (.ref a2)]) rfl ?_
  obtain ⟨e, rfl⟩ : ∃ e, d = e + 1 := ⟨d - 1, by omega⟩
  refine wp_s 1 [some (.ref a0), some (.ref a1), some (.ref a2)] [.ref a0] h0 i_11_0 rfl ?_
  refine hp_obj 4 rfl i_11_1 rfl ?_
  refine wp_s 5 [some (.ref a0), some (.ref a1), some (.ref a2)] [.ref a0] h0 i_11_4 rfl ?_
  refine wp_s 8 [some (.ref a0), some (.ref a1), some (.ref a2)] [.ref (h0).length, .ref a0] (nO h0 0) i_11_5 rfl ?_
  refine wp_s 9 [some (.ref a0), some (.ref a1), some (.ref a2)] [.ref (h0).length, .ref (h0).length, .ref a0] (nO h0 0) i_11_8 rfl ?_
  obtain ⟨k_1, hd⟩ := dk_if hd
  obtain ⟨fs_2, o_3⟩ := isO_of k_1
  obtain ⟨z_4, q_5, hd⟩ := dk_bind hd
  refine wp_callI 12 rfl i_11_9 (by decide) rfl (vs := []) (rest := [.ref (h0).length, .ref a0]) rfl rfl rfl o_3 (y := m_0) rfl (Nat.le_of_ble_eq_true rfl) (d_0_ok (d := e) (by omega) q_5) ?_
  rintro v_6 h_7 ⟨rfl, hz⟩
  have hz := hz.symm
  subst hz
  obtain ⟨h_8, q_9, hd⟩ := dk_bind hd
  refine hp_sF 15 rfl i_11_12 q_9 ?_
  refine wp_s 16 [some (.ref a0), some (.ref a1), some (.ref a2)] [.ref a0] h_8 i_11_15 rfl ?_
  refine wp_s 18 [some (.ref a0), some (.ref a1), some (.ref a2)] [.int (8 : Int32), .ref a0] h_8 i_11_16 rfl ?_
  refine hp_newa (N := 8) 20 rfl i_11_18 (by decide) (by decide) (by decide) ?_
  obtain ⟨h_10, q_11, hd⟩ := dk_bind hd
  refine hp_sF 23 rfl i_11_20 q_11 ?_
  refine wp_s 24 [some (.ref a0), some (.ref a1), some (.ref a2)] [.ref a0] h_10 i_11_23 rfl ?_
  refine wp_s 26 [some (.ref a0), some (.ref a1), some (.ref a2)] [.int (8 : Int32), .ref a0] h_10 i_11_24 rfl ?_
  refine hp_newa (N := 8) 28 rfl i_11_26 (by decide) (by decide) (by decide) ?_
  obtain ⟨h_12, q_13, hd⟩ := dk_bind hd
  refine hp_sF 31 rfl i_11_28 q_13 ?_
  refine wp_s 32 [some (.ref a0), some (.ref a1), some (.ref a2)] [.ref a0] h_12 i_11_31 rfl ?_
  refine wp_s 34 [some (.ref a0), some (.ref a1), some (.ref a2)] [.int (6 : Int32), .ref a0] h_12 i_11_32 rfl ?_
  refine hp_newa (N := 6) 36 rfl i_11_34 (by decide) (by decide) (by decide) ?_
  obtain ⟨h_14, q_15, hd⟩ := dk_bind hd
  refine hp_sF 39 rfl i_11_36 q_15 ?_
  refine wp_s 40 [some (.ref a0), some (.ref a1), some (.ref a2)] [.ref a0] h_14 i_11_39 rfl ?_
  refine wp_s 42 [some (.ref a0), some (.ref a1), some (.ref a2)] [.int (30 : Int32), .ref a0] h_14 i_11_40 rfl ?_
  refine hp_newa (N := 30) 44 rfl i_11_42 (by decide) (by decide) (by decide) ?_
  obtain ⟨h_16, q_17, hd⟩ := dk_bind hd
  refine hp_sF 47 rfl i_11_44 q_17 ?_
  refine wp_s 48 [some (.ref a0), some (.ref a1), some (.ref a2)] [.ref a0] h_16 i_11_47 rfl ?_
  refine wp_s 50 [some (.ref a0), some (.ref a1), some (.ref a2)] [.int (8 : Int32), .ref a0] h_16 i_11_48 rfl ?_
  refine hp_newa (N := 8) 52 rfl i_11_50 (by decide) (by decide) (by decide) ?_
  obtain ⟨h_18, q_19, hd⟩ := dk_bind hd
  refine hp_sF 55 rfl i_11_52 q_19 ?_
  refine wp_s 56 [some (.ref a0), some (.ref a1), some (.ref a2)] [.ref a0] h_18 i_11_55 rfl ?_
  refine wp_s 58 [some (.ref a0), some (.ref a1), some (.ref a2)] [.int (7 : Int32), .ref a0] h_18 i_11_56 rfl ?_
  refine hp_newa (N := 7) 60 rfl i_11_58 (by decide) (by decide) (by decide) ?_
  obtain ⟨h_20, q_21, hd⟩ := dk_bind hd
  refine hp_sF 63 rfl i_11_60 q_21 ?_
  refine wp_s 64 [some (.ref a0), some (.ref a1), some (.ref a2)] [.ref a0] h_20 i_11_63 rfl ?_
  refine wp_s 66 [some (.ref a0), some (.ref a1), some (.ref a2)] [.int (7 : Int32), .ref a0] h_20 i_11_64 rfl ?_
  refine hp_newa (N := 7) 68 rfl i_11_66 (by decide) (by decide) (by decide) ?_
  obtain ⟨h_22, q_23, hd⟩ := dk_bind hd
  refine hp_sF 71 rfl i_11_68 q_23 ?_
  refine wp_s 72 [some (.ref a0), some (.ref a1), some (.ref a2)] [.ref a0] h_22 i_11_71 rfl ?_
  refine wp_s 75 [some (.ref a0), some (.ref a1), some (.ref a2)] [.ref (h_22).length, .ref a0] (nO h_22 7) i_11_72 rfl ?_
  refine wp_s 76 [some (.ref a0), some (.ref a1), some (.ref a2)] [.ref (h_22).length, .ref (h_22).length, .ref a0] (nO h_22 7) i_11_75 rfl ?_
  obtain ⟨k_24, hd⟩ := dk_if hd
  obtain ⟨fs_25, o_26⟩ := isO_of k_24
  obtain ⟨z_27, q_28, hd⟩ := dk_bind hd
  refine wp_callI 79 rfl i_11_76 (by decide) rfl (vs := []) (rest := [.ref (h_22).length, .ref a0]) rfl rfl rfl o_26 (y := m_70) rfl (Nat.le_of_ble_eq_true rfl) (d_70_ok (d := e) (by omega) q_28) ?_
  rintro v_29 h_30 ⟨rfl, hz⟩
  have hz := hz.symm
  subst hz
  obtain ⟨h_31, q_32, hd⟩ := dk_bind hd
  refine hp_sF 82 rfl i_11_79 q_32 ?_
  refine wp_s 83 [some (.ref a0), some (.ref a1), some (.ref a2)] [.ref a0] h_31 i_11_82 rfl ?_
  refine wp_s 84 [some (.ref a0), some (.ref a1), some (.ref a2)] [.ref a1, .ref a0] h_31 i_11_83 rfl ?_
  obtain ⟨h_33, q_34, hd⟩ := dk_bind hd
  refine hp_sF 87 rfl i_11_84 q_34 ?_
  refine wp_s 88 [some (.ref a0), some (.ref a1), some (.ref a2)] [.ref a0] h_33 i_11_87 rfl ?_
  refine wp_s 89 [some (.ref a0), some (.ref a1), some (.ref a2)] [.ref a2, .ref a0] h_33 i_11_88 rfl ?_
  obtain ⟨h_35, q_36, hd⟩ := dk_bind hd
  refine hp_sF 92 rfl i_11_89 q_36 ?_
  obtain rfl := Option.some.inj hd
  exact wp_ret i_11_92 rfl ⟨rfl, rfl⟩
def d_40 (g : Nat) (a0 : Nat) (h0 : aH) : Option (aH) := ((sF (nA h0 0 400) a0 3 0 (.ref (h0).length)).bind (fun h_1 => ((sF (nA h_1 0 12) a0 3 1 (.ref (h_1).length)).bind (fun h_3 => ((sF (nA h_3 0 12) a0 3 2 (.ref (h_3).length)).bind (fun h_5 => ((sF (nA h_5 0 12) a0 3 3 (.ref (h_5).length)).bind (fun h_7 => ((sF (nA h_7 3 62) a0 3 4 (.ref (h_7).length)).bind (fun h_9 => some h_9))))))))))
set_option maxHeartbeats 4000000 in
set_option maxRecDepth 100000 in
theorem d_40_ok {X : aX} {g : Nat} {a0 : Nat} {h0 : aH} {zz : aH} {d : Nat} (hdp : 0 ≤ d) (hd : d_40 g a0 h0 = some zz) : aWp X d 40 0 (aEntL [.ref a0] 1) [] h0 (fun w h' => w = none ∧ h' = zz) := by
  unfold d_40 at hd
  refine wp_lv (l2 := [some (.ref a0)]) rfl ?_
  refine wp_s 1 [some (.ref a0)] [.ref a0] h0 i_40_0 rfl ?_
  refine hp_obj 4 rfl i_40_1 rfl ?_
  refine wp_s 5 [some (.ref a0)] [.ref a0] h0 i_40_4 rfl ?_
  refine wp_s 8 [some (.ref a0)] [.int (400 : Int32), .ref a0] h0 i_40_5 rfl ?_
  refine hp_newa (N := 400) 10 rfl i_40_8 (by decide) (by decide) (by decide) ?_
  obtain ⟨h_1, q_2, hd⟩ := dk_bind hd
  refine hp_sF 13 rfl i_40_10 q_2 ?_
  refine wp_s 14 [some (.ref a0)] [.ref a0] h_1 i_40_13 rfl ?_
  refine wp_s 16 [some (.ref a0)] [.int (12 : Int32), .ref a0] h_1 i_40_14 rfl ?_
  refine hp_newa (N := 12) 18 rfl i_40_16 (by decide) (by decide) (by decide) ?_
  obtain ⟨h_3, q_4, hd⟩ := dk_bind hd
  refine hp_sF 21 rfl i_40_18 q_4 ?_
  refine wp_s 22 [some (.ref a0)] [.ref a0] h_3 i_40_21 rfl ?_
  refine wp_s 24 [some (.ref a0)] [.int (12 : Int32), .ref a0] h_3 i_40_22 rfl ?_
  refine hp_newa (N := 12) 26 rfl i_40_24 (by decide) (by decide) (by decide) ?_
  obtain ⟨h_5, q_6, hd⟩ := dk_bind hd
  refine hp_sF 29 rfl i_40_26 q_6 ?_
  refine wp_s 30 [some (.ref a0)] [.ref a0] h_5 i_40_29 rfl ?_
  refine wp_s 32 [some (.ref a0)] [.int (12 : Int32), .ref a0] h_5 i_40_30 rfl ?_
  refine hp_newa (N := 12) 34 rfl i_40_32 (by decide) (by decide) (by decide) ?_
  obtain ⟨h_7, q_8, hd⟩ := dk_bind hd
  refine hp_sF 37 rfl i_40_34 q_8 ?_
  refine wp_s 38 [some (.ref a0)] [.ref a0] h_7 i_40_37 rfl ?_
  refine wp_s 40 [some (.ref a0)] [.int (62 : Int32), .ref a0] h_7 i_40_38 rfl ?_
  refine hp_newa (N := 62) 42 rfl i_40_40 (by decide) (by decide) (by decide) ?_
  obtain ⟨h_9, q_10, hd⟩ := dk_bind hd
  refine hp_sF 45 rfl i_40_42 q_10 ?_
  obtain rfl := Option.some.inj hd
  exact wp_ret i_40_45 rfl ⟨rfl, rfl⟩
def d_44 (g : Nat) (a0 : Nat) (a1 : Nat) (h0 : aH) : Option (aH) := ((sF h0 a0 4 0 (.ref a1)).bind (fun h_1 => some h_1))
set_option maxHeartbeats 4000000 in
set_option maxRecDepth 100000 in
theorem d_44_ok {X : aX} {g : Nat} {a0 : Nat} {a1 : Nat} {h0 : aH} {zz : aH} {d : Nat} (hdp : 0 ≤ d) (hd : d_44 g a0 a1 h0 = some zz) : aWp X d 44 0 (aEntL [.ref a0, .ref a1] 2) [] h0 (fun w h' => w = none ∧ h' = zz) := by
  unfold d_44 at hd
  refine wp_lv (l2 := [some (.ref a0), some (.ref a1)]) rfl ?_
  refine wp_s 1 [some (.ref a0), some (.ref a1)] [.ref a0] h0 i_44_0 rfl ?_
  refine hp_obj 4 rfl i_44_1 rfl ?_
  refine wp_s 5 [some (.ref a0), some (.ref a1)] [.ref a0] h0 i_44_4 rfl ?_
  refine wp_s 6 [some (.ref a0), some (.ref a1)] [.ref a1, .ref a0] h0 i_44_5 rfl ?_
  obtain ⟨h_1, q_2, hd⟩ := dk_bind hd
  refine hp_sF 9 rfl i_44_6 q_2 ?_
  obtain rfl := Option.some.inj hd
  exact wp_ret i_44_9 rfl ⟨rfl, rfl⟩
def d_54 (g : Nat) (a0 : Nat) (h0 : aH) : Option (aH) := ((sF (nA h0 0 8) a0 5 5 (.ref (h0).length)).bind (fun h_1 => ((sF (nA h_1 0 8) a0 5 6 (.ref (h_1).length)).bind (fun h_3 => ((sF (nA h_3 0 8) a0 5 7 (.ref (h_3).length)).bind (fun h_5 => ((sF (nA h_5 0 6) a0 5 9 (.ref (h_5).length)).bind (fun h_7 => ((sF (nA h_7 0 6) a0 5 10 (.ref (h_7).length)).bind (fun h_9 => ((sF (nA h_9 0 4) a0 5 12 (.ref (h_9).length)).bind (fun h_11 => ((sF (nA h_11 0 4) a0 5 13 (.ref (h_11).length)).bind (fun h_13 => ((sF (nA h_13 0 4) a0 5 14 (.ref (h_13).length)).bind (fun h_15 => ((sF (nA h_15 0 5) a0 5 16 (.ref (h_15).length)).bind (fun h_17 => ((sF (nA h_17 0 5) a0 5 17 (.ref (h_17).length)).bind (fun h_19 => ((sF (nA h_19 0 5) a0 5 18 (.ref (h_19).length)).bind (fun h_21 => ((sF (nA h_21 0 5) a0 5 19 (.ref (h_21).length)).bind (fun h_23 => some h_23))))))))))))))))))))))))
set_option maxHeartbeats 4000000 in
set_option maxRecDepth 100000 in
theorem d_54_ok {X : aX} {g : Nat} {a0 : Nat} {h0 : aH} {zz : aH} {d : Nat} (hdp : 0 ≤ d) (hd : d_54 g a0 h0 = some zz) : aWp X d 54 0 (aEntL [.ref a0] 1) [] h0 (fun w h' => w = none ∧ h' = zz) := by
  unfold d_54 at hd
  refine wp_lv (l2 := [some (.ref a0)]) rfl ?_
  refine wp_s 1 [some (.ref a0)] [.ref a0] h0 i_54_0 rfl ?_
  refine hp_obj 4 rfl i_54_1 rfl ?_
  refine wp_s 5 [some (.ref a0)] [.ref a0] h0 i_54_4 rfl ?_
  refine wp_s 7 [some (.ref a0)] [.int (8 : Int32), .ref a0] h0 i_54_5 rfl ?_
  refine hp_newa (N := 8) 9 rfl i_54_7 (by decide) (by decide) (by decide) ?_
  obtain ⟨h_1, q_2, hd⟩ := dk_bind hd
  refine hp_sF 12 rfl i_54_9 q_2 ?_
  refine wp_s 13 [some (.ref a0)] [.ref a0] h_1 i_54_12 rfl ?_
  refine wp_s 15 [some (.ref a0)] [.int (8 : Int32), .ref a0] h_1 i_54_13 rfl ?_
  refine hp_newa (N := 8) 17 rfl i_54_15 (by decide) (by decide) (by decide) ?_
  obtain ⟨h_3, q_4, hd⟩ := dk_bind hd
  refine hp_sF 20 rfl i_54_17 q_4 ?_
  refine wp_s 21 [some (.ref a0)] [.ref a0] h_3 i_54_20 rfl ?_
  refine wp_s 23 [some (.ref a0)] [.int (8 : Int32), .ref a0] h_3 i_54_21 rfl ?_
  refine hp_newa (N := 8) 25 rfl i_54_23 (by decide) (by decide) (by decide) ?_
  obtain ⟨h_5, q_6, hd⟩ := dk_bind hd
  refine hp_sF 28 rfl i_54_25 q_6 ?_
  refine wp_s 29 [some (.ref a0)] [.ref a0] h_5 i_54_28 rfl ?_
  refine wp_s 31 [some (.ref a0)] [.int (6 : Int32), .ref a0] h_5 i_54_29 rfl ?_
  refine hp_newa (N := 6) 33 rfl i_54_31 (by decide) (by decide) (by decide) ?_
  obtain ⟨h_7, q_8, hd⟩ := dk_bind hd
  refine hp_sF 36 rfl i_54_33 q_8 ?_
  refine wp_s 37 [some (.ref a0)] [.ref a0] h_7 i_54_36 rfl ?_
  refine wp_s 39 [some (.ref a0)] [.int (6 : Int32), .ref a0] h_7 i_54_37 rfl ?_
  refine hp_newa (N := 6) 41 rfl i_54_39 (by decide) (by decide) (by decide) ?_
  obtain ⟨h_9, q_10, hd⟩ := dk_bind hd
  refine hp_sF 44 rfl i_54_41 q_10 ?_
  refine wp_s 45 [some (.ref a0)] [.ref a0] h_9 i_54_44 rfl ?_
  refine wp_s 46 [some (.ref a0)] [.int (4 : Int32), .ref a0] h_9 i_54_45 rfl ?_
  refine hp_newa (N := 4) 48 rfl i_54_46 (by decide) (by decide) (by decide) ?_
  obtain ⟨h_11, q_12, hd⟩ := dk_bind hd
  refine hp_sF 51 rfl i_54_48 q_12 ?_
  refine wp_s 52 [some (.ref a0)] [.ref a0] h_11 i_54_51 rfl ?_
  refine wp_s 53 [some (.ref a0)] [.int (4 : Int32), .ref a0] h_11 i_54_52 rfl ?_
  refine hp_newa (N := 4) 55 rfl i_54_53 (by decide) (by decide) (by decide) ?_
  obtain ⟨h_13, q_14, hd⟩ := dk_bind hd
  refine hp_sF 58 rfl i_54_55 q_14 ?_
  refine wp_s 59 [some (.ref a0)] [.ref a0] h_13 i_54_58 rfl ?_
  refine wp_s 60 [some (.ref a0)] [.int (4 : Int32), .ref a0] h_13 i_54_59 rfl ?_
  refine hp_newa (N := 4) 62 rfl i_54_60 (by decide) (by decide) (by decide) ?_
  obtain ⟨h_15, q_16, hd⟩ := dk_bind hd
  refine hp_sF 65 rfl i_54_62 q_16 ?_
  refine wp_s 66 [some (.ref a0)] [.ref a0] h_15 i_54_65 rfl ?_
  refine wp_s 67 [some (.ref a0)] [.int (5 : Int32), .ref a0] h_15 i_54_66 rfl ?_
  refine hp_newa (N := 5) 69 rfl i_54_67 (by decide) (by decide) (by decide) ?_
  obtain ⟨h_17, q_18, hd⟩ := dk_bind hd
  refine hp_sF 72 rfl i_54_69 q_18 ?_
  refine wp_s 73 [some (.ref a0)] [.ref a0] h_17 i_54_72 rfl ?_
  refine wp_s 74 [some (.ref a0)] [.int (5 : Int32), .ref a0] h_17 i_54_73 rfl ?_
  refine hp_newa (N := 5) 76 rfl i_54_74 (by decide) (by decide) (by decide) ?_
  obtain ⟨h_19, q_20, hd⟩ := dk_bind hd
  refine hp_sF 79 rfl i_54_76 q_20 ?_
  refine wp_s 80 [some (.ref a0)] [.ref a0] h_19 i_54_79 rfl ?_
  refine wp_s 81 [some (.ref a0)] [.int (5 : Int32), .ref a0] h_19 i_54_80 rfl ?_
  refine hp_newa (N := 5) 83 rfl i_54_81 (by decide) (by decide) (by decide) ?_
  obtain ⟨h_21, q_22, hd⟩ := dk_bind hd
  refine hp_sF 86 rfl i_54_83 q_22 ?_
  refine wp_s 87 [some (.ref a0)] [.ref a0] h_21 i_54_86 rfl ?_
  refine wp_s 88 [some (.ref a0)] [.int (5 : Int32), .ref a0] h_21 i_54_87 rfl ?_
  refine hp_newa (N := 5) 90 rfl i_54_88 (by decide) (by decide) (by decide) ?_
  obtain ⟨h_23, q_24, hd⟩ := dk_bind hd
  refine hp_sF 93 rfl i_54_90 q_24 ?_
  obtain rfl := Option.some.inj hd
  exact wp_ret i_54_93 rfl ⟨rfl, rfl⟩
def d_59 (g : Nat) (a0 : Nat) (a1 : Nat) (h0 : aH) : Option (aH) := ((sF h0 a0 6 0 (.ref a1)).bind (fun h_1 => some h_1))
set_option maxHeartbeats 4000000 in
set_option maxRecDepth 100000 in
theorem d_59_ok {X : aX} {g : Nat} {a0 : Nat} {a1 : Nat} {h0 : aH} {zz : aH} {d : Nat} (hdp : 0 ≤ d) (hd : d_59 g a0 a1 h0 = some zz) : aWp X d 59 0 (aEntL [.ref a0, .ref a1] 2) [] h0 (fun w h' => w = none ∧ h' = zz) := by
  unfold d_59 at hd
  refine wp_lv (l2 := [some (.ref a0), some (.ref a1)]) rfl ?_
  refine wp_s 1 [some (.ref a0), some (.ref a1)] [.ref a0] h0 i_59_0 rfl ?_
  refine hp_obj 4 rfl i_59_1 rfl ?_
  refine wp_s 5 [some (.ref a0), some (.ref a1)] [.ref a0] h0 i_59_4 rfl ?_
  refine wp_s 6 [some (.ref a0), some (.ref a1)] [.ref a1, .ref a0] h0 i_59_5 rfl ?_
  obtain ⟨h_1, q_2, hd⟩ := dk_bind hd
  refine hp_sF 9 rfl i_59_6 q_2 ?_
  obtain rfl := Option.some.inj hd
  exact wp_ret i_59_9 rfl ⟨rfl, rfl⟩
def d_80 (g : Nat) (a0 : Nat) (h0 : aH) : Option (aH) := ((sF (nA h0 1 400) a0 8 0 (.ref (h0).length)).bind (fun h_1 => some h_1))
set_option maxHeartbeats 4000000 in
set_option maxRecDepth 100000 in
theorem d_80_ok {X : aX} {g : Nat} {a0 : Nat} {h0 : aH} {zz : aH} {d : Nat} (hdp : 0 ≤ d) (hd : d_80 g a0 h0 = some zz) : aWp X d 80 0 (aEntL [.ref a0] 1) [] h0 (fun w h' => w = none ∧ h' = zz) := by
  unfold d_80 at hd
  refine wp_lv (l2 := [some (.ref a0)]) rfl ?_
  refine wp_s 1 [some (.ref a0)] [.ref a0] h0 i_80_0 rfl ?_
  refine hp_obj 4 rfl i_80_1 rfl ?_
  refine wp_s 5 [some (.ref a0)] [.ref a0] h0 i_80_4 rfl ?_
  refine wp_s 8 [some (.ref a0)] [.int (400 : Int32), .ref a0] h0 i_80_5 rfl ?_
  refine hp_newa (N := 400) 10 rfl i_80_8 (by decide) (by decide) (by decide) ?_
  obtain ⟨h_1, q_2, hd⟩ := dk_bind hd
  refine hp_sF 13 rfl i_80_10 q_2 ?_
  obtain rfl := Option.some.inj hd
  exact wp_ret i_80_13 rfl ⟨rfl, rfl⟩
def l_88 (g n tag : Nat) (a0 : Nat) (a1 : Nat) (x2 : Int32) (h0 : aH) : Option (aH) := match n with
  | 0 => none
  | n + 1 => if tag = 0 then (if (6 : Int32) ≤ x2 then some h0 else ((gR h0 a0 9 1).bind (fun f_2 => (if isO (nO h0 3) (h0).length 3 = true then ((d_40 g (h0).length (nO h0 3)).bind (fun z_7 => ((sQ z_7 f_2 x2 (h0).length).bind (fun h_11 => (l_88 g n 0 a0 a1 (x2 + (1 : Int32)) h_11))))) else none)))) else none
set_option maxHeartbeats 4000000 in
set_option maxRecDepth 100000 in
theorem l_88_ok {X : aX} {g : Nat} {d : Nat} (hdp : 1 ≤ d) : ∀ n, (∀ (a0 : Nat) (a1 : Nat) (x2 : Int32) (h0 : aH) (zz : aH), l_88 g n 0 a0 a1 x2 h0 = some zz → aWp X d 88 28 [some (.ref a0), some (.ref a1), some (.int x2)] [] h0 (fun w h' => w = none ∧ h' = zz)) := by
  intro n
  induction n with
  | zero => exact fun _ _ _ _ _ hd => by simp [l_88] at hd
  | succ n ih =>
    intro a0 a1 x2 h0 zz hd
    unfold l_88 at hd
    rw [if_pos rfl] at hd
    obtain ⟨e, rfl⟩ : ∃ e, d = e + 1 := ⟨d - 1, by omega⟩
    refine wp_s 29 [some (.ref a0), some (.ref a1), some (.int x2)] [.int x2] h0 i_88_28 rfl ?_
    refine wp_s 31 [some (.ref a0), some (.ref a1), some (.int x2)] [.int (6 : Int32), .int x2] h0 i_88_29 rfl ?_
    refine wp_cmp_ge 53 34 rfl rfl i_88_31 (fun c_1 => ?_) (fun c_1 => ?_)
    · rw [if_pos c_1] at hd
      obtain rfl := Option.some.inj hd
      exact wp_ret i_88_53 rfl ⟨rfl, rfl⟩
    · rw [if_neg c_1] at hd
      refine wp_s 35 [some (.ref a0), some (.ref a1), some (.int x2)] [.ref a0] h0 i_88_34 rfl ?_
      obtain ⟨f_2, q_3, hd⟩ := dk_bind hd
      refine hp_gR 38 rfl i_88_35 q_3 ?_
      refine wp_s 39 [some (.ref a0), some (.ref a1), some (.int x2)] [.int x2, .ref f_2] h0 i_88_38 rfl ?_
      refine wp_s 42 [some (.ref a0), some (.ref a1), some (.int x2)] [.ref (h0).length, .int x2, .ref f_2] (nO h0 3) i_88_39 rfl ?_
      refine wp_s 43 [some (.ref a0), some (.ref a1), some (.int x2)] [.ref (h0).length, .ref (h0).length, .int x2, .ref f_2] (nO h0 3) i_88_42 rfl ?_
      obtain ⟨k_4, hd⟩ := dk_if hd
      obtain ⟨fs_5, o_6⟩ := isO_of k_4
      obtain ⟨z_7, q_8, hd⟩ := dk_bind hd
      refine wp_callI 46 rfl i_88_43 (by decide) rfl (vs := []) (rest := [.ref (h0).length, .int x2, .ref f_2]) rfl rfl rfl o_6 (y := m_40) rfl (Nat.le_of_ble_eq_true rfl) (d_40_ok (d := e) (by omega) q_8) ?_
      rintro v_9 h_10 ⟨rfl, hz⟩
      have hz := hz.symm
      subst hz
      obtain ⟨h_11, q_12, hd⟩ := dk_bind hd
      refine hp_sQ 47 rfl i_88_46 q_12 ?_
      refine wp_s 50 [some (.ref a0), some (.ref a1), some (.int (x2 + (1 : Int32)))] [] h_11 i_88_47 rfl ?_
      refine wp_s 28 [some (.ref a0), some (.ref a1), some (.int (x2 + (1 : Int32)))] [] h_11 i_88_50 rfl ?_
      exact aWp.forget (ih _ _ _ _ _ hd) (lvS (lvS (lvS lvE)))
def d_88 (g : Nat) (a0 : Nat) (a1 : Nat) (h0 : aH) : Option (aH) := ((sF (nQ h0 6 6) a0 9 1 (.ref (h0).length)).bind (fun h_1001 => ((sF (nA h_1001 3 8) a0 9 3 (.ref (h_1001).length)).bind (fun h_1003 => ((sF h_1003 a0 9 0 (.ref a1)).bind (fun h_1005 => (l_88 g g 0 a0 a1 (0 : Int32) h_1005)))))))
set_option maxHeartbeats 4000000 in
set_option maxRecDepth 100000 in
theorem d_88_ok {X : aX} {g : Nat} {a0 : Nat} {a1 : Nat} {h0 : aH} {zz : aH} {d : Nat} (hdp : 1 ≤ d) (hd : d_88 g a0 a1 h0 = some zz) : aWp X d 88 0 (aEntL [.ref a0, .ref a1] 3) [] h0 (fun w h' => w = none ∧ h' = zz) := by
  unfold d_88 at hd
  refine wp_lv (l2 := [some (.ref a0), some (.ref a1), none]) rfl ?_
  obtain ⟨e, rfl⟩ : ∃ e, d = e + 1 := ⟨d - 1, by omega⟩
  refine wp_s 1 [some (.ref a0), some (.ref a1), none] [.ref a0] h0 i_88_0 rfl ?_
  refine hp_obj 4 rfl i_88_1 rfl ?_
  refine wp_s 5 [some (.ref a0), some (.ref a1), none] [.ref a0] h0 i_88_4 rfl ?_
  refine wp_s 7 [some (.ref a0), some (.ref a1), none] [.int (6 : Int32), .ref a0] h0 i_88_5 rfl ?_
  refine hp_anew (N := 6) 10 rfl i_88_7 (by decide) (by decide) (by decide) ?_
  obtain ⟨h_1001, q_1002, hd⟩ := dk_bind hd
  refine hp_sF 13 rfl i_88_10 q_1002 ?_
  refine wp_s 14 [some (.ref a0), some (.ref a1), none] [.ref a0] h_1001 i_88_13 rfl ?_
  refine wp_s 16 [some (.ref a0), some (.ref a1), none] [.int (8 : Int32), .ref a0] h_1001 i_88_14 rfl ?_
  refine hp_newa (N := 8) 18 rfl i_88_16 (by decide) (by decide) (by decide) ?_
  obtain ⟨h_1003, q_1004, hd⟩ := dk_bind hd
  refine hp_sF 21 rfl i_88_18 q_1004 ?_
  refine wp_s 22 [some (.ref a0), some (.ref a1), none] [.ref a0] h_1003 i_88_21 rfl ?_
  refine wp_s 23 [some (.ref a0), some (.ref a1), none] [.ref a1, .ref a0] h_1003 i_88_22 rfl ?_
  obtain ⟨h_1005, q_1006, hd⟩ := dk_bind hd
  refine hp_sF 26 rfl i_88_23 q_1006 ?_
  refine wp_s 27 [some (.ref a0), some (.ref a1), none] [.int (0 : Int32)] h_1005 i_88_26 rfl ?_
  refine wp_s 28 [some (.ref a0), some (.ref a1), some (.int (0 : Int32))] [] h_1005 i_88_27 rfl ?_
  exact aWp.forget ((l_88_ok hdp g) _ _ _ _ _ hd) (lvS (lvS (lvS lvE)))
def d_97 (g : Nat) (a0 : Nat) (h0 : aH) : Option (aH) := (if isO (nO h0 5) (h0).length 5 = true then ((d_54 g (h0).length (nO h0 5)).bind (fun z_4 => ((sF z_4 a0 10 0 (.ref (h0).length)).bind (fun h_8 => (if isO (nO h_8 7) (h_8).length 7 = true then ((d_70 g (h_8).length (nO h_8 7)).bind (fun z_13 => ((sF z_13 a0 10 1 (.ref (h_8).length)).bind (fun h_17 => ((sF h_17 a0 10 2 (.int (-1 : Int32))).bind (fun h_19 => ((sF (nA h_19 0 10) a0 10 4 (.ref (h_19).length)).bind (fun h_21 => ((sF (nA h_21 0 10) a0 10 5 (.ref (h_21).length)).bind (fun h_23 => ((sF (nA h_23 0 10) a0 10 6 (.ref (h_23).length)).bind (fun h_25 => ((sF (nA h_25 0 10) a0 10 7 (.ref (h_25).length)).bind (fun h_27 => some h_27)))))))))))))) else none))))) else none)
set_option maxHeartbeats 4000000 in
set_option maxRecDepth 100000 in
theorem d_97_ok {X : aX} {g : Nat} {a0 : Nat} {h0 : aH} {zz : aH} {d : Nat} (hdp : 1 ≤ d) (hd : d_97 g a0 h0 = some zz) : aWp X d 97 0 (aEntL [.ref a0] 1) [] h0 (fun w h' => w = none ∧ h' = zz) := by
  unfold d_97 at hd
  refine wp_lv (l2 := [some (.ref a0)]) rfl ?_
  obtain ⟨e, rfl⟩ : ∃ e, d = e + 1 := ⟨d - 1, by omega⟩
  refine wp_s 1 [some (.ref a0)] [.ref a0] h0 i_97_0 rfl ?_
  refine hp_obj 4 rfl i_97_1 rfl ?_
  refine wp_s 5 [some (.ref a0)] [.ref a0] h0 i_97_4 rfl ?_
  refine wp_s 8 [some (.ref a0)] [.ref (h0).length, .ref a0] (nO h0 5) i_97_5 rfl ?_
  refine wp_s 9 [some (.ref a0)] [.ref (h0).length, .ref (h0).length, .ref a0] (nO h0 5) i_97_8 rfl ?_
  obtain ⟨k_1, hd⟩ := dk_if hd
  obtain ⟨fs_2, o_3⟩ := isO_of k_1
  obtain ⟨z_4, q_5, hd⟩ := dk_bind hd
  refine wp_callI 12 rfl i_97_9 (by decide) rfl (vs := []) (rest := [.ref (h0).length, .ref a0]) rfl rfl rfl o_3 (y := m_54) rfl (Nat.le_of_ble_eq_true rfl) (d_54_ok (d := e) (by omega) q_5) ?_
  rintro v_6 h_7 ⟨rfl, hz⟩
  have hz := hz.symm
  subst hz
  obtain ⟨h_8, q_9, hd⟩ := dk_bind hd
  refine hp_sF 15 rfl i_97_12 q_9 ?_
  refine wp_s 16 [some (.ref a0)] [.ref a0] h_8 i_97_15 rfl ?_
  refine wp_s 19 [some (.ref a0)] [.ref (h_8).length, .ref a0] (nO h_8 7) i_97_16 rfl ?_
  refine wp_s 20 [some (.ref a0)] [.ref (h_8).length, .ref (h_8).length, .ref a0] (nO h_8 7) i_97_19 rfl ?_
  obtain ⟨k_10, hd⟩ := dk_if hd
  obtain ⟨fs_11, o_12⟩ := isO_of k_10
  obtain ⟨z_13, q_14, hd⟩ := dk_bind hd
  refine wp_callI 23 rfl i_97_20 (by decide) rfl (vs := []) (rest := [.ref (h_8).length, .ref a0]) rfl rfl rfl o_12 (y := m_70) rfl (Nat.le_of_ble_eq_true rfl) (d_70_ok (d := e) (by omega) q_14) ?_
  rintro v_15 h_16 ⟨rfl, hz⟩
  have hz := hz.symm
  subst hz
  obtain ⟨h_17, q_18, hd⟩ := dk_bind hd
  refine hp_sF 26 rfl i_97_23 q_18 ?_
  refine wp_s 27 [some (.ref a0)] [.ref a0] h_17 i_97_26 rfl ?_
  refine wp_s 28 [some (.ref a0)] [.int (-1 : Int32), .ref a0] h_17 i_97_27 rfl ?_
  obtain ⟨h_19, q_20, hd⟩ := dk_bind hd
  refine hp_sF 31 rfl i_97_28 q_20 ?_
  refine wp_s 32 [some (.ref a0)] [.ref a0] h_19 i_97_31 rfl ?_
  refine wp_s 34 [some (.ref a0)] [.int (10 : Int32), .ref a0] h_19 i_97_32 rfl ?_
  refine hp_newa (N := 10) 36 rfl i_97_34 (by decide) (by decide) (by decide) ?_
  obtain ⟨h_21, q_22, hd⟩ := dk_bind hd
  refine hp_sF 39 rfl i_97_36 q_22 ?_
  refine wp_s 40 [some (.ref a0)] [.ref a0] h_21 i_97_39 rfl ?_
  refine wp_s 42 [some (.ref a0)] [.int (10 : Int32), .ref a0] h_21 i_97_40 rfl ?_
  refine hp_newa (N := 10) 44 rfl i_97_42 (by decide) (by decide) (by decide) ?_
  obtain ⟨h_23, q_24, hd⟩ := dk_bind hd
  refine hp_sF 47 rfl i_97_44 q_24 ?_
  refine wp_s 48 [some (.ref a0)] [.ref a0] h_23 i_97_47 rfl ?_
  refine wp_s 50 [some (.ref a0)] [.int (10 : Int32), .ref a0] h_23 i_97_48 rfl ?_
  refine hp_newa (N := 10) 52 rfl i_97_50 (by decide) (by decide) (by decide) ?_
  obtain ⟨h_25, q_26, hd⟩ := dk_bind hd
  refine hp_sF 55 rfl i_97_52 q_26 ?_
  refine wp_s 56 [some (.ref a0)] [.ref a0] h_25 i_97_55 rfl ?_
  refine wp_s 58 [some (.ref a0)] [.int (10 : Int32), .ref a0] h_25 i_97_56 rfl ?_
  refine hp_newa (N := 10) 60 rfl i_97_58 (by decide) (by decide) (by decide) ?_
  obtain ⟨h_27, q_28, hd⟩ := dk_bind hd
  refine hp_sF 63 rfl i_97_60 q_28 ?_
  obtain rfl := Option.some.inj hd
  exact wp_ret i_97_63 rfl ⟨rfl, rfl⟩
def l_101 (g n tag : Nat) (a0 : Nat) (x1 : Int32) (h0 : aH) : Option (aH) := match n with
  | 0 => none
  | n + 1 => if tag = 0 then (if (4 : Int32) ≤ x1 then some h0 else ((gR h0 a0 11 7).bind (fun f_2 => (if isO (nO h0 10) (h0).length 10 = true then ((d_97 g (h0).length (nO h0 10)).bind (fun z_7 => ((sQ z_7 f_2 x1 (h0).length).bind (fun h_11 => (l_101 g n 0 a0 (x1 + (1 : Int32)) h_11))))) else none)))) else none
set_option maxHeartbeats 4000000 in
set_option maxRecDepth 100000 in
theorem l_101_ok {X : aX} {g : Nat} {d : Nat} (hdp : 2 ≤ d) : ∀ n, (∀ (a0 : Nat) (x1 : Int32) (h0 : aH) (zz : aH), l_101 g n 0 a0 x1 h0 = some zz → aWp X d 101 118 [some (.ref a0), some (.int x1)] [] h0 (fun w h' => w = none ∧ h' = zz)) := by
  intro n
  induction n with
  | zero => exact fun _ _ _ _ hd => by simp [l_101] at hd
  | succ n ih =>
    intro a0 x1 h0 zz hd
    unfold l_101 at hd
    rw [if_pos rfl] at hd
    obtain ⟨e, rfl⟩ : ∃ e, d = e + 1 := ⟨d - 1, by omega⟩
    refine wp_s 119 [some (.ref a0), some (.int x1)] [.int x1] h0 i_101_118 rfl ?_
    refine wp_s 120 [some (.ref a0), some (.int x1)] [.int (4 : Int32), .int x1] h0 i_101_119 rfl ?_
    refine wp_cmp_ge 142 123 rfl rfl i_101_120 (fun c_1 => ?_) (fun c_1 => ?_)
    · rw [if_pos c_1] at hd
      obtain rfl := Option.some.inj hd
      exact wp_ret i_101_142 rfl ⟨rfl, rfl⟩
    · rw [if_neg c_1] at hd
      refine wp_s 124 [some (.ref a0), some (.int x1)] [.ref a0] h0 i_101_123 rfl ?_
      obtain ⟨f_2, q_3, hd⟩ := dk_bind hd
      refine hp_gR 127 rfl i_101_124 q_3 ?_
      refine wp_s 128 [some (.ref a0), some (.int x1)] [.int x1, .ref f_2] h0 i_101_127 rfl ?_
      refine wp_s 131 [some (.ref a0), some (.int x1)] [.ref (h0).length, .int x1, .ref f_2] (nO h0 10) i_101_128 rfl ?_
      refine wp_s 132 [some (.ref a0), some (.int x1)] [.ref (h0).length, .ref (h0).length, .int x1, .ref f_2] (nO h0 10) i_101_131 rfl ?_
      obtain ⟨k_4, hd⟩ := dk_if hd
      obtain ⟨fs_5, o_6⟩ := isO_of k_4
      obtain ⟨z_7, q_8, hd⟩ := dk_bind hd
      refine wp_callI 135 rfl i_101_132 (by decide) rfl (vs := []) (rest := [.ref (h0).length, .int x1, .ref f_2]) rfl rfl rfl o_6 (y := m_97) rfl (Nat.le_of_ble_eq_true rfl) (d_97_ok (d := e) (by omega) q_8) ?_
      rintro v_9 h_10 ⟨rfl, hz⟩
      have hz := hz.symm
      subst hz
      obtain ⟨h_11, q_12, hd⟩ := dk_bind hd
      refine hp_sQ 136 rfl i_101_135 q_12 ?_
      refine wp_s 139 [some (.ref a0), some (.int (x1 + (1 : Int32)))] [] h_11 i_101_136 rfl ?_
      refine wp_s 118 [some (.ref a0), some (.int (x1 + (1 : Int32)))] [] h_11 i_101_139 rfl ?_
      exact aWp.forget (ih _ _ _ _ hd) (lvS (lvS lvE))
def d_101 (g : Nat) (a0 : Nat) (h0 : aH) : Option (aH) := (if isO (nO h0 8) (h0).length 8 = true then ((d_80 g (h0).length (nO h0 8)).bind (fun z_1004 => ((sF z_1004 a0 11 0 (.ref (h0).length)).bind (fun h_1008 => ((gR (nO h_1008 6) a0 11 0).bind (fun f_1010 => (if isO (nO h_1008 6) (h_1008).length 6 = true then ((d_59 g (h_1008).length f_1010 (nO h_1008 6)).bind (fun z_1015 => ((sF z_1015 a0 11 1 (.ref (h_1008).length)).bind (fun h_1019 => ((gR (nO h_1019 4) a0 11 0).bind (fun f_1021 => (if isO (nO h_1019 4) (h_1019).length 4 = true then ((d_44 g (h_1019).length f_1021 (nO h_1019 4)).bind (fun z_1026 => ((sF z_1026 a0 11 2 (.ref (h_1019).length)).bind (fun h_1030 => (if isO (nO h_1030 10) (h_1030).length 10 = true then ((d_97 g (h_1030).length (nO h_1030 10)).bind (fun z_1035 => ((sF z_1035 a0 11 3 (.ref (h_1030).length)).bind (fun h_1039 => ((gR (nO h_1039 9) a0 11 3).bind (fun f_1041 => (if isO (nO h_1039 9) (h_1039).length 9 = true then ((d_88 g (h_1039).length f_1041 (nO h_1039 9)).bind (fun z_1046 => ((sF z_1046 a0 11 4 (.ref (h_1039).length)).bind (fun h_1050 => ((gR (nO h_1050 2) a0 11 3).bind (fun f_1052 => ((gR (nO h_1050 2) a0 11 4).bind (fun f_1054 => (if isO (nO h_1050 2) (h_1050).length 2 = true then ((d_11 g (h_1050).length f_1052 f_1054 (nO h_1050 2)).bind (fun z_1059 => ((sF z_1059 a0 11 5 (.ref (h_1050).length)).bind (fun h_1063 => (if isO (nO h_1063 1) (h_1063).length 1 = true then ((d_7 g (h_1063).length (nO h_1063 1)).bind (fun z_1068 => ((sF z_1068 a0 11 6 (.ref (h_1063).length)).bind (fun h_1072 => ((sF (nQ h_1072 5 4) a0 11 7 (.ref (h_1072).length)).bind (fun h_1074 => ((sF (nA h_1074 2 4) a0 11 8 (.ref (h_1074).length)).bind (fun h_1076 => (l_101 g g 0 a0 (0 : Int32) h_1076))))))))) else none))))) else none))))))))) else none))))))) else none))))) else none))))))) else none))))))) else none)
set_option maxHeartbeats 4000000 in
set_option maxRecDepth 100000 in
theorem d_101_ok {X : aX} {g : Nat} {a0 : Nat} {h0 : aH} {zz : aH} {d : Nat} (hdp : 2 ≤ d) (hd : d_101 g a0 h0 = some zz) : aWp X d 101 0 (aEntL [.ref a0] 2) [] h0 (fun w h' => w = none ∧ h' = zz) := by
  unfold d_101 at hd
  refine wp_lv (l2 := [some (.ref a0), none]) rfl ?_
  obtain ⟨e, rfl⟩ : ∃ e, d = e + 1 := ⟨d - 1, by omega⟩
  refine wp_s 1 [some (.ref a0), none] [.ref a0] h0 i_101_0 rfl ?_
  refine hp_obj 4 rfl i_101_1 rfl ?_
  refine wp_s 5 [some (.ref a0), none] [.ref a0] h0 i_101_4 rfl ?_
  refine wp_s 8 [some (.ref a0), none] [.ref (h0).length, .ref a0] (nO h0 8) i_101_5 rfl ?_
  refine wp_s 9 [some (.ref a0), none] [.ref (h0).length, .ref (h0).length, .ref a0] (nO h0 8) i_101_8 rfl ?_
  obtain ⟨k_1001, hd⟩ := dk_if hd
  obtain ⟨fs_1002, o_1003⟩ := isO_of k_1001
  obtain ⟨z_1004, q_1005, hd⟩ := dk_bind hd
  refine wp_callI 12 rfl i_101_9 (by decide) rfl (vs := []) (rest := [.ref (h0).length, .ref a0]) rfl rfl rfl o_1003 (y := m_80) rfl (Nat.le_of_ble_eq_true rfl) (d_80_ok (d := e) (by omega) q_1005) ?_
  rintro v_1006 h_1007 ⟨rfl, hz⟩
  have hz := hz.symm
  subst hz
  obtain ⟨h_1008, q_1009, hd⟩ := dk_bind hd
  refine hp_sF 15 rfl i_101_12 q_1009 ?_
  refine wp_s 16 [some (.ref a0), none] [.ref a0] h_1008 i_101_15 rfl ?_
  refine wp_s 19 [some (.ref a0), none] [.ref (h_1008).length, .ref a0] (nO h_1008 6) i_101_16 rfl ?_
  refine wp_s 20 [some (.ref a0), none] [.ref (h_1008).length, .ref (h_1008).length, .ref a0] (nO h_1008 6) i_101_19 rfl ?_
  refine wp_s 21 [some (.ref a0), none] [.ref a0, .ref (h_1008).length, .ref (h_1008).length, .ref a0] (nO h_1008 6) i_101_20 rfl ?_
  obtain ⟨f_1010, q_1011, hd⟩ := dk_bind hd
  refine hp_gR 24 rfl i_101_21 q_1011 ?_
  obtain ⟨k_1012, hd⟩ := dk_if hd
  obtain ⟨fs_1013, o_1014⟩ := isO_of k_1012
  obtain ⟨z_1015, q_1016, hd⟩ := dk_bind hd
  refine wp_callI 27 rfl i_101_24 (by decide) rfl (vs := [.ref f_1010]) (rest := [.ref (h_1008).length, .ref a0]) rfl rfl rfl o_1014 (y := m_59) rfl (Nat.le_of_ble_eq_true rfl) (d_59_ok (d := e) (by omega) q_1016) ?_
  rintro v_1017 h_1018 ⟨rfl, hz⟩
  have hz := hz.symm
  subst hz
  obtain ⟨h_1019, q_1020, hd⟩ := dk_bind hd
  refine hp_sF 30 rfl i_101_27 q_1020 ?_
  refine wp_s 31 [some (.ref a0), none] [.ref a0] h_1019 i_101_30 rfl ?_
  refine wp_s 34 [some (.ref a0), none] [.ref (h_1019).length, .ref a0] (nO h_1019 4) i_101_31 rfl ?_
  refine wp_s 35 [some (.ref a0), none] [.ref (h_1019).length, .ref (h_1019).length, .ref a0] (nO h_1019 4) i_101_34 rfl ?_
  refine wp_s 36 [some (.ref a0), none] [.ref a0, .ref (h_1019).length, .ref (h_1019).length, .ref a0] (nO h_1019 4) i_101_35 rfl ?_
  obtain ⟨f_1021, q_1022, hd⟩ := dk_bind hd
  refine hp_gR 39 rfl i_101_36 q_1022 ?_
  obtain ⟨k_1023, hd⟩ := dk_if hd
  obtain ⟨fs_1024, o_1025⟩ := isO_of k_1023
  obtain ⟨z_1026, q_1027, hd⟩ := dk_bind hd
  refine wp_callI 42 rfl i_101_39 (by decide) rfl (vs := [.ref f_1021]) (rest := [.ref (h_1019).length, .ref a0]) rfl rfl rfl o_1025 (y := m_44) rfl (Nat.le_of_ble_eq_true rfl) (d_44_ok (d := e) (by omega) q_1027) ?_
  rintro v_1028 h_1029 ⟨rfl, hz⟩
  have hz := hz.symm
  subst hz
  obtain ⟨h_1030, q_1031, hd⟩ := dk_bind hd
  refine hp_sF 45 rfl i_101_42 q_1031 ?_
  refine wp_s 46 [some (.ref a0), none] [.ref a0] h_1030 i_101_45 rfl ?_
  refine wp_s 49 [some (.ref a0), none] [.ref (h_1030).length, .ref a0] (nO h_1030 10) i_101_46 rfl ?_
  refine wp_s 50 [some (.ref a0), none] [.ref (h_1030).length, .ref (h_1030).length, .ref a0] (nO h_1030 10) i_101_49 rfl ?_
  obtain ⟨k_1032, hd⟩ := dk_if hd
  obtain ⟨fs_1033, o_1034⟩ := isO_of k_1032
  obtain ⟨z_1035, q_1036, hd⟩ := dk_bind hd
  refine wp_callI 53 rfl i_101_50 (by decide) rfl (vs := []) (rest := [.ref (h_1030).length, .ref a0]) rfl rfl rfl o_1034 (y := m_97) rfl (Nat.le_of_ble_eq_true rfl) (d_97_ok (d := e) (by omega) q_1036) ?_
  rintro v_1037 h_1038 ⟨rfl, hz⟩
  have hz := hz.symm
  subst hz
  obtain ⟨h_1039, q_1040, hd⟩ := dk_bind hd
  refine hp_sF 56 rfl i_101_53 q_1040 ?_
  refine wp_s 57 [some (.ref a0), none] [.ref a0] h_1039 i_101_56 rfl ?_
  refine wp_s 60 [some (.ref a0), none] [.ref (h_1039).length, .ref a0] (nO h_1039 9) i_101_57 rfl ?_
  refine wp_s 61 [some (.ref a0), none] [.ref (h_1039).length, .ref (h_1039).length, .ref a0] (nO h_1039 9) i_101_60 rfl ?_
  refine wp_s 62 [some (.ref a0), none] [.ref a0, .ref (h_1039).length, .ref (h_1039).length, .ref a0] (nO h_1039 9) i_101_61 rfl ?_
  obtain ⟨f_1041, q_1042, hd⟩ := dk_bind hd
  refine hp_gR 65 rfl i_101_62 q_1042 ?_
  obtain ⟨k_1043, hd⟩ := dk_if hd
  obtain ⟨fs_1044, o_1045⟩ := isO_of k_1043
  obtain ⟨z_1046, q_1047, hd⟩ := dk_bind hd
  refine wp_callI 68 rfl i_101_65 (by decide) rfl (vs := [.ref f_1041]) (rest := [.ref (h_1039).length, .ref a0]) rfl rfl rfl o_1045 (y := m_88) rfl (Nat.le_of_ble_eq_true rfl) (d_88_ok (d := e) (by omega) q_1047) ?_
  rintro v_1048 h_1049 ⟨rfl, hz⟩
  have hz := hz.symm
  subst hz
  obtain ⟨h_1050, q_1051, hd⟩ := dk_bind hd
  refine hp_sF 71 rfl i_101_68 q_1051 ?_
  refine wp_s 72 [some (.ref a0), none] [.ref a0] h_1050 i_101_71 rfl ?_
  refine wp_s 75 [some (.ref a0), none] [.ref (h_1050).length, .ref a0] (nO h_1050 2) i_101_72 rfl ?_
  refine wp_s 76 [some (.ref a0), none] [.ref (h_1050).length, .ref (h_1050).length, .ref a0] (nO h_1050 2) i_101_75 rfl ?_
  refine wp_s 77 [some (.ref a0), none] [.ref a0, .ref (h_1050).length, .ref (h_1050).length, .ref a0] (nO h_1050 2) i_101_76 rfl ?_
  obtain ⟨f_1052, q_1053, hd⟩ := dk_bind hd
  refine hp_gR 80 rfl i_101_77 q_1053 ?_
  refine wp_s 81 [some (.ref a0), none] [.ref a0, .ref f_1052, .ref (h_1050).length, .ref (h_1050).length, .ref a0] (nO h_1050 2) i_101_80 rfl ?_
  obtain ⟨f_1054, q_1055, hd⟩ := dk_bind hd
  refine hp_gR 84 rfl i_101_81 q_1055 ?_
  obtain ⟨k_1056, hd⟩ := dk_if hd
  obtain ⟨fs_1057, o_1058⟩ := isO_of k_1056
  obtain ⟨z_1059, q_1060, hd⟩ := dk_bind hd
  refine wp_callI 87 rfl i_101_84 (by decide) rfl (vs := [.ref f_1052, .ref f_1054]) (rest := [.ref (h_1050).length, .ref a0]) rfl rfl rfl o_1058 (y := m_11) rfl (Nat.le_of_ble_eq_true rfl) (d_11_ok (d := e) (by omega) q_1060) ?_
  rintro v_1061 h_1062 ⟨rfl, hz⟩
  have hz := hz.symm
  subst hz
  obtain ⟨h_1063, q_1064, hd⟩ := dk_bind hd
  refine hp_sF 90 rfl i_101_87 q_1064 ?_
  refine wp_s 91 [some (.ref a0), none] [.ref a0] h_1063 i_101_90 rfl ?_
  refine wp_s 94 [some (.ref a0), none] [.ref (h_1063).length, .ref a0] (nO h_1063 1) i_101_91 rfl ?_
  refine wp_s 95 [some (.ref a0), none] [.ref (h_1063).length, .ref (h_1063).length, .ref a0] (nO h_1063 1) i_101_94 rfl ?_
  obtain ⟨k_1065, hd⟩ := dk_if hd
  obtain ⟨fs_1066, o_1067⟩ := isO_of k_1065
  obtain ⟨z_1068, q_1069, hd⟩ := dk_bind hd
  refine wp_callI 98 rfl i_101_95 (by decide) rfl (vs := []) (rest := [.ref (h_1063).length, .ref a0]) rfl rfl rfl o_1067 (y := m_7) rfl (Nat.le_of_ble_eq_true rfl) (d_7_ok (d := e) (by omega) q_1069) ?_
  rintro v_1070 h_1071 ⟨rfl, hz⟩
  have hz := hz.symm
  subst hz
  obtain ⟨h_1072, q_1073, hd⟩ := dk_bind hd
  refine hp_sF 101 rfl i_101_98 q_1073 ?_
  refine wp_s 102 [some (.ref a0), none] [.ref a0] h_1072 i_101_101 rfl ?_
  refine wp_s 103 [some (.ref a0), none] [.int (4 : Int32), .ref a0] h_1072 i_101_102 rfl ?_
  refine hp_anew (N := 4) 106 rfl i_101_103 (by decide) (by decide) (by decide) ?_
  obtain ⟨h_1074, q_1075, hd⟩ := dk_bind hd
  refine hp_sF 109 rfl i_101_106 q_1075 ?_
  refine wp_s 110 [some (.ref a0), none] [.ref a0] h_1074 i_101_109 rfl ?_
  refine wp_s 111 [some (.ref a0), none] [.int (4 : Int32), .ref a0] h_1074 i_101_110 rfl ?_
  refine hp_newa (N := 4) 113 rfl i_101_111 (by decide) (by decide) (by decide) ?_
  obtain ⟨h_1076, q_1077, hd⟩ := dk_bind hd
  refine hp_sF 116 rfl i_101_113 q_1077 ?_
  refine wp_s 117 [some (.ref a0), none] [.int (0 : Int32)] h_1076 i_101_116 rfl ?_
  refine wp_s 118 [some (.ref a0), some (.int (0 : Int32))] [] h_1076 i_101_117 rfl ?_
  exact aWp.forget ((l_101_ok hdp g) _ _ _ _ hd) (lvS (lvS lvE))
def d_139 (g : Nat) (a0 : Nat) (h0 : aH) : Option (aH) := ((sF (nA h0 1 400) a0 12 0 (.ref (h0).length)).bind (fun h_1 => ((sF (nA h_1 0 2400) a0 12 3 (.ref (h_1).length)).bind (fun h_3 => ((sF (nA h_3 0 7) a0 12 4 (.ref (h_3).length)).bind (fun h_5 => ((sF (nA h_5 0 288) a0 12 5 (.ref (h_5).length)).bind (fun h_7 => ((sF (nA h_7 0 6) a0 12 6 (.ref (h_7).length)).bind (fun h_9 => ((sF (nA h_9 0 140) a0 12 7 (.ref (h_9).length)).bind (fun h_11 => ((sF (nA h_11 0 400) a0 12 15 (.ref (h_11).length)).bind (fun h_13 => ((sF (nA h_13 3 64) a0 12 17 (.ref (h_13).length)).bind (fun h_15 => ((sF (nA h_15 3 8) a0 12 19 (.ref (h_15).length)).bind (fun h_17 => ((sF (nA h_17 0 181) a0 12 20 (.ref (h_17).length)).bind (fun h_19 => ((sF h_19 a0 12 21 (.int (-1 : Int32))).bind (fun h_21 => ((sF (nA h_21 0 5) a0 12 23 (.ref (h_21).length)).bind (fun h_23 => ((sF (nA h_23 0 1600) a0 12 26 (.ref (h_23).length)).bind (fun h_25 => ((sF (nA h_25 0 8) a0 12 28 (.ref (h_25).length)).bind (fun h_27 => ((sF (nA h_27 0 4) a0 12 31 (.ref (h_27).length)).bind (fun h_29 => ((sF (nA h_29 0 6) a0 12 32 (.ref (h_29).length)).bind (fun h_31 => ((sF (nA h_31 0 6) a0 12 33 (.ref (h_31).length)).bind (fun h_33 => ((sF (nA h_33 0 80) a0 12 34 (.ref (h_33).length)).bind (fun h_35 => ((sF (nA h_35 0 8) a0 12 35 (.ref (h_35).length)).bind (fun h_37 => ((sF (nA h_37 0 7) a0 12 39 (.ref (h_37).length)).bind (fun h_39 => ((sF (nA h_39 0 724) a0 12 43 (.ref (h_39).length)).bind (fun h_41 => ((sF (nA h_41 0 4) a0 12 44 (.ref (h_41).length)).bind (fun h_43 => ((sF (nA h_43 0 4) a0 12 45 (.ref (h_43).length)).bind (fun h_45 => ((sF (nA h_45 2 4) a0 12 46 (.ref (h_45).length)).bind (fun h_47 => some h_47))))))))))))))))))))))))))))))))))))))))))))))))
set_option maxHeartbeats 4000000 in
set_option maxRecDepth 100000 in
theorem d_139_ok {X : aX} {g : Nat} {a0 : Nat} {h0 : aH} {zz : aH} {d : Nat} (hdp : 0 ≤ d) (hd : d_139 g a0 h0 = some zz) : aWp X d 139 0 (aEntL [.ref a0] 1) [] h0 (fun w h' => w = none ∧ h' = zz) := by
  unfold d_139 at hd
  refine wp_lv (l2 := [some (.ref a0)]) rfl ?_
  refine wp_s 1 [some (.ref a0)] [.ref a0] h0 i_139_0 rfl ?_
  refine hp_obj 4 rfl i_139_1 rfl ?_
  refine wp_s 5 [some (.ref a0)] [.ref a0] h0 i_139_4 rfl ?_
  refine wp_s 8 [some (.ref a0)] [.int (400 : Int32), .ref a0] h0 i_139_5 rfl ?_
  refine hp_newa (N := 400) 10 rfl i_139_8 (by decide) (by decide) (by decide) ?_
  obtain ⟨h_1, q_2, hd⟩ := dk_bind hd
  refine hp_sF 13 rfl i_139_10 q_2 ?_
  refine wp_s 14 [some (.ref a0)] [.ref a0] h_1 i_139_13 rfl ?_
  refine wp_s 17 [some (.ref a0)] [.int (2400 : Int32), .ref a0] h_1 i_139_14 rfl ?_
  refine hp_newa (N := 2400) 19 rfl i_139_17 (by decide) (by decide) (by decide) ?_
  obtain ⟨h_3, q_4, hd⟩ := dk_bind hd
  refine hp_sF 22 rfl i_139_19 q_4 ?_
  refine wp_s 23 [some (.ref a0)] [.ref a0] h_3 i_139_22 rfl ?_
  refine wp_s 25 [some (.ref a0)] [.int (7 : Int32), .ref a0] h_3 i_139_23 rfl ?_
  refine hp_newa (N := 7) 27 rfl i_139_25 (by decide) (by decide) (by decide) ?_
  obtain ⟨h_5, q_6, hd⟩ := dk_bind hd
  refine hp_sF 30 rfl i_139_27 q_6 ?_
  refine wp_s 31 [some (.ref a0)] [.ref a0] h_5 i_139_30 rfl ?_
  refine wp_s 34 [some (.ref a0)] [.int (288 : Int32), .ref a0] h_5 i_139_31 rfl ?_
  refine hp_newa (N := 288) 36 rfl i_139_34 (by decide) (by decide) (by decide) ?_
  obtain ⟨h_7, q_8, hd⟩ := dk_bind hd
  refine hp_sF 39 rfl i_139_36 q_8 ?_
  refine wp_s 40 [some (.ref a0)] [.ref a0] h_7 i_139_39 rfl ?_
  refine wp_s 42 [some (.ref a0)] [.int (6 : Int32), .ref a0] h_7 i_139_40 rfl ?_
  refine hp_newa (N := 6) 44 rfl i_139_42 (by decide) (by decide) (by decide) ?_
  obtain ⟨h_9, q_10, hd⟩ := dk_bind hd
  refine hp_sF 47 rfl i_139_44 q_10 ?_
  refine wp_s 48 [some (.ref a0)] [.ref a0] h_9 i_139_47 rfl ?_
  refine wp_s 51 [some (.ref a0)] [.int (140 : Int32), .ref a0] h_9 i_139_48 rfl ?_
  refine hp_newa (N := 140) 53 rfl i_139_51 (by decide) (by decide) (by decide) ?_
  obtain ⟨h_11, q_12, hd⟩ := dk_bind hd
  refine hp_sF 56 rfl i_139_53 q_12 ?_
  refine wp_s 57 [some (.ref a0)] [.ref a0] h_11 i_139_56 rfl ?_
  refine wp_s 60 [some (.ref a0)] [.int (400 : Int32), .ref a0] h_11 i_139_57 rfl ?_
  refine hp_newa (N := 400) 62 rfl i_139_60 (by decide) (by decide) (by decide) ?_
  obtain ⟨h_13, q_14, hd⟩ := dk_bind hd
  refine hp_sF 65 rfl i_139_62 q_14 ?_
  refine wp_s 66 [some (.ref a0)] [.ref a0] h_13 i_139_65 rfl ?_
  refine wp_s 68 [some (.ref a0)] [.int (64 : Int32), .ref a0] h_13 i_139_66 rfl ?_
  refine hp_newa (N := 64) 70 rfl i_139_68 (by decide) (by decide) (by decide) ?_
  obtain ⟨h_15, q_16, hd⟩ := dk_bind hd
  refine hp_sF 73 rfl i_139_70 q_16 ?_
  refine wp_s 74 [some (.ref a0)] [.ref a0] h_15 i_139_73 rfl ?_
  refine wp_s 76 [some (.ref a0)] [.int (8 : Int32), .ref a0] h_15 i_139_74 rfl ?_
  refine hp_newa (N := 8) 78 rfl i_139_76 (by decide) (by decide) (by decide) ?_
  obtain ⟨h_17, q_18, hd⟩ := dk_bind hd
  refine hp_sF 81 rfl i_139_78 q_18 ?_
  refine wp_s 82 [some (.ref a0)] [.ref a0] h_17 i_139_81 rfl ?_
  refine wp_s 85 [some (.ref a0)] [.int (181 : Int32), .ref a0] h_17 i_139_82 rfl ?_
  refine hp_newa (N := 181) 87 rfl i_139_85 (by decide) (by decide) (by decide) ?_
  obtain ⟨h_19, q_20, hd⟩ := dk_bind hd
  refine hp_sF 90 rfl i_139_87 q_20 ?_
  refine wp_s 91 [some (.ref a0)] [.ref a0] h_19 i_139_90 rfl ?_
  refine wp_s 92 [some (.ref a0)] [.int (-1 : Int32), .ref a0] h_19 i_139_91 rfl ?_
  obtain ⟨h_21, q_22, hd⟩ := dk_bind hd
  refine hp_sF 95 rfl i_139_92 q_22 ?_
  refine wp_s 96 [some (.ref a0)] [.ref a0] h_21 i_139_95 rfl ?_
  refine wp_s 97 [some (.ref a0)] [.int (5 : Int32), .ref a0] h_21 i_139_96 rfl ?_
  refine hp_newa (N := 5) 99 rfl i_139_97 (by decide) (by decide) (by decide) ?_
  obtain ⟨h_23, q_24, hd⟩ := dk_bind hd
  refine hp_sF 102 rfl i_139_99 q_24 ?_
  refine wp_s 103 [some (.ref a0)] [.ref a0] h_23 i_139_102 rfl ?_
  refine wp_s 106 [some (.ref a0)] [.int (1600 : Int32), .ref a0] h_23 i_139_103 rfl ?_
  refine hp_newa (N := 1600) 108 rfl i_139_106 (by decide) (by decide) (by decide) ?_
  obtain ⟨h_25, q_26, hd⟩ := dk_bind hd
  refine hp_sF 111 rfl i_139_108 q_26 ?_
  refine wp_s 112 [some (.ref a0)] [.ref a0] h_25 i_139_111 rfl ?_
  refine wp_s 114 [some (.ref a0)] [.int (8 : Int32), .ref a0] h_25 i_139_112 rfl ?_
  refine hp_newa (N := 8) 116 rfl i_139_114 (by decide) (by decide) (by decide) ?_
  obtain ⟨h_27, q_28, hd⟩ := dk_bind hd
  refine hp_sF 119 rfl i_139_116 q_28 ?_
  refine wp_s 120 [some (.ref a0)] [.ref a0] h_27 i_139_119 rfl ?_
  refine wp_s 121 [some (.ref a0)] [.int (4 : Int32), .ref a0] h_27 i_139_120 rfl ?_
  refine hp_newa (N := 4) 123 rfl i_139_121 (by decide) (by decide) (by decide) ?_
  obtain ⟨h_29, q_30, hd⟩ := dk_bind hd
  refine hp_sF 126 rfl i_139_123 q_30 ?_
  refine wp_s 127 [some (.ref a0)] [.ref a0] h_29 i_139_126 rfl ?_
  refine wp_s 129 [some (.ref a0)] [.int (6 : Int32), .ref a0] h_29 i_139_127 rfl ?_
  refine hp_newa (N := 6) 131 rfl i_139_129 (by decide) (by decide) (by decide) ?_
  obtain ⟨h_31, q_32, hd⟩ := dk_bind hd
  refine hp_sF 134 rfl i_139_131 q_32 ?_
  refine wp_s 135 [some (.ref a0)] [.ref a0] h_31 i_139_134 rfl ?_
  refine wp_s 137 [some (.ref a0)] [.int (6 : Int32), .ref a0] h_31 i_139_135 rfl ?_
  refine hp_newa (N := 6) 139 rfl i_139_137 (by decide) (by decide) (by decide) ?_
  obtain ⟨h_33, q_34, hd⟩ := dk_bind hd
  refine hp_sF 142 rfl i_139_139 q_34 ?_
  refine wp_s 143 [some (.ref a0)] [.ref a0] h_33 i_139_142 rfl ?_
  refine wp_s 145 [some (.ref a0)] [.int (80 : Int32), .ref a0] h_33 i_139_143 rfl ?_
  refine hp_newa (N := 80) 147 rfl i_139_145 (by decide) (by decide) (by decide) ?_
  obtain ⟨h_35, q_36, hd⟩ := dk_bind hd
  refine hp_sF 150 rfl i_139_147 q_36 ?_
  refine wp_s 151 [some (.ref a0)] [.ref a0] h_35 i_139_150 rfl ?_
  refine wp_s 153 [some (.ref a0)] [.int (8 : Int32), .ref a0] h_35 i_139_151 rfl ?_
  refine hp_newa (N := 8) 155 rfl i_139_153 (by decide) (by decide) (by decide) ?_
  obtain ⟨h_37, q_38, hd⟩ := dk_bind hd
  refine hp_sF 158 rfl i_139_155 q_38 ?_
  refine wp_s 159 [some (.ref a0)] [.ref a0] h_37 i_139_158 rfl ?_
  refine wp_s 161 [some (.ref a0)] [.int (7 : Int32), .ref a0] h_37 i_139_159 rfl ?_
  refine hp_newa (N := 7) 163 rfl i_139_161 (by decide) (by decide) (by decide) ?_
  obtain ⟨h_39, q_40, hd⟩ := dk_bind hd
  refine hp_sF 166 rfl i_139_163 q_40 ?_
  refine wp_s 167 [some (.ref a0)] [.ref a0] h_39 i_139_166 rfl ?_
  refine wp_s 170 [some (.ref a0)] [.int (724 : Int32), .ref a0] h_39 i_139_167 rfl ?_
  refine hp_newa (N := 724) 172 rfl i_139_170 (by decide) (by decide) (by decide) ?_
  obtain ⟨h_41, q_42, hd⟩ := dk_bind hd
  refine hp_sF 175 rfl i_139_172 q_42 ?_
  refine wp_s 176 [some (.ref a0)] [.ref a0] h_41 i_139_175 rfl ?_
  refine wp_s 177 [some (.ref a0)] [.int (4 : Int32), .ref a0] h_41 i_139_176 rfl ?_
  refine hp_newa (N := 4) 179 rfl i_139_177 (by decide) (by decide) (by decide) ?_
  obtain ⟨h_43, q_44, hd⟩ := dk_bind hd
  refine hp_sF 182 rfl i_139_179 q_44 ?_
  refine wp_s 183 [some (.ref a0)] [.ref a0] h_43 i_139_182 rfl ?_
  refine wp_s 184 [some (.ref a0)] [.int (4 : Int32), .ref a0] h_43 i_139_183 rfl ?_
  refine hp_newa (N := 4) 186 rfl i_139_184 (by decide) (by decide) (by decide) ?_
  obtain ⟨h_45, q_46, hd⟩ := dk_bind hd
  refine hp_sF 189 rfl i_139_186 q_46 ?_
  refine wp_s 190 [some (.ref a0)] [.ref a0] h_45 i_139_189 rfl ?_
  refine wp_s 191 [some (.ref a0)] [.int (4 : Int32), .ref a0] h_45 i_139_190 rfl ?_
  refine hp_newa (N := 4) 193 rfl i_139_191 (by decide) (by decide) (by decide) ?_
  obtain ⟨h_47, q_48, hd⟩ := dk_bind hd
  refine hp_sF 196 rfl i_139_193 q_48 ?_
  obtain rfl := Option.some.inj hd
  exact wp_ret i_139_196 rfl ⟨rfl, rfl⟩
