theorem i_76_0 : aIns 76 0 = some (.iconst 0, 1, 0, 0, .int (0)) := by decide +kernel
theorem i_76_1 : aIns 76 1 = some (.istore_n 2, 1, 0, 0, .null) := by decide +kernel
theorem i_76_2 : aIns 76 2 = some (.iload_n 2, 1, 0, 0, .null) := by decide +kernel
theorem i_76_3 : aIns 76 3 = some (.aload_n 0, 1, 0, 0, .null) := by decide +kernel
theorem i_76_4 : aIns 76 4 = some (.getfield 51, 3, 7, 8, .null) := by decide +kernel
theorem i_76_7 : aIns 76 7 = some (.if_icmp .ge 21, 3, 0, 0, .null) := by decide +kernel
theorem i_76_10 : aIns 76 10 = some (.aload_n 0, 1, 0, 0, .null) := by decide +kernel
theorem i_76_11 : aIns 76 11 = some (.getfield 30, 3, 7, 6, .null) := by decide +kernel
theorem i_76_14 : aIns 76 14 = some (.iload_n 2, 1, 0, 0, .null) := by decide +kernel
theorem i_76_15 : aIns 76 15 = some (.iaload, 1, 0, 0, .null) := by decide +kernel
theorem i_76_16 : aIns 76 16 = some (.iload_n 1, 1, 0, 0, .null) := by decide +kernel
theorem i_76_17 : aIns 76 17 = some (.if_icmp .ne 5, 3, 0, 0, .null) := by decide +kernel
theorem i_76_20 : aIns 76 20 = some (.iload_n 2, 1, 0, 0, .null) := by decide +kernel
theorem i_76_21 : aIns 76 21 = some (.ireturn, 1, 0, 0, .null) := by decide +kernel
theorem i_76_22 : aIns 76 22 = some (.iinc 2 1, 3, 0, 0, .null) := by decide +kernel
theorem i_76_25 : aIns 76 25 = some (.goto (-23), 3, 0, 0, .null) := by decide +kernel
theorem i_76_28 : aIns 76 28 = some (.iconst (-1), 1, 0, 0, .int (-1)) := by decide +kernel
theorem i_76_29 : aIns 76 29 = some (.ireturn, 1, 0, 0, .null) := by decide +kernel
theorem i_78_0 : aIns 78 0 = some (.aload_n 0, 1, 0, 0, .null) := by decide +kernel
theorem i_78_1 : aIns 78 1 = some (.getfield 9, 3, 7, 0, .null) := by decide +kernel
theorem i_78_4 : aIns 78 4 = some (.iconst 0, 1, 0, 0, .int (0)) := by decide +kernel
theorem i_78_5 : aIns 78 5 = some (.aload_n 0, 1, 0, 0, .null) := by decide +kernel
theorem i_78_6 : aIns 78 6 = some (.getfield 24, 3, 7, 4, .null) := by decide +kernel
theorem i_78_9 : aIns 78 9 = some (.iconst 0, 1, 0, 0, .int (0)) := by decide +kernel
theorem i_78_10 : aIns 78 10 = some (.bipush 8, 2, 0, 0, .int (8)) := by decide +kernel
theorem i_78_12 : aIns 78 12 = some (.invokestatic 45, 3, 1000, 0, .null) := by decide +kernel
theorem i_78_15 : aIns 78 15 = some (.aload_n 0, 1, 0, 0, .null) := by decide +kernel
theorem i_78_16 : aIns 78 16 = some (.getfield 30, 3, 7, 6, .null) := by decide +kernel
theorem i_78_19 : aIns 78 19 = some (.iconst 0, 1, 0, 0, .int (0)) := by decide +kernel
theorem i_78_20 : aIns 78 20 = some (.aload_n 0, 1, 0, 0, .null) := by decide +kernel
theorem i_78_21 : aIns 78 21 = some (.getfield 33, 3, 7, 7, .null) := by decide +kernel
theorem i_78_24 : aIns 78 24 = some (.iconst 0, 1, 0, 0, .int (0)) := by decide +kernel
theorem i_78_25 : aIns 78 25 = some (.iconst 5, 1, 0, 0, .int (5)) := by decide +kernel
theorem i_78_26 : aIns 78 26 = some (.invokestatic 45, 3, 1000, 0, .null) := by decide +kernel
theorem i_78_29 : aIns 78 29 = some (.aload_n 0, 1, 0, 0, .null) := by decide +kernel
theorem i_78_30 : aIns 78 30 = some (.aload_n 0, 1, 0, 0, .null) := by decide +kernel
theorem i_78_31 : aIns 78 31 = some (.getfield 51, 3, 7, 8, .null) := by decide +kernel
theorem i_78_34 : aIns 78 34 = some (.putfield 55, 3, 7, 9, .null) := by decide +kernel
theorem i_78_37 : aIns 78 37 = some (.aload_n 0, 1, 0, 0, .null) := by decide +kernel
theorem i_78_38 : aIns 78 38 = some (.iload_n 1, 1, 0, 0, .null) := by decide +kernel
theorem i_78_39 : aIns 78 39 = some (.putfield 64, 3, 7, 12, .null) := by decide +kernel
theorem i_78_42 : aIns 78 42 = some (.aload_n 0, 1, 0, 0, .null) := by decide +kernel
theorem i_78_43 : aIns 78 43 = some (.dup, 1, 0, 0, .null) := by decide +kernel
theorem i_78_44 : aIns 78 44 = some (.getfield 61, 3, 7, 11, .null) := by decide +kernel
theorem i_78_47 : aIns 78 47 = some (.iload_n 1, 1, 0, 0, .null) := by decide +kernel
theorem i_78_48 : aIns 78 48 = some (.iadd, 1, 0, 0, .null) := by decide +kernel
theorem i_78_49 : aIns 78 49 = some (.putfield 61, 3, 7, 11, .null) := by decide +kernel
theorem i_78_52 : aIns 78 52 = some (.iconst 0, 1, 0, 0, .int (0)) := by decide +kernel
theorem i_78_53 : aIns 78 53 = some (.istore_n 2, 1, 0, 0, .null) := by decide +kernel
theorem i_78_54 : aIns 78 54 = some (.iload_n 2, 1, 0, 0, .null) := by decide +kernel
theorem i_78_55 : aIns 78 55 = some (.aload_n 0, 1, 0, 0, .null) := by decide +kernel
theorem i_78_56 : aIns 78 56 = some (.getfield 51, 3, 7, 8, .null) := by decide +kernel
theorem i_78_59 : aIns 78 59 = some (.if_icmp .ge 26, 3, 0, 0, .null) := by decide +kernel
theorem i_78_62 : aIns 78 62 = some (.aload_n 0, 1, 0, 0, .null) := by decide +kernel
theorem i_78_63 : aIns 78 63 = some (.dup, 1, 0, 0, .null) := by decide +kernel
theorem i_78_64 : aIns 78 64 = some (.getfield 58, 3, 7, 10, .null) := by decide +kernel
theorem i_78_67 : aIns 78 67 = some (.iconst 1, 1, 0, 0, .int (1)) := by decide +kernel
theorem i_78_68 : aIns 78 68 = some (.aload_n 0, 1, 0, 0, .null) := by decide +kernel
theorem i_78_69 : aIns 78 69 = some (.getfield 30, 3, 7, 6, .null) := by decide +kernel
theorem i_78_72 : aIns 78 72 = some (.iload_n 2, 1, 0, 0, .null) := by decide +kernel
theorem i_78_73 : aIns 78 73 = some (.iaload, 1, 0, 0, .null) := by decide +kernel
theorem i_78_74 : aIns 78 74 = some (.ishl, 1, 0, 0, .null) := by decide +kernel
theorem i_78_75 : aIns 78 75 = some (.ior, 1, 0, 0, .null) := by decide +kernel
theorem i_78_76 : aIns 78 76 = some (.putfield 58, 3, 7, 10, .null) := by decide +kernel
theorem i_78_79 : aIns 78 79 = some (.iinc 2 1, 3, 0, 0, .null) := by decide +kernel
theorem i_78_82 : aIns 78 82 = some (.goto (-28), 3, 0, 0, .null) := by decide +kernel
theorem i_78_85 : aIns 78 85 = some (.aload_n 0, 1, 0, 0, .null) := by decide +kernel
theorem i_78_86 : aIns 78 86 = some (.iconst 0, 1, 0, 0, .int (0)) := by decide +kernel
theorem i_78_87 : aIns 78 87 = some (.putfield 51, 3, 7, 8, .null) := by decide +kernel
theorem i_78_90 : aIns 78 90 = some (.return_, 1, 0, 0, .null) := by decide +kernel
theorem i_81_0 : aIns 81 0 = some (.bipush 24, 2, 0, 0, .int (24)) := by decide +kernel
theorem i_81_2 : aIns 81 2 = some (.istore_n 2, 1, 0, 0, .null) := by decide +kernel
theorem i_81_3 : aIns 81 3 = some (.iload_n 2, 1, 0, 0, .null) := by decide +kernel
theorem i_81_4 : aIns 81 4 = some (.ifCond .lt 42, 3, 0, 0, .null) := by decide +kernel
theorem i_81_7 : aIns 81 7 = some (.aload_n 0, 1, 0, 0, .null) := by decide +kernel
theorem i_81_8 : aIns 81 8 = some (.getfield 15, 3, 8, 1, .null) := by decide +kernel
theorem i_81_11 : aIns 81 11 = some (.sipush 400, 3, 0, 0, .int (400)) := by decide +kernel
theorem i_81_14 : aIns 81 14 = some (.if_icmp .ge 32, 3, 0, 0, .null) := by decide +kernel
theorem i_81_17 : aIns 81 17 = some (.aload_n 0, 1, 0, 0, .null) := by decide +kernel
theorem i_81_18 : aIns 81 18 = some (.getfield 9, 3, 8, 0, .null) := by decide +kernel
theorem i_81_21 : aIns 81 21 = some (.aload_n 0, 1, 0, 0, .null) := by decide +kernel
theorem i_81_22 : aIns 81 22 = some (.getfield 15, 3, 8, 1, .null) := by decide +kernel
theorem i_81_25 : aIns 81 25 = some (.iload_n 1, 1, 0, 0, .null) := by decide +kernel
theorem i_81_26 : aIns 81 26 = some (.iload_n 2, 1, 0, 0, .null) := by decide +kernel
theorem i_81_27 : aIns 81 27 = some (.ishr, 1, 0, 0, .null) := by decide +kernel
theorem i_81_28 : aIns 81 28 = some (.i2b, 1, 0, 0, .null) := by decide +kernel
theorem i_81_29 : aIns 81 29 = some (.bastore, 1, 0, 0, .null) := by decide +kernel
theorem i_81_30 : aIns 81 30 = some (.aload_n 0, 1, 0, 0, .null) := by decide +kernel
theorem i_81_31 : aIns 81 31 = some (.dup, 1, 0, 0, .null) := by decide +kernel
theorem i_81_32 : aIns 81 32 = some (.getfield 15, 3, 8, 1, .null) := by decide +kernel
theorem i_81_35 : aIns 81 35 = some (.iconst 1, 1, 0, 0, .int (1)) := by decide +kernel
theorem i_81_36 : aIns 81 36 = some (.iadd, 1, 0, 0, .null) := by decide +kernel
theorem i_81_37 : aIns 81 37 = some (.putfield 15, 3, 8, 1, .null) := by decide +kernel
theorem i_81_40 : aIns 81 40 = some (.iinc 2 (-8), 3, 0, 0, .null) := by decide +kernel
theorem i_81_43 : aIns 81 43 = some (.goto (-40), 3, 0, 0, .null) := by decide +kernel
theorem i_81_46 : aIns 81 46 = some (.return_, 1, 0, 0, .null) := by decide +kernel
theorem i_91_0 : aIns 91 0 = some (.aload_n 0, 1, 0, 0, .null) := by decide +kernel
theorem i_91_1 : aIns 91 1 = some (.iload_n 1, 1, 0, 0, .null) := by decide +kernel
theorem i_91_2 : aIns 91 2 = some (.aload_n 0, 1, 0, 0, .null) := by decide +kernel
theorem i_91_3 : aIns 91 3 = some (.getfield 21, 3, 9, 0, .null) := by decide +kernel
theorem i_91_6 : aIns 91 6 = some (.getfield 67, 3, 10, 1, .null) := by decide +kernel
theorem i_91_9 : aIns 91 9 = some (.getfield 81, 3, 7, 13, .null) := by decide +kernel
theorem i_91_12 : aIns 91 12 = some (.invokevirtual 84, 3, 90, 2, .int 9) := by decide +kernel
theorem i_91_15 : aIns 91 15 = some (.ireturn, 1, 0, 0, .null) := by decide +kernel
theorem i_92_0 : aIns 92 0 = some (.iconst 0, 1, 0, 0, .int (0)) := by decide +kernel
theorem i_92_1 : aIns 92 1 = some (.istore_n 1, 1, 0, 0, .null) := by decide +kernel
theorem i_92_2 : aIns 92 2 = some (.iconst 0, 1, 0, 0, .int (0)) := by decide +kernel
theorem i_92_3 : aIns 92 3 = some (.istore_n 2, 1, 0, 0, .null) := by decide +kernel
theorem i_92_4 : aIns 92 4 = some (.iload_n 2, 1, 0, 0, .null) := by decide +kernel
theorem i_92_5 : aIns 92 5 = some (.aload_n 0, 1, 0, 0, .null) := by decide +kernel
theorem i_92_6 : aIns 92 6 = some (.getfield 21, 3, 9, 0, .null) := by decide +kernel
theorem i_92_9 : aIns 92 9 = some (.getfield 26, 3, 10, 0, .null) := by decide +kernel
theorem i_92_12 : aIns 92 12 = some (.getfield 87, 3, 5, 4, .null) := by decide +kernel
theorem i_92_15 : aIns 92 15 = some (.if_icmp .ge 55, 3, 0, 0, .null) := by decide +kernel
theorem i_92_18 : aIns 92 18 = some (.aload_n 0, 1, 0, 0, .null) := by decide +kernel
theorem i_92_19 : aIns 92 19 = some (.getfield 21, 3, 9, 0, .null) := by decide +kernel
theorem i_92_22 : aIns 92 22 = some (.getfield 67, 3, 10, 1, .null) := by decide +kernel
theorem i_92_25 : aIns 92 25 = some (.getfield 90, 3, 7, 0, .null) := by decide +kernel
theorem i_92_28 : aIns 92 28 = some (.iload_n 2, 1, 0, 0, .null) := by decide +kernel
theorem i_92_29 : aIns 92 29 = some (.iaload, 1, 0, 0, .null) := by decide +kernel
theorem i_92_30 : aIns 92 30 = some (.ifCond .le 34, 3, 0, 0, .null) := by decide +kernel
theorem i_92_33 : aIns 92 33 = some (.iload_n 1, 1, 0, 0, .null) := by decide +kernel
theorem i_92_34 : aIns 92 34 = some (.aload_n 0, 1, 0, 0, .null) := by decide +kernel
theorem i_92_35 : aIns 92 35 = some (.getfield 21, 3, 9, 0, .null) := by decide +kernel
theorem i_92_38 : aIns 92 38 = some (.getfield 67, 3, 10, 1, .null) := by decide +kernel
theorem i_92_41 : aIns 92 41 = some (.getfield 90, 3, 7, 0, .null) := by decide +kernel
theorem i_92_44 : aIns 92 44 = some (.iload_n 2, 1, 0, 0, .null) := by decide +kernel
theorem i_92_45 : aIns 92 45 = some (.iaload, 1, 0, 0, .null) := by decide +kernel
theorem i_92_46 : aIns 92 46 = some (.aload_n 0, 1, 0, 0, .null) := by decide +kernel
theorem i_92_47 : aIns 92 47 = some (.iload_n 2, 1, 0, 0, .null) := by decide +kernel
theorem i_92_48 : aIns 92 48 = some (.aload_n 0, 1, 0, 0, .null) := by decide +kernel
theorem i_92_49 : aIns 92 49 = some (.getfield 21, 3, 9, 0, .null) := by decide +kernel
theorem i_92_52 : aIns 92 52 = some (.getfield 67, 3, 10, 1, .null) := by decide +kernel
theorem i_92_55 : aIns 92 55 = some (.getfield 81, 3, 7, 13, .null) := by decide +kernel
theorem i_92_58 : aIns 92 58 = some (.invokevirtual 84, 3, 90, 2, .int 9) := by decide +kernel
theorem i_92_61 : aIns 92 61 = some (.imul, 1, 0, 0, .null) := by decide +kernel
theorem i_92_62 : aIns 92 62 = some (.iadd, 1, 0, 0, .null) := by decide +kernel
theorem i_92_63 : aIns 92 63 = some (.istore_n 1, 1, 0, 0, .null) := by decide +kernel
theorem i_92_64 : aIns 92 64 = some (.iinc 2 1, 3, 0, 0, .null) := by decide +kernel
theorem i_92_67 : aIns 92 67 = some (.goto (-63), 3, 0, 0, .null) := by decide +kernel
theorem i_92_70 : aIns 92 70 = some (.iload_n 1, 1, 0, 0, .null) := by decide +kernel
theorem i_92_71 : aIns 92 71 = some (.ireturn, 1, 0, 0, .null) := by decide +kernel
theorem i_93_0 : aIns 93 0 = some (.aload_n 0, 1, 0, 0, .null) := by decide +kernel
theorem i_93_1 : aIns 93 1 = some (.getfield 21, 3, 9, 0, .null) := by decide +kernel
theorem i_93_4 : aIns 93 4 = some (.getfield 67, 3, 10, 1, .null) := by decide +kernel
theorem i_93_7 : aIns 93 7 = some (.astore_n 1, 1, 0, 0, .null) := by decide +kernel
theorem i_93_8 : aIns 93 8 = some (.aload_n 0, 1, 0, 0, .null) := by decide +kernel
theorem i_93_9 : aIns 93 9 = some (.aload_n 1, 1, 0, 0, .null) := by decide +kernel
theorem i_93_10 : aIns 93 10 = some (.invokevirtual 93, 3, 73, 0, .int 7) := by decide +kernel
theorem i_93_13 : aIns 93 13 = some (.aload_n 0, 1, 0, 0, .null) := by decide +kernel
theorem i_93_14 : aIns 93 14 = some (.invokevirtual 97, 3, 92, 0, .int 9) := by decide +kernel
theorem i_93_17 : aIns 93 17 = some (.aload_n 1, 1, 0, 0, .null) := by decide +kernel
theorem i_93_18 : aIns 93 18 = some (.getfield 100, 3, 7, 6, .null) := by decide +kernel
theorem i_93_21 : aIns 93 21 = some (.aload_n 1, 1, 0, 0, .null) := by decide +kernel
theorem i_93_22 : aIns 93 22 = some (.getfield 103, 3, 7, 8, .null) := by decide +kernel
theorem i_93_25 : aIns 93 25 = some (.aload_n 0, 1, 0, 0, .null) := by decide +kernel
theorem i_93_26 : aIns 93 26 = some (.getfield 21, 3, 9, 0, .null) := by decide +kernel
theorem i_93_29 : aIns 93 29 = some (.getfield 26, 3, 10, 0, .null) := by decide +kernel
theorem i_93_32 : aIns 93 32 = some (.getfield 106, 3, 5, 2, .null) := by decide +kernel
theorem i_93_35 : aIns 93 35 = some (.invokevirtual 109, 3, 94, 5, .int 9) := by decide +kernel
theorem i_93_38 : aIns 93 38 = some (.ireturn, 1, 0, 0, .null) := by decide +kernel
theorem i_98_0 : aIns 98 0 = some (.aload_n 0, 1, 0, 0, .null) := by decide +kernel
theorem i_98_1 : aIns 98 1 = some (.aload_n 1, 1, 0, 0, .null) := by decide +kernel
theorem i_98_2 : aIns 98 2 = some (.putfield 12, 3, 10, 0, .null) := by decide +kernel
theorem i_98_5 : aIns 98 5 = some (.aload_n 0, 1, 0, 0, .null) := by decide +kernel
theorem i_98_6 : aIns 98 6 = some (.getfield 21, 3, 10, 1, .null) := by decide +kernel
theorem i_98_9 : aIns 98 9 = some (.aload_n 1, 1, 0, 0, .null) := by decide +kernel
theorem i_98_10 : aIns 98 10 = some (.invokevirtual 42, 3, 71, 1, .int 7) := by decide +kernel
theorem i_98_13 : aIns 98 13 = some (.aload_n 0, 1, 0, 0, .null) := by decide +kernel
theorem i_98_14 : aIns 98 14 = some (.iconst 0, 1, 0, 0, .int (0)) := by decide +kernel
theorem i_98_15 : aIns 98 15 = some (.putfield 46, 3, 10, 8, .null) := by decide +kernel
theorem i_98_18 : aIns 98 18 = some (.return_, 1, 0, 0, .null) := by decide +kernel
theorem i_99_0 : aIns 99 0 = some (.aload_n 0, 1, 0, 0, .null) := by decide +kernel
theorem i_99_1 : aIns 99 1 = some (.aload_n 1, 1, 0, 0, .null) := by decide +kernel
theorem i_99_2 : aIns 99 2 = some (.getfield 12, 3, 10, 0, .null) := by decide +kernel
theorem i_99_5 : aIns 99 5 = some (.putfield 12, 3, 10, 0, .null) := by decide +kernel
theorem i_99_8 : aIns 99 8 = some (.aload_n 0, 1, 0, 0, .null) := by decide +kernel
theorem i_99_9 : aIns 99 9 = some (.getfield 21, 3, 10, 1, .null) := by decide +kernel
theorem i_99_12 : aIns 99 12 = some (.aload_n 1, 1, 0, 0, .null) := by decide +kernel
theorem i_99_13 : aIns 99 13 = some (.getfield 21, 3, 10, 1, .null) := by decide +kernel
theorem i_99_16 : aIns 99 16 = some (.invokevirtual 49, 3, 72, 1, .int 7) := by decide +kernel
theorem i_99_19 : aIns 99 19 = some (.aload_n 0, 1, 0, 0, .null) := by decide +kernel
theorem i_99_20 : aIns 99 20 = some (.aload_n 1, 1, 0, 0, .null) := by decide +kernel
theorem i_99_21 : aIns 99 21 = some (.getfield 25, 3, 10, 2, .null) := by decide +kernel
theorem i_99_24 : aIns 99 24 = some (.putfield 25, 3, 10, 2, .null) := by decide +kernel
theorem i_99_27 : aIns 99 27 = some (.aload_n 0, 1, 0, 0, .null) := by decide +kernel
theorem i_99_28 : aIns 99 28 = some (.aload_n 1, 1, 0, 0, .null) := by decide +kernel
theorem i_99_29 : aIns 99 29 = some (.getfield 53, 3, 10, 3, .null) := by decide +kernel
theorem i_99_32 : aIns 99 32 = some (.putfield 53, 3, 10, 3, .null) := by decide +kernel
theorem i_99_35 : aIns 99 35 = some (.aload_n 1, 1, 0, 0, .null) := by decide +kernel
theorem i_99_36 : aIns 99 36 = some (.getfield 29, 3, 10, 4, .null) := by decide +kernel
theorem i_99_39 : aIns 99 39 = some (.iconst 0, 1, 0, 0, .int (0)) := by decide +kernel
theorem i_99_40 : aIns 99 40 = some (.aload_n 0, 1, 0, 0, .null) := by decide +kernel
theorem i_99_41 : aIns 99 41 = some (.getfield 29, 3, 10, 4, .null) := by decide +kernel
theorem i_99_44 : aIns 99 44 = some (.iconst 0, 1, 0, 0, .int (0)) := by decide +kernel
theorem i_99_45 : aIns 99 45 = some (.bipush 10, 2, 0, 0, .int (10)) := by decide +kernel
theorem i_99_47 : aIns 99 47 = some (.invokestatic 56, 3, 1000, 0, .null) := by decide +kernel
theorem i_99_50 : aIns 99 50 = some (.aload_n 1, 1, 0, 0, .null) := by decide +kernel
theorem i_99_51 : aIns 99 51 = some (.getfield 33, 3, 10, 5, .null) := by decide +kernel
theorem i_99_54 : aIns 99 54 = some (.iconst 0, 1, 0, 0, .int (0)) := by decide +kernel
theorem i_99_55 : aIns 99 55 = some (.aload_n 0, 1, 0, 0, .null) := by decide +kernel
theorem i_99_56 : aIns 99 56 = some (.getfield 33, 3, 10, 5, .null) := by decide +kernel
theorem i_99_59 : aIns 99 59 = some (.iconst 0, 1, 0, 0, .int (0)) := by decide +kernel
theorem i_99_60 : aIns 99 60 = some (.bipush 10, 2, 0, 0, .int (10)) := by decide +kernel
theorem i_99_62 : aIns 99 62 = some (.invokestatic 56, 3, 1000, 0, .null) := by decide +kernel
theorem i_99_65 : aIns 99 65 = some (.aload_n 1, 1, 0, 0, .null) := by decide +kernel
theorem i_99_66 : aIns 99 66 = some (.getfield 36, 3, 10, 6, .null) := by decide +kernel
theorem i_99_69 : aIns 99 69 = some (.iconst 0, 1, 0, 0, .int (0)) := by decide +kernel
theorem i_99_70 : aIns 99 70 = some (.aload_n 0, 1, 0, 0, .null) := by decide +kernel
theorem i_99_71 : aIns 99 71 = some (.getfield 36, 3, 10, 6, .null) := by decide +kernel
theorem i_99_74 : aIns 99 74 = some (.iconst 0, 1, 0, 0, .int (0)) := by decide +kernel
theorem i_99_75 : aIns 99 75 = some (.bipush 10, 2, 0, 0, .int (10)) := by decide +kernel
theorem i_99_77 : aIns 99 77 = some (.invokestatic 56, 3, 1000, 0, .null) := by decide +kernel
theorem i_99_80 : aIns 99 80 = some (.aload_n 1, 1, 0, 0, .null) := by decide +kernel
theorem i_99_81 : aIns 99 81 = some (.getfield 39, 3, 10, 7, .null) := by decide +kernel
theorem i_99_84 : aIns 99 84 = some (.iconst 0, 1, 0, 0, .int (0)) := by decide +kernel
theorem i_99_85 : aIns 99 85 = some (.aload_n 0, 1, 0, 0, .null) := by decide +kernel
theorem i_99_86 : aIns 99 86 = some (.getfield 39, 3, 10, 7, .null) := by decide +kernel
theorem i_99_89 : aIns 99 89 = some (.iconst 0, 1, 0, 0, .int (0)) := by decide +kernel
theorem i_99_90 : aIns 99 90 = some (.bipush 10, 2, 0, 0, .int (10)) := by decide +kernel
theorem i_99_92 : aIns 99 92 = some (.invokestatic 56, 3, 1000, 0, .null) := by decide +kernel
theorem i_99_95 : aIns 99 95 = some (.aload_n 0, 1, 0, 0, .null) := by decide +kernel
theorem i_99_96 : aIns 99 96 = some (.aload_n 1, 1, 0, 0, .null) := by decide +kernel
theorem i_99_97 : aIns 99 97 = some (.getfield 46, 3, 10, 8, .null) := by decide +kernel
theorem i_99_100 : aIns 99 100 = some (.putfield 46, 3, 10, 8, .null) := by decide +kernel
theorem i_99_103 : aIns 99 103 = some (.return_, 1, 0, 0, .null) := by decide +kernel
theorem i_100_0 : aIns 100 0 = some (.aload_n 0, 1, 0, 0, .null) := by decide +kernel
theorem i_100_1 : aIns 100 1 = some (.getfield 29, 3, 10, 4, .null) := by decide +kernel
theorem i_100_4 : aIns 100 4 = some (.aload_n 0, 1, 0, 0, .null) := by decide +kernel
theorem i_100_5 : aIns 100 5 = some (.getfield 46, 3, 10, 8, .null) := by decide +kernel
theorem i_100_8 : aIns 100 8 = some (.iload_n 1, 1, 0, 0, .null) := by decide +kernel
theorem i_100_9 : aIns 100 9 = some (.iastore, 1, 0, 0, .null) := by decide +kernel
theorem i_100_10 : aIns 100 10 = some (.aload_n 0, 1, 0, 0, .null) := by decide +kernel
theorem i_100_11 : aIns 100 11 = some (.getfield 33, 3, 10, 5, .null) := by decide +kernel
theorem i_100_14 : aIns 100 14 = some (.aload_n 0, 1, 0, 0, .null) := by decide +kernel
theorem i_100_15 : aIns 100 15 = some (.getfield 46, 3, 10, 8, .null) := by decide +kernel
theorem i_100_18 : aIns 100 18 = some (.iload_n 2, 1, 0, 0, .null) := by decide +kernel
theorem i_100_19 : aIns 100 19 = some (.iastore, 1, 0, 0, .null) := by decide +kernel
theorem i_100_20 : aIns 100 20 = some (.aload_n 0, 1, 0, 0, .null) := by decide +kernel
theorem i_100_21 : aIns 100 21 = some (.getfield 36, 3, 10, 6, .null) := by decide +kernel
theorem i_100_24 : aIns 100 24 = some (.aload_n 0, 1, 0, 0, .null) := by decide +kernel
theorem i_100_25 : aIns 100 25 = some (.getfield 46, 3, 10, 8, .null) := by decide +kernel
theorem i_100_28 : aIns 100 28 = some (.iload_n 3, 1, 0, 0, .null) := by decide +kernel
theorem i_100_29 : aIns 100 29 = some (.iastore, 1, 0, 0, .null) := by decide +kernel
theorem i_100_30 : aIns 100 30 = some (.aload_n 0, 1, 0, 0, .null) := by decide +kernel
theorem i_100_31 : aIns 100 31 = some (.getfield 39, 3, 10, 7, .null) := by decide +kernel
theorem i_100_34 : aIns 100 34 = some (.aload_n 0, 1, 0, 0, .null) := by decide +kernel
theorem i_100_35 : aIns 100 35 = some (.getfield 46, 3, 10, 8, .null) := by decide +kernel
theorem i_100_38 : aIns 100 38 = some (.iload 4, 2, 0, 0, .null) := by decide +kernel
theorem i_100_40 : aIns 100 40 = some (.iastore, 1, 0, 0, .null) := by decide +kernel
theorem i_100_41 : aIns 100 41 = some (.aload_n 0, 1, 0, 0, .null) := by decide +kernel
theorem i_100_42 : aIns 100 42 = some (.dup, 1, 0, 0, .null) := by decide +kernel
theorem i_100_43 : aIns 100 43 = some (.getfield 46, 3, 10, 8, .null) := by decide +kernel
theorem i_100_46 : aIns 100 46 = some (.iconst 1, 1, 0, 0, .int (1)) := by decide +kernel
theorem i_100_47 : aIns 100 47 = some (.iadd, 1, 0, 0, .null) := by decide +kernel
theorem i_100_48 : aIns 100 48 = some (.putfield 46, 3, 10, 8, .null) := by decide +kernel
theorem i_100_51 : aIns 100 51 = some (.return_, 1, 0, 0, .null) := by decide +kernel
theorem i_102_0 : aIns 102 0 = some (.aload_n 0, 1, 0, 0, .null) := by decide +kernel
theorem i_102_1 : aIns 102 1 = some (.getfield 10, 3, 11, 0, .null) := by decide +kernel
theorem i_102_4 : aIns 102 4 = some (.getfield 72, 3, 8, 1, .null) := by decide +kernel
theorem i_102_7 : aIns 102 7 = some (.bipush 20, 2, 0, 0, .int (20)) := by decide +kernel
theorem i_102_9 : aIns 102 9 = some (.iadd, 1, 0, 0, .null) := by decide +kernel
theorem i_102_10 : aIns 102 10 = some (.sipush 400, 3, 0, 0, .int (400)) := by decide +kernel
theorem i_102_13 : aIns 102 13 = some (.if_icmp .le 5, 3, 0, 0, .null) := by decide +kernel
theorem i_102_16 : aIns 102 16 = some (.iconst (-1), 1, 0, 0, .int (-1)) := by decide +kernel
theorem i_102_17 : aIns 102 17 = some (.ireturn, 1, 0, 0, .null) := by decide +kernel
theorem i_102_18 : aIns 102 18 = some (.aload_n 0, 1, 0, 0, .null) := by decide +kernel
theorem i_102_19 : aIns 102 19 = some (.getfield 10, 3, 11, 0, .null) := by decide +kernel
theorem i_102_22 : aIns 102 22 = some (.iload_n 1, 1, 0, 0, .null) := by decide +kernel
theorem i_102_23 : aIns 102 23 = some (.invokevirtual 76, 3, 81, 1, .int 8) := by decide +kernel
theorem i_102_26 : aIns 102 26 = some (.aload_n 0, 1, 0, 0, .null) := by decide +kernel
theorem i_102_27 : aIns 102 27 = some (.getfield 10, 3, 11, 0, .null) := by decide +kernel
theorem i_102_30 : aIns 102 30 = some (.iload_n 2, 1, 0, 0, .null) := by decide +kernel
theorem i_102_31 : aIns 102 31 = some (.invokevirtual 76, 3, 81, 1, .int 8) := by decide +kernel
theorem i_102_34 : aIns 102 34 = some (.aload_n 0, 1, 0, 0, .null) := by decide +kernel
theorem i_102_35 : aIns 102 35 = some (.getfield 10, 3, 11, 0, .null) := by decide +kernel
theorem i_102_38 : aIns 102 38 = some (.iload_n 3, 1, 0, 0, .null) := by decide +kernel
theorem i_102_39 : aIns 102 39 = some (.invokevirtual 76, 3, 81, 1, .int 8) := by decide +kernel
theorem i_102_42 : aIns 102 42 = some (.aload_n 0, 1, 0, 0, .null) := by decide +kernel
theorem i_102_43 : aIns 102 43 = some (.getfield 10, 3, 11, 0, .null) := by decide +kernel
theorem i_102_46 : aIns 102 46 = some (.iload 4, 2, 0, 0, .null) := by decide +kernel
theorem i_102_48 : aIns 102 48 = some (.invokevirtual 76, 3, 81, 1, .int 8) := by decide +kernel
theorem i_102_51 : aIns 102 51 = some (.aload_n 0, 1, 0, 0, .null) := by decide +kernel
theorem i_102_52 : aIns 102 52 = some (.getfield 10, 3, 11, 0, .null) := by decide +kernel
theorem i_102_55 : aIns 102 55 = some (.iload 5, 2, 0, 0, .null) := by decide +kernel
theorem i_102_57 : aIns 102 57 = some (.invokevirtual 76, 3, 81, 1, .int 8) := by decide +kernel
theorem i_102_60 : aIns 102 60 = some (.aload_n 0, 1, 0, 0, .null) := by decide +kernel
theorem i_102_61 : aIns 102 61 = some (.getfield 10, 3, 11, 0, .null) := by decide +kernel
theorem i_102_64 : aIns 102 64 = some (.getfield 72, 3, 8, 1, .null) := by decide +kernel
theorem i_102_67 : aIns 102 67 = some (.ireturn, 1, 0, 0, .null) := by decide +kernel
theorem i_103_0 : aIns 103 0 = some (.iload_n 1, 1, 0, 0, .null) := by decide +kernel
theorem i_103_1 : aIns 103 1 = some (.ifCond .lt 14, 3, 0, 0, .null) := by decide +kernel
theorem i_103_4 : aIns 103 4 = some (.iload_n 1, 1, 0, 0, .null) := by decide +kernel
theorem i_103_5 : aIns 103 5 = some (.aload_n 0, 1, 0, 0, .null) := by decide +kernel
theorem i_103_6 : aIns 103 6 = some (.getfield 10, 3, 11, 0, .null) := by decide +kernel
theorem i_103_9 : aIns 103 9 = some (.getfield 72, 3, 8, 1, .null) := by decide +kernel
theorem i_103_12 : aIns 103 12 = some (.if_icmp .le 5, 3, 0, 0, .null) := by decide +kernel
theorem i_103_15 : aIns 103 15 = some (.iconst (-1), 1, 0, 0, .int (-1)) := by decide +kernel
theorem i_103_16 : aIns 103 16 = some (.ireturn, 1, 0, 0, .null) := by decide +kernel
theorem i_103_17 : aIns 103 17 = some (.aload_n 0, 1, 0, 0, .null) := by decide +kernel
theorem i_103_18 : aIns 103 18 = some (.getfield 10, 3, 11, 0, .null) := by decide +kernel
theorem i_103_21 : aIns 103 21 = some (.iload_n 1, 1, 0, 0, .null) := by decide +kernel
theorem i_103_22 : aIns 103 22 = some (.putfield 72, 3, 8, 1, .null) := by decide +kernel
theorem i_103_25 : aIns 103 25 = some (.iload_n 1, 1, 0, 0, .null) := by decide +kernel
theorem i_103_26 : aIns 103 26 = some (.ireturn, 1, 0, 0, .null) := by decide +kernel
theorem i_104_0 : aIns 104 0 = some (.new 80, 3, 5, 0, .null) := by decide +kernel
theorem i_104_3 : aIns 104 3 = some (.dup, 1, 0, 0, .null) := by decide +kernel
theorem i_104_4 : aIns 104 4 = some (.invokespecial 82, 3, 54, 0, .int 5) := by decide +kernel
theorem i_104_7 : aIns 104 7 = some (.astore_n 1, 1, 0, 0, .null) := by decide +kernel
theorem i_104_8 : aIns 104 8 = some (.aload_n 0, 1, 0, 0, .null) := by decide +kernel
theorem i_104_9 : aIns 104 9 = some (.getfield 21, 3, 11, 1, .null) := by decide +kernel
theorem i_104_12 : aIns 104 12 = some (.aload_n 1, 1, 0, 0, .null) := by decide +kernel
theorem i_104_13 : aIns 104 13 = some (.invokevirtual 83, 3, 60, 1, .int 6) := by decide +kernel
theorem i_104_16 : aIns 104 16 = some (.istore_n 2, 1, 0, 0, .null) := by decide +kernel
theorem i_104_17 : aIns 104 17 = some (.aload_n 0, 1, 0, 0, .null) := by decide +kernel
theorem i_104_18 : aIns 104 18 = some (.getfield 10, 3, 11, 0, .null) := by decide +kernel
theorem i_104_21 : aIns 104 21 = some (.iconst 0, 1, 0, 0, .int (0)) := by decide +kernel
theorem i_104_22 : aIns 104 22 = some (.putfield 72, 3, 8, 1, .null) := by decide +kernel
theorem i_104_25 : aIns 104 25 = some (.iload_n 2, 1, 0, 0, .null) := by decide +kernel
theorem i_104_26 : aIns 104 26 = some (.ifCond .eq 8, 3, 0, 0, .null) := by decide +kernel
theorem i_104_29 : aIns 104 29 = some (.bipush (-2), 2, 0, 0, .int (-2)) := by decide +kernel
theorem i_104_31 : aIns 104 31 = some (.iload_n 2, 1, 0, 0, .null) := by decide +kernel
theorem i_104_32 : aIns 104 32 = some (.isub, 1, 0, 0, .null) := by decide +kernel
theorem i_104_33 : aIns 104 33 = some (.ireturn, 1, 0, 0, .null) := by decide +kernel
theorem i_104_34 : aIns 104 34 = some (.aload_n 0, 1, 0, 0, .null) := by decide +kernel
theorem i_104_35 : aIns 104 35 = some (.getfield 35, 3, 11, 3, .null) := by decide +kernel
theorem i_104_38 : aIns 104 38 = some (.aload_n 1, 1, 0, 0, .null) := by decide +kernel
theorem i_104_39 : aIns 104 39 = some (.invokevirtual 87, 3, 98, 1, .int 10) := by decide +kernel
theorem i_104_42 : aIns 104 42 = some (.aload_n 0, 1, 0, 0, .null) := by decide +kernel
theorem i_104_43 : aIns 104 43 = some (.getfield 60, 3, 11, 6, .null) := by decide +kernel
theorem i_104_46 : aIns 104 46 = some (.invokevirtual 91, 3, 10, 0, .int 1) := by decide +kernel
theorem i_104_49 : aIns 104 49 = some (.aload_n 1, 1, 0, 0, .null) := by decide +kernel
theorem i_104_50 : aIns 104 50 = some (.getfield 94, 3, 5, 4, .null) := by decide +kernel
theorem i_104_53 : aIns 104 53 = some (.ireturn, 1, 0, 0, .null) := by decide +kernel
theorem i_105_0 : aIns 105 0 = some (.aload_n 0, 1, 0, 0, .null) := by decide +kernel
theorem i_105_1 : aIns 105 1 = some (.getfield 44, 3, 11, 4, .null) := by decide +kernel
theorem i_105_4 : aIns 105 4 = some (.getfield 97, 3, 9, 2, .null) := by decide +kernel
theorem i_105_7 : aIns 105 7 = some (.bipush 6, 2, 0, 0, .int (6)) := by decide +kernel
theorem i_105_9 : aIns 105 9 = some (.if_icmp .lt 5, 3, 0, 0, .null) := by decide +kernel
theorem i_105_12 : aIns 105 12 = some (.iconst (-1), 1, 0, 0, .int (-1)) := by decide +kernel
theorem i_105_13 : aIns 105 13 = some (.ireturn, 1, 0, 0, .null) := by decide +kernel
theorem i_105_14 : aIns 105 14 = some (.aload_n 0, 1, 0, 0, .null) := by decide +kernel
theorem i_105_15 : aIns 105 15 = some (.getfield 28, 3, 11, 2, .null) := by decide +kernel
theorem i_105_18 : aIns 105 18 = some (.aload_n 0, 1, 0, 0, .null) := by decide +kernel
theorem i_105_19 : aIns 105 19 = some (.getfield 44, 3, 11, 4, .null) := by decide +kernel
theorem i_105_22 : aIns 105 22 = some (.getfield 100, 3, 9, 1, .null) := by decide +kernel
theorem i_105_25 : aIns 105 25 = some (.aload_n 0, 1, 0, 0, .null) := by decide +kernel
theorem i_105_26 : aIns 105 26 = some (.getfield 44, 3, 11, 4, .null) := by decide +kernel
theorem i_105_29 : aIns 105 29 = some (.getfield 97, 3, 9, 2, .null) := by decide +kernel
theorem i_105_32 : aIns 105 32 = some (.aaload, 1, 0, 0, .null) := by decide +kernel
theorem i_105_33 : aIns 105 33 = some (.invokevirtual 104, 3, 45, 1, .int 4) := by decide +kernel
theorem i_105_36 : aIns 105 36 = some (.istore_n 1, 1, 0, 0, .null) := by decide +kernel
theorem i_105_37 : aIns 105 37 = some (.aload_n 0, 1, 0, 0, .null) := by decide +kernel
theorem i_105_38 : aIns 105 38 = some (.getfield 10, 3, 11, 0, .null) := by decide +kernel
theorem i_105_41 : aIns 105 41 = some (.iconst 0, 1, 0, 0, .int (0)) := by decide +kernel
theorem i_105_42 : aIns 105 42 = some (.putfield 72, 3, 8, 1, .null) := by decide +kernel
theorem i_105_45 : aIns 105 45 = some (.iload_n 1, 1, 0, 0, .null) := by decide +kernel
theorem i_105_46 : aIns 105 46 = some (.ifCond .eq 8, 3, 0, 0, .null) := by decide +kernel
theorem i_105_49 : aIns 105 49 = some (.bipush (-2), 2, 0, 0, .int (-2)) := by decide +kernel
theorem i_105_51 : aIns 105 51 = some (.iload_n 1, 1, 0, 0, .null) := by decide +kernel
theorem i_105_52 : aIns 105 52 = some (.isub, 1, 0, 0, .null) := by decide +kernel
theorem i_105_53 : aIns 105 53 = some (.ireturn, 1, 0, 0, .null) := by decide +kernel
theorem i_105_54 : aIns 105 54 = some (.aload_n 0, 1, 0, 0, .null) := by decide +kernel
theorem i_105_55 : aIns 105 55 = some (.getfield 44, 3, 11, 4, .null) := by decide +kernel
theorem i_105_58 : aIns 105 58 = some (.dup, 1, 0, 0, .null) := by decide +kernel
theorem i_105_59 : aIns 105 59 = some (.getfield 97, 3, 9, 2, .null) := by decide +kernel
theorem i_105_62 : aIns 105 62 = some (.iconst 1, 1, 0, 0, .int (1)) := by decide +kernel
theorem i_105_63 : aIns 105 63 = some (.iadd, 1, 0, 0, .null) := by decide +kernel
theorem i_105_64 : aIns 105 64 = some (.putfield 97, 3, 9, 2, .null) := by decide +kernel
theorem i_105_67 : aIns 105 67 = some (.aload_n 0, 1, 0, 0, .null) := by decide +kernel
theorem i_105_68 : aIns 105 68 = some (.getfield 44, 3, 11, 4, .null) := by decide +kernel
theorem i_105_71 : aIns 105 71 = some (.getfield 97, 3, 9, 2, .null) := by decide +kernel
theorem i_105_74 : aIns 105 74 = some (.iconst 1, 1, 0, 0, .int (1)) := by decide +kernel
theorem i_105_75 : aIns 105 75 = some (.isub, 1, 0, 0, .null) := by decide +kernel
theorem i_105_76 : aIns 105 76 = some (.ireturn, 1, 0, 0, .null) := by decide +kernel
theorem i_106_0 : aIns 106 0 = some (.iload_n 1, 1, 0, 0, .null) := by decide +kernel
theorem i_106_1 : aIns 106 1 = some (.iconst (-1), 1, 0, 0, .int (-1)) := by decide +kernel
theorem i_106_2 : aIns 106 2 = some (.if_icmp .lt 14, 3, 0, 0, .null) := by decide +kernel
theorem i_106_5 : aIns 106 5 = some (.iload_n 1, 1, 0, 0, .null) := by decide +kernel
theorem i_106_6 : aIns 106 6 = some (.aload_n 0, 1, 0, 0, .null) := by decide +kernel
theorem i_106_7 : aIns 106 7 = some (.getfield 44, 3, 11, 4, .null) := by decide +kernel
theorem i_106_10 : aIns 106 10 = some (.getfield 97, 3, 9, 2, .null) := by decide +kernel
theorem i_106_13 : aIns 106 13 = some (.if_icmp .lt 6, 3, 0, 0, .null) := by decide +kernel
theorem i_106_16 : aIns 106 16 = some (.bipush (-2), 2, 0, 0, .int (-2)) := by decide +kernel
theorem i_106_18 : aIns 106 18 = some (.ireturn, 1, 0, 0, .null) := by decide +kernel
theorem i_106_19 : aIns 106 19 = some (.aload_n 0, 1, 0, 0, .null) := by decide +kernel
theorem i_106_20 : aIns 106 20 = some (.getfield 35, 3, 11, 3, .null) := by decide +kernel
theorem i_106_23 : aIns 106 23 = some (.getfield 107, 3, 10, 2, .null) := by decide +kernel
theorem i_106_26 : aIns 106 26 = some (.istore_n 2, 1, 0, 0, .null) := by decide +kernel
theorem i_106_27 : aIns 106 27 = some (.aload_n 0, 1, 0, 0, .null) := by decide +kernel
theorem i_106_28 : aIns 106 28 = some (.getfield 35, 3, 11, 3, .null) := by decide +kernel
theorem i_106_31 : aIns 106 31 = some (.iload_n 1, 1, 0, 0, .null) := by decide +kernel
theorem i_106_32 : aIns 106 32 = some (.putfield 107, 3, 10, 2, .null) := by decide +kernel
theorem i_106_35 : aIns 106 35 = some (.iload_n 2, 1, 0, 0, .null) := by decide +kernel
theorem i_106_36 : aIns 106 36 = some (.ireturn, 1, 0, 0, .null) := by decide +kernel
theorem i_107_0 : aIns 107 0 = some (.aload_n 0, 1, 0, 0, .null) := by decide +kernel
theorem i_107_1 : aIns 107 1 = some (.getfield 35, 3, 11, 3, .null) := by decide +kernel
theorem i_107_4 : aIns 107 4 = some (.getfield 110, 3, 10, 0, .null) := by decide +kernel
theorem i_107_7 : aIns 107 7 = some (.iload_n 1, 1, 0, 0, .null) := by decide +kernel
theorem i_107_8 : aIns 107 8 = some (.invokevirtual 114, 3, 55, 1, .int 5) := by decide +kernel
theorem i_107_11 : aIns 107 11 = some (.ifCond .ne 5, 3, 0, 0, .null) := by decide +kernel
theorem i_107_14 : aIns 107 14 = some (.iconst (-1), 1, 0, 0, .int (-1)) := by decide +kernel
theorem i_107_15 : aIns 107 15 = some (.ireturn, 1, 0, 0, .null) := by decide +kernel
theorem i_107_16 : aIns 107 16 = some (.aload_n 0, 1, 0, 0, .null) := by decide +kernel
theorem i_107_17 : aIns 107 17 = some (.getfield 35, 3, 11, 3, .null) := by decide +kernel
theorem i_107_20 : aIns 107 20 = some (.getfield 118, 3, 10, 1, .null) := by decide +kernel
theorem i_107_23 : aIns 107 23 = some (.astore_n 3, 1, 0, 0, .null) := by decide +kernel
theorem i_107_24 : aIns 107 24 = some (.iload_n 2, 1, 0, 0, .null) := by decide +kernel
theorem i_107_25 : aIns 107 25 = some (.tableswitch 117 0 7 #[47, 56, 63, 70, 77, 84, 91, 104], 47, 0, 0, .null) := by decide +kernel
theorem i_107_72 : aIns 107 72 = some (.aload_n 0, 1, 0, 0, .null) := by decide +kernel
theorem i_107_73 : aIns 107 73 = some (.getfield 44, 3, 11, 4, .null) := by decide +kernel
theorem i_107_76 : aIns 107 76 = some (.iload_n 1, 1, 0, 0, .null) := by decide +kernel
theorem i_107_77 : aIns 107 77 = some (.invokevirtual 122, 3, 91, 1, .int 9) := by decide +kernel
theorem i_107_80 : aIns 107 80 = some (.ireturn, 1, 0, 0, .null) := by decide +kernel
theorem i_107_81 : aIns 107 81 = some (.aload_n 3, 1, 0, 0, .null) := by decide +kernel
theorem i_107_82 : aIns 107 82 = some (.getfield 126, 3, 7, 1, .null) := by decide +kernel
theorem i_107_85 : aIns 107 85 = some (.iload_n 1, 1, 0, 0, .null) := by decide +kernel
theorem i_107_86 : aIns 107 86 = some (.iaload, 1, 0, 0, .null) := by decide +kernel
theorem i_107_87 : aIns 107 87 = some (.ireturn, 1, 0, 0, .null) := by decide +kernel
theorem i_107_88 : aIns 107 88 = some (.aload_n 3, 1, 0, 0, .null) := by decide +kernel
theorem i_107_89 : aIns 107 89 = some (.getfield 132, 3, 7, 0, .null) := by decide +kernel
theorem i_107_92 : aIns 107 92 = some (.iload_n 1, 1, 0, 0, .null) := by decide +kernel
theorem i_107_93 : aIns 107 93 = some (.iaload, 1, 0, 0, .null) := by decide +kernel
theorem i_107_94 : aIns 107 94 = some (.ireturn, 1, 0, 0, .null) := by decide +kernel
theorem i_107_95 : aIns 107 95 = some (.aload_n 3, 1, 0, 0, .null) := by decide +kernel
theorem i_107_96 : aIns 107 96 = some (.getfield 135, 3, 7, 2, .null) := by decide +kernel
theorem i_107_99 : aIns 107 99 = some (.iload_n 1, 1, 0, 0, .null) := by decide +kernel
theorem i_107_100 : aIns 107 100 = some (.iaload, 1, 0, 0, .null) := by decide +kernel
theorem i_107_101 : aIns 107 101 = some (.ireturn, 1, 0, 0, .null) := by decide +kernel
theorem i_107_102 : aIns 107 102 = some (.aload_n 3, 1, 0, 0, .null) := by decide +kernel
theorem i_107_103 : aIns 107 103 = some (.getfield 138, 3, 7, 3, .null) := by decide +kernel
theorem i_107_106 : aIns 107 106 = some (.iload_n 1, 1, 0, 0, .null) := by decide +kernel
theorem i_107_107 : aIns 107 107 = some (.iaload, 1, 0, 0, .null) := by decide +kernel
theorem i_107_108 : aIns 107 108 = some (.ireturn, 1, 0, 0, .null) := by decide +kernel
theorem i_107_109 : aIns 107 109 = some (.aload_n 3, 1, 0, 0, .null) := by decide +kernel
theorem i_107_110 : aIns 107 110 = some (.getfield 141, 3, 7, 4, .null) := by decide +kernel
theorem i_107_113 : aIns 107 113 = some (.iload_n 1, 1, 0, 0, .null) := by decide +kernel
theorem i_107_114 : aIns 107 114 = some (.iaload, 1, 0, 0, .null) := by decide +kernel
theorem i_107_115 : aIns 107 115 = some (.ireturn, 1, 0, 0, .null) := by decide +kernel
theorem i_107_116 : aIns 107 116 = some (.aload_n 0, 1, 0, 0, .null) := by decide +kernel
theorem i_107_117 : aIns 107 117 = some (.getfield 35, 3, 11, 3, .null) := by decide +kernel
theorem i_107_120 : aIns 107 120 = some (.getfield 110, 3, 10, 0, .null) := by decide +kernel
theorem i_107_123 : aIns 107 123 = some (.getfield 144, 3, 5, 5, .null) := by decide +kernel
theorem i_107_126 : aIns 107 126 = some (.iload_n 1, 1, 0, 0, .null) := by decide +kernel
theorem i_107_127 : aIns 107 127 = some (.iaload, 1, 0, 0, .null) := by decide +kernel
theorem i_107_128 : aIns 107 128 = some (.ireturn, 1, 0, 0, .null) := by decide +kernel
theorem i_107_129 : aIns 107 129 = some (.aload_n 0, 1, 0, 0, .null) := by decide +kernel
theorem i_107_130 : aIns 107 130 = some (.getfield 35, 3, 11, 3, .null) := by decide +kernel
theorem i_107_133 : aIns 107 133 = some (.getfield 110, 3, 10, 0, .null) := by decide +kernel
theorem i_107_136 : aIns 107 136 = some (.getfield 147, 3, 5, 6, .null) := by decide +kernel
theorem i_107_139 : aIns 107 139 = some (.iload_n 1, 1, 0, 0, .null) := by decide +kernel
theorem i_107_140 : aIns 107 140 = some (.iaload, 1, 0, 0, .null) := by decide +kernel
theorem i_107_141 : aIns 107 141 = some (.ireturn, 1, 0, 0, .null) := by decide +kernel
theorem i_107_142 : aIns 107 142 = some (.iconst (-1), 1, 0, 0, .int (-1)) := by decide +kernel
theorem i_107_143 : aIns 107 143 = some (.ireturn, 1, 0, 0, .null) := by decide +kernel
theorem i_108_0 : aIns 108 0 = some (.aload_n 0, 1, 0, 0, .null) := by decide +kernel
theorem i_108_1 : aIns 108 1 = some (.getfield 35, 3, 11, 3, .null) := by decide +kernel
theorem i_108_4 : aIns 108 4 = some (.getfield 110, 3, 10, 0, .null) := by decide +kernel
theorem i_108_7 : aIns 108 7 = some (.astore_n 3, 1, 0, 0, .null) := by decide +kernel
theorem i_108_8 : aIns 108 8 = some (.aload_n 3, 1, 0, 0, .null) := by decide +kernel
theorem i_108_9 : aIns 108 9 = some (.iload_n 1, 1, 0, 0, .null) := by decide +kernel
theorem i_108_10 : aIns 108 10 = some (.invokevirtual 150, 3, 56, 1, .int 5) := by decide +kernel
theorem i_108_13 : aIns 108 13 = some (.ifCond .ne 6, 3, 0, 0, .null) := by decide +kernel
theorem i_108_16 : aIns 108 16 = some (.bipush (-2), 2, 0, 0, .int (-2)) := by decide +kernel
theorem i_108_18 : aIns 108 18 = some (.ireturn, 1, 0, 0, .null) := by decide +kernel
theorem i_108_19 : aIns 108 19 = some (.iload_n 2, 1, 0, 0, .null) := by decide +kernel
theorem i_108_20 : aIns 108 20 = some (.tableswitch 103 0 5 #[40, 50, 57, 64, 76, 96], 40, 0, 0, .null) := by decide +kernel
theorem i_108_60 : aIns 108 60 = some (.aload_n 3, 1, 0, 0, .null) := by decide +kernel
theorem i_108_61 : aIns 108 61 = some (.getfield 153, 3, 5, 16, .null) := by decide +kernel
theorem i_108_64 : aIns 108 64 = some (.iload_n 1, 1, 0, 0, .null) := by decide +kernel
theorem i_108_65 : aIns 108 65 = some (.iaload, 1, 0, 0, .null) := by decide +kernel
theorem i_108_66 : aIns 108 66 = some (.bipush 10, 2, 0, 0, .int (10)) := by decide +kernel
theorem i_108_68 : aIns 108 68 = some (.isub, 1, 0, 0, .null) := by decide +kernel
theorem i_108_69 : aIns 108 69 = some (.ireturn, 1, 0, 0, .null) := by decide +kernel
theorem i_108_70 : aIns 108 70 = some (.aload_n 3, 1, 0, 0, .null) := by decide +kernel
theorem i_108_71 : aIns 108 71 = some (.getfield 156, 3, 5, 17, .null) := by decide +kernel
theorem i_108_74 : aIns 108 74 = some (.iload_n 1, 1, 0, 0, .null) := by decide +kernel
theorem i_108_75 : aIns 108 75 = some (.iaload, 1, 0, 0, .null) := by decide +kernel
theorem i_108_76 : aIns 108 76 = some (.ireturn, 1, 0, 0, .null) := by decide +kernel
theorem i_108_77 : aIns 108 77 = some (.aload_n 3, 1, 0, 0, .null) := by decide +kernel
theorem i_108_78 : aIns 108 78 = some (.getfield 159, 3, 5, 18, .null) := by decide +kernel
theorem i_108_81 : aIns 108 81 = some (.iload_n 1, 1, 0, 0, .null) := by decide +kernel
theorem i_108_82 : aIns 108 82 = some (.iaload, 1, 0, 0, .null) := by decide +kernel
theorem i_108_83 : aIns 108 83 = some (.ireturn, 1, 0, 0, .null) := by decide +kernel
theorem i_108_84 : aIns 108 84 = some (.aload_n 0, 1, 0, 0, .null) := by decide +kernel
theorem i_108_85 : aIns 108 85 = some (.getfield 35, 3, 11, 3, .null) := by decide +kernel
theorem i_108_88 : aIns 108 88 = some (.getfield 118, 3, 10, 1, .null) := by decide +kernel
theorem i_108_91 : aIns 108 91 = some (.iload_n 1, 1, 0, 0, .null) := by decide +kernel
theorem i_108_92 : aIns 108 92 = some (.invokevirtual 162, 3, 76, 1, .int 7) := by decide +kernel
theorem i_108_95 : aIns 108 95 = some (.ireturn, 1, 0, 0, .null) := by decide +kernel
theorem i_108_96 : aIns 108 96 = some (.aload_n 0, 1, 0, 0, .null) := by decide +kernel
theorem i_108_97 : aIns 108 97 = some (.getfield 35, 3, 11, 3, .null) := by decide +kernel
theorem i_108_100 : aIns 108 100 = some (.getfield 118, 3, 10, 1, .null) := by decide +kernel
theorem i_108_103 : aIns 108 103 = some (.iload_n 1, 1, 0, 0, .null) := by decide +kernel
theorem i_108_104 : aIns 108 104 = some (.invokevirtual 165, 3, 77, 1, .int 7) := by decide +kernel
theorem i_108_107 : aIns 108 107 = some (.ifCond .eq 7, 3, 0, 0, .null) := by decide +kernel
theorem i_108_110 : aIns 108 110 = some (.iconst 1, 1, 0, 0, .int (1)) := by decide +kernel
theorem i_108_111 : aIns 108 111 = some (.goto 4, 3, 0, 0, .null) := by decide +kernel
theorem i_108_114 : aIns 108 114 = some (.iconst 0, 1, 0, 0, .int (0)) := by decide +kernel
theorem i_108_115 : aIns 108 115 = some (.ireturn, 1, 0, 0, .null) := by decide +kernel
theorem i_108_116 : aIns 108 116 = some (.aload_n 3, 1, 0, 0, .null) := by decide +kernel
theorem i_108_117 : aIns 108 117 = some (.getfield 168, 3, 5, 19, .null) := by decide +kernel
theorem i_108_120 : aIns 108 120 = some (.iload_n 1, 1, 0, 0, .null) := by decide +kernel
theorem i_108_121 : aIns 108 121 = some (.iaload, 1, 0, 0, .null) := by decide +kernel
theorem i_108_122 : aIns 108 122 = some (.ireturn, 1, 0, 0, .null) := by decide +kernel
theorem i_108_123 : aIns 108 123 = some (.bipush (-2), 2, 0, 0, .int (-2)) := by decide +kernel
theorem i_108_125 : aIns 108 125 = some (.ireturn, 1, 0, 0, .null) := by decide +kernel
theorem i_109_0 : aIns 109 0 = some (.iload_n 1, 1, 0, 0, .null) := by decide +kernel
theorem i_109_1 : aIns 109 1 = some (.ifCond .lt 26, 3, 0, 0, .null) := by decide +kernel
theorem i_109_4 : aIns 109 4 = some (.iload_n 1, 1, 0, 0, .null) := by decide +kernel
theorem i_109_5 : aIns 109 5 = some (.aload_n 0, 1, 0, 0, .null) := by decide +kernel
theorem i_109_6 : aIns 109 6 = some (.getfield 35, 3, 11, 3, .null) := by decide +kernel
theorem i_109_9 : aIns 109 9 = some (.getfield 110, 3, 10, 0, .null) := by decide +kernel
theorem i_109_12 : aIns 109 12 = some (.getfield 171, 3, 5, 8, .null) := by decide +kernel
theorem i_109_15 : aIns 109 15 = some (.if_icmp .ge 12, 3, 0, 0, .null) := by decide +kernel
theorem i_109_18 : aIns 109 18 = some (.iload_n 2, 1, 0, 0, .null) := by decide +kernel
theorem i_109_19 : aIns 109 19 = some (.ifCond .lt 8, 3, 0, 0, .null) := by decide +kernel
theorem i_109_22 : aIns 109 22 = some (.iload_n 2, 1, 0, 0, .null) := by decide +kernel
theorem i_109_23 : aIns 109 23 = some (.iconst 1, 1, 0, 0, .int (1)) := by decide +kernel
theorem i_109_24 : aIns 109 24 = some (.if_icmp .le 5, 3, 0, 0, .null) := by decide +kernel
theorem i_109_27 : aIns 109 27 = some (.iconst (-1), 1, 0, 0, .int (-1)) := by decide +kernel
theorem i_109_28 : aIns 109 28 = some (.ireturn, 1, 0, 0, .null) := by decide +kernel
theorem i_109_29 : aIns 109 29 = some (.iload_n 2, 1, 0, 0, .null) := by decide +kernel
theorem i_109_30 : aIns 109 30 = some (.ifCond .ne 18, 3, 0, 0, .null) := by decide +kernel
theorem i_109_33 : aIns 109 33 = some (.aload_n 0, 1, 0, 0, .null) := by decide +kernel
theorem i_109_34 : aIns 109 34 = some (.getfield 35, 3, 11, 3, .null) := by decide +kernel
theorem i_109_37 : aIns 109 37 = some (.getfield 110, 3, 10, 0, .null) := by decide +kernel
theorem i_109_40 : aIns 109 40 = some (.getfield 174, 3, 5, 9, .null) := by decide +kernel
theorem i_109_43 : aIns 109 43 = some (.iload_n 1, 1, 0, 0, .null) := by decide +kernel
theorem i_109_44 : aIns 109 44 = some (.iaload, 1, 0, 0, .null) := by decide +kernel
theorem i_109_45 : aIns 109 45 = some (.goto 15, 3, 0, 0, .null) := by decide +kernel
theorem i_109_48 : aIns 109 48 = some (.aload_n 0, 1, 0, 0, .null) := by decide +kernel
theorem i_109_49 : aIns 109 49 = some (.getfield 35, 3, 11, 3, .null) := by decide +kernel
theorem i_109_52 : aIns 109 52 = some (.getfield 110, 3, 10, 0, .null) := by decide +kernel
theorem i_109_55 : aIns 109 55 = some (.getfield 177, 3, 5, 10, .null) := by decide +kernel
theorem i_109_58 : aIns 109 58 = some (.iload_n 1, 1, 0, 0, .null) := by decide +kernel
theorem i_109_59 : aIns 109 59 = some (.iaload, 1, 0, 0, .null) := by decide +kernel
theorem i_109_60 : aIns 109 60 = some (.ireturn, 1, 0, 0, .null) := by decide +kernel
theorem i_110_0 : aIns 110 0 = some (.aload_n 0, 1, 0, 0, .null) := by decide +kernel
theorem i_110_1 : aIns 110 1 = some (.getfield 35, 3, 11, 3, .null) := by decide +kernel
theorem i_110_4 : aIns 110 4 = some (.getfield 110, 3, 10, 0, .null) := by decide +kernel
theorem i_110_7 : aIns 110 7 = some (.iload_n 1, 1, 0, 0, .null) := by decide +kernel
theorem i_110_8 : aIns 110 8 = some (.invokevirtual 114, 3, 55, 1, .int 5) := by decide +kernel
theorem i_110_11 : aIns 110 11 = some (.ifCond .eq 24, 3, 0, 0, .null) := by decide +kernel
theorem i_110_14 : aIns 110 14 = some (.iload_n 2, 1, 0, 0, .null) := by decide +kernel
theorem i_110_15 : aIns 110 15 = some (.iconst 0, 1, 0, 0, .int (0)) := by decide +kernel
theorem i_110_16 : aIns 110 16 = some (.sipush 999, 3, 0, 0, .int (999)) := by decide +kernel
theorem i_110_19 : aIns 110 19 = some (.invokestatic 180, 3, 138, 3, .null) := by decide +kernel
theorem i_110_22 : aIns 110 22 = some (.ifCond .eq 13, 3, 0, 0, .null) := by decide +kernel
theorem i_110_25 : aIns 110 25 = some (.iload_n 3, 1, 0, 0, .null) := by decide +kernel
theorem i_110_26 : aIns 110 26 = some (.iconst 0, 1, 0, 0, .int (0)) := by decide +kernel
theorem i_110_27 : aIns 110 27 = some (.bipush 99, 2, 0, 0, .int (99)) := by decide +kernel
theorem i_110_29 : aIns 110 29 = some (.invokestatic 180, 3, 138, 3, .null) := by decide +kernel
theorem i_110_32 : aIns 110 32 = some (.ifCond .ne 5, 3, 0, 0, .null) := by decide +kernel
theorem i_110_35 : aIns 110 35 = some (.iconst (-1), 1, 0, 0, .int (-1)) := by decide +kernel
theorem i_110_36 : aIns 110 36 = some (.ireturn, 1, 0, 0, .null) := by decide +kernel
theorem i_110_37 : aIns 110 37 = some (.aload_n 0, 1, 0, 0, .null) := by decide +kernel
theorem i_110_38 : aIns 110 38 = some (.getfield 44, 3, 11, 4, .null) := by decide +kernel
theorem i_110_41 : aIns 110 41 = some (.aload_n 0, 1, 0, 0, .null) := by decide +kernel
theorem i_110_42 : aIns 110 42 = some (.getfield 35, 3, 11, 3, .null) := by decide +kernel
theorem i_110_45 : aIns 110 45 = some (.getfield 118, 3, 10, 1, .null) := by decide +kernel
theorem i_110_48 : aIns 110 48 = some (.aload_n 0, 1, 0, 0, .null) := by decide +kernel
theorem i_110_49 : aIns 110 49 = some (.getfield 35, 3, 11, 3, .null) := by decide +kernel
theorem i_110_52 : aIns 110 52 = some (.getfield 107, 3, 10, 2, .null) := by decide +kernel
theorem i_110_55 : aIns 110 55 = some (.iload_n 1, 1, 0, 0, .null) := by decide +kernel
theorem i_110_56 : aIns 110 56 = some (.iload_n 2, 1, 0, 0, .null) := by decide +kernel
theorem i_110_57 : aIns 110 57 = some (.iload_n 3, 1, 0, 0, .null) := by decide +kernel
theorem i_110_58 : aIns 110 58 = some (.invokevirtual 184, 3, 89, 5, .int 9) := by decide +kernel
theorem i_110_61 : aIns 110 61 = some (.ireturn, 1, 0, 0, .null) := by decide +kernel
theorem i_111_0 : aIns 111 0 = some (.aload_n 0, 1, 0, 0, .null) := by decide +kernel
theorem i_111_1 : aIns 111 1 = some (.getfield 35, 3, 11, 3, .null) := by decide +kernel
theorem i_111_4 : aIns 111 4 = some (.getfield 110, 3, 10, 0, .null) := by decide +kernel
theorem i_111_7 : aIns 111 7 = some (.getfield 188, 3, 5, 0, .null) := by decide +kernel
theorem i_111_10 : aIns 111 10 = some (.ifCond .eq 12, 3, 0, 0, .null) := by decide +kernel
theorem i_111_13 : aIns 111 13 = some (.iload_n 1, 1, 0, 0, .null) := by decide +kernel
theorem i_111_14 : aIns 111 14 = some (.ifCond .lt 8, 3, 0, 0, .null) := by decide +kernel
theorem i_111_17 : aIns 111 17 = some (.iload_n 1, 1, 0, 0, .null) := by decide +kernel
theorem i_111_18 : aIns 111 18 = some (.iconst 1, 1, 0, 0, .int (1)) := by decide +kernel
theorem i_111_19 : aIns 111 19 = some (.if_icmp .le 5, 3, 0, 0, .null) := by decide +kernel
theorem i_111_22 : aIns 111 22 = some (.iconst (-1), 1, 0, 0, .int (-1)) := by decide +kernel
theorem i_111_23 : aIns 111 23 = some (.ireturn, 1, 0, 0, .null) := by decide +kernel
theorem i_111_24 : aIns 111 24 = some (.aload_n 0, 1, 0, 0, .null) := by decide +kernel
theorem i_111_25 : aIns 111 25 = some (.getfield 44, 3, 11, 4, .null) := by decide +kernel
theorem i_111_28 : aIns 111 28 = some (.invokevirtual 191, 3, 93, 0, .int 9) := by decide +kernel
theorem i_111_31 : aIns 111 31 = some (.istore_n 2, 1, 0, 0, .null) := by decide +kernel
theorem i_111_32 : aIns 111 32 = some (.iload_n 1, 1, 0, 0, .null) := by decide +kernel
theorem i_111_33 : aIns 111 33 = some (.ifCond .ne 7, 3, 0, 0, .null) := by decide +kernel
theorem i_111_36 : aIns 111 36 = some (.iload_n 2, 1, 0, 0, .null) := by decide +kernel
theorem i_111_37 : aIns 111 37 = some (.goto 10, 3, 0, 0, .null) := by decide +kernel
theorem i_111_40 : aIns 111 40 = some (.aload_n 0, 1, 0, 0, .null) := by decide +kernel
theorem i_111_41 : aIns 111 41 = some (.getfield 44, 3, 11, 4, .null) := by decide +kernel
theorem i_111_44 : aIns 111 44 = some (.getfield 195, 3, 9, 4, .null) := by decide +kernel
theorem i_111_47 : aIns 111 47 = some (.ireturn, 1, 0, 0, .null) := by decide +kernel
theorem i_112_0 : aIns 112 0 = some (.aload_n 0, 1, 0, 0, .null) := by decide +kernel
theorem i_112_1 : aIns 112 1 = some (.getfield 35, 3, 11, 3, .null) := by decide +kernel
theorem i_112_4 : aIns 112 4 = some (.getfield 118, 3, 10, 1, .null) := by decide +kernel
theorem i_112_7 : aIns 112 7 = some (.astore_n 2, 1, 0, 0, .null) := by decide +kernel
theorem i_112_8 : aIns 112 8 = some (.aload_n 0, 1, 0, 0, .null) := by decide +kernel
theorem i_112_9 : aIns 112 9 = some (.getfield 35, 3, 11, 3, .null) := by decide +kernel
theorem i_112_12 : aIns 112 12 = some (.getfield 110, 3, 10, 0, .null) := by decide +kernel
theorem i_112_15 : aIns 112 15 = some (.iload_n 1, 1, 0, 0, .null) := by decide +kernel
theorem i_112_16 : aIns 112 16 = some (.invokevirtual 114, 3, 55, 1, .int 5) := by decide +kernel
theorem i_112_19 : aIns 112 19 = some (.ifCond .eq 11, 3, 0, 0, .null) := by decide +kernel
theorem i_112_22 : aIns 112 22 = some (.aload_n 2, 1, 0, 0, .null) := by decide +kernel
theorem i_112_23 : aIns 112 23 = some (.iload_n 1, 1, 0, 0, .null) := by decide +kernel
theorem i_112_24 : aIns 112 24 = some (.invokevirtual 198, 3, 74, 1, .int 7) := by decide +kernel
theorem i_112_27 : aIns 112 27 = some (.ifCond .ne 5, 3, 0, 0, .null) := by decide +kernel
theorem i_112_30 : aIns 112 30 = some (.iconst (-1), 1, 0, 0, .int (-1)) := by decide +kernel
theorem i_112_31 : aIns 112 31 = some (.ireturn, 1, 0, 0, .null) := by decide +kernel
theorem i_112_32 : aIns 112 32 = some (.aload_n 0, 1, 0, 0, .null) := by decide +kernel
theorem i_112_33 : aIns 112 33 = some (.getfield 60, 3, 11, 6, .null) := by decide +kernel
theorem i_112_36 : aIns 112 36 = some (.aload_n 2, 1, 0, 0, .null) := by decide +kernel
theorem i_112_37 : aIns 112 37 = some (.invokevirtual 201, 3, 8, 1, .int 1) := by decide +kernel
theorem i_112_40 : aIns 112 40 = some (.aload_n 2, 1, 0, 0, .null) := by decide +kernel
theorem i_112_41 : aIns 112 41 = some (.getfield 132, 3, 7, 0, .null) := by decide +kernel
theorem i_112_44 : aIns 112 44 = some (.iload_n 1, 1, 0, 0, .null) := by decide +kernel
theorem i_112_45 : aIns 112 45 = some (.dup2, 1, 0, 0, .null) := by decide +kernel
theorem i_112_46 : aIns 112 46 = some (.iaload, 1, 0, 0, .null) := by decide +kernel
theorem i_112_47 : aIns 112 47 = some (.iconst 1, 1, 0, 0, .int (1)) := by decide +kernel
theorem i_112_48 : aIns 112 48 = some (.iadd, 1, 0, 0, .null) := by decide +kernel
theorem i_112_49 : aIns 112 49 = some (.iastore, 1, 0, 0, .null) := by decide +kernel
theorem i_112_50 : aIns 112 50 = some (.aload_n 2, 1, 0, 0, .null) := by decide +kernel
theorem i_112_51 : aIns 112 51 = some (.getfield 132, 3, 7, 0, .null) := by decide +kernel
theorem i_112_54 : aIns 112 54 = some (.iload_n 1, 1, 0, 0, .null) := by decide +kernel
theorem i_112_55 : aIns 112 55 = some (.iaload, 1, 0, 0, .null) := by decide +kernel
theorem i_112_56 : aIns 112 56 = some (.ireturn, 1, 0, 0, .null) := by decide +kernel
theorem i_113_0 : aIns 113 0 = some (.aload_n 0, 1, 0, 0, .null) := by decide +kernel
theorem i_113_1 : aIns 113 1 = some (.getfield 35, 3, 11, 3, .null) := by decide +kernel
theorem i_113_4 : aIns 113 4 = some (.getfield 118, 3, 10, 1, .null) := by decide +kernel
theorem i_113_7 : aIns 113 7 = some (.astore_n 2, 1, 0, 0, .null) := by decide +kernel
theorem i_113_8 : aIns 113 8 = some (.aload_n 0, 1, 0, 0, .null) := by decide +kernel
theorem i_113_9 : aIns 113 9 = some (.getfield 35, 3, 11, 3, .null) := by decide +kernel
theorem i_113_12 : aIns 113 12 = some (.getfield 110, 3, 10, 0, .null) := by decide +kernel
theorem i_113_15 : aIns 113 15 = some (.iload_n 1, 1, 0, 0, .null) := by decide +kernel
theorem i_113_16 : aIns 113 16 = some (.invokevirtual 114, 3, 55, 1, .int 5) := by decide +kernel
theorem i_113_19 : aIns 113 19 = some (.ifCond .eq 13, 3, 0, 0, .null) := by decide +kernel
theorem i_113_22 : aIns 113 22 = some (.aload_n 2, 1, 0, 0, .null) := by decide +kernel
theorem i_113_23 : aIns 113 23 = some (.getfield 132, 3, 7, 0, .null) := by decide +kernel
theorem i_113_26 : aIns 113 26 = some (.iload_n 1, 1, 0, 0, .null) := by decide +kernel
theorem i_113_27 : aIns 113 27 = some (.iaload, 1, 0, 0, .null) := by decide +kernel
theorem i_113_28 : aIns 113 28 = some (.iconst 1, 1, 0, 0, .int (1)) := by decide +kernel
theorem i_113_29 : aIns 113 29 = some (.if_icmp .ge 5, 3, 0, 0, .null) := by decide +kernel
theorem i_113_32 : aIns 113 32 = some (.iconst (-1), 1, 0, 0, .int (-1)) := by decide +kernel
theorem i_113_33 : aIns 113 33 = some (.ireturn, 1, 0, 0, .null) := by decide +kernel
theorem i_113_34 : aIns 113 34 = some (.aload_n 0, 1, 0, 0, .null) := by decide +kernel
theorem i_113_35 : aIns 113 35 = some (.getfield 60, 3, 11, 6, .null) := by decide +kernel
theorem i_113_38 : aIns 113 38 = some (.aload_n 2, 1, 0, 0, .null) := by decide +kernel
theorem i_113_39 : aIns 113 39 = some (.invokevirtual 201, 3, 8, 1, .int 1) := by decide +kernel
theorem i_113_42 : aIns 113 42 = some (.aload_n 2, 1, 0, 0, .null) := by decide +kernel
theorem i_113_43 : aIns 113 43 = some (.getfield 132, 3, 7, 0, .null) := by decide +kernel
theorem i_113_46 : aIns 113 46 = some (.iload_n 1, 1, 0, 0, .null) := by decide +kernel
theorem i_113_47 : aIns 113 47 = some (.dup2, 1, 0, 0, .null) := by decide +kernel
theorem i_113_48 : aIns 113 48 = some (.iaload, 1, 0, 0, .null) := by decide +kernel
theorem i_113_49 : aIns 113 49 = some (.iconst 1, 1, 0, 0, .int (1)) := by decide +kernel
theorem i_113_50 : aIns 113 50 = some (.isub, 1, 0, 0, .null) := by decide +kernel
theorem i_113_51 : aIns 113 51 = some (.iastore, 1, 0, 0, .null) := by decide +kernel
theorem i_113_52 : aIns 113 52 = some (.aload_n 2, 1, 0, 0, .null) := by decide +kernel
theorem i_113_53 : aIns 113 53 = some (.getfield 132, 3, 7, 0, .null) := by decide +kernel
theorem i_113_56 : aIns 113 56 = some (.iload_n 1, 1, 0, 0, .null) := by decide +kernel
theorem i_113_57 : aIns 113 57 = some (.iaload, 1, 0, 0, .null) := by decide +kernel
theorem i_113_58 : aIns 113 58 = some (.ireturn, 1, 0, 0, .null) := by decide +kernel
set_option maxHeartbeats 4000000 in
set_option maxRecDepth 100000 in
theorem l_76_ok {X : aX} {S : rS} {g : Nat} {d : Nat} (hdp : 0 ≤ d) : ∀ n, (∀ (x1 : Int32) (x2 : Int32) (m : cM) (zz : Int32), l_76 g n 0 x1 x2 m = some zz → aWp X d 76 2 [some (.ref 19), some (.int x1), some (.int x2)] [] (hr m S) (fun w h' => w = some (.int zz) ∧ h' = hr m S)) := by
  intro n
  induction n with
  | zero => exact fun _ _ _ _ hd => by simp [l_76] at hd
  | succ n ih =>
    intro x1 x2 m zz hd
    unfold l_76 at hd
    rw [if_pos rfl] at hd
    refine wp_s 3 [some (.ref 19), some (.int x1), some (.int x2)] [.int x2] _ i_76_2 rfl ?_
    refine wp_s 4 [some (.ref 19), some (.int x1), some (.int x2)] [.ref 19, .int x2] _ i_76_3 rfl ?_
    refine hm_get (w := .int (m.1 19 8)) 7 rfl i_76_4 (cb rfl) kk_19 rfl ?_
    refine wp_cmp_ge 28 10 rfl rfl i_76_7 (fun c_1 => ?_) (fun c_1 => ?_)
    · rw [if_pos c_1] at hd
      refine wp_s 29 [some (.ref 19), some (.int x1), some (.int x2)] [.int (-1 : Int32)] _ i_76_28 rfl ?_
      obtain rfl := Option.some.inj hd
      exact wp_iret i_76_29 ⟨rfl, rfl⟩
    · rw [if_neg c_1] at hd
      refine wp_s 11 [some (.ref 19), some (.int x1), some (.int x2)] [.ref 19] _ i_76_10 rfl ?_
      refine hm_get (w := .ref 26) 14 rfl i_76_11 (cb rfl) kk_19 rfl ?_
      refine wp_s 15 [some (.ref 19), some (.int x1), some (.int x2)] [.int x2, .ref 26] _ i_76_14 rfl ?_
      obtain ⟨k_2, hd⟩ := dk_if hd
      refine hm_iald 16 rfl i_76_15 (cb rfl) kk_26 k_2 ?_
      refine wp_s 17 [some (.ref 19), some (.int x1), some (.int x2)] [.int x1, .int (m.1 26 x2.toNatClampNeg)] _ i_76_16 rfl ?_
      refine wp_cmp_ne 22 20 rfl rfl i_76_17 (fun c_3 => ?_) (fun c_3 => ?_)
      · rw [if_pos c_3] at hd
        refine wp_s 25 [some (.ref 19), some (.int x1), some (.int (x2 + (1 : Int32)))] [] _ i_76_22 rfl ?_
        refine wp_s 2 [some (.ref 19), some (.int x1), some (.int (x2 + (1 : Int32)))] [] _ i_76_25 rfl ?_
        exact aWp.forget (ih _ _ _ _ hd) (lvS (lvS (lvS lvE)))
      · rw [if_neg c_3] at hd
        refine wp_s 21 [some (.ref 19), some (.int x1), some (.int x2)] [.int x2] _ i_76_20 rfl ?_
        obtain rfl := Option.some.inj hd
        exact wp_iret i_76_21 ⟨rfl, rfl⟩
set_option maxHeartbeats 4000000 in
set_option maxRecDepth 100000 in
theorem d_76_ok {X : aX} {S : rS} {g : Nat} {x1 : Int32} {m : cM} {zz : Int32} {d : Nat} (hdp : 0 ≤ d) (hd : d_76 g x1 m = some zz) : aWp X d 76 0 (aEntL [.ref 19, .int x1] 3) [] (hr m S) (fun w h' => w = some (.int zz) ∧ h' = hr m S) := by
  unfold d_76 at hd
  refine wp_lv (l2 := [some (.ref 19), some (.int x1), none]) rfl ?_
  refine wp_s 1 [some (.ref 19), some (.int x1), none] [.int (0 : Int32)] _ i_76_0 rfl ?_
  refine wp_s 2 [some (.ref 19), some (.int x1), some (.int (0 : Int32))] [] _ i_76_1 rfl ?_
  exact aWp.forget ((l_76_ok hdp g) _ _ _ _ hd) (lvS (lvS (lvS lvE)))
set_option maxHeartbeats 4000000 in
set_option maxRecDepth 100000 in
theorem l_78_ok {X : aX} {S : rS} {g : Nat} {d : Nat} (hdp : 0 ≤ d) : ∀ n, (∀ (x1 : Int32) (x2 : Int32) (m : cM) (zz : cM), l_78 g n 0 x1 x2 m = some zz → aWp X d 78 54 [some (.ref 19), some (.int x1), some (.int x2)] [] (hr m S) (fun w h' => w = none ∧ h' = hr zz S)) := by
  intro n
  induction n with
  | zero => exact fun _ _ _ _ hd => by simp [l_78] at hd
  | succ n ih =>
    intro x1 x2 m zz hd
    unfold l_78 at hd
    rw [if_pos rfl] at hd
    refine wp_s 55 [some (.ref 19), some (.int x1), some (.int x2)] [.int x2] _ i_78_54 rfl ?_
    refine wp_s 56 [some (.ref 19), some (.int x1), some (.int x2)] [.ref 19, .int x2] _ i_78_55 rfl ?_
    refine hm_get (w := .int (m.1 19 8)) 59 rfl i_78_56 (cb rfl) kk_19 rfl ?_
    refine wp_cmp_ge 85 62 rfl rfl i_78_59 (fun c_1 => ?_) (fun c_1 => ?_)
    · rw [if_pos c_1] at hd
      refine wp_s 86 [some (.ref 19), some (.int x1), some (.int x2)] [.ref 19] _ i_78_85 rfl ?_
      refine wp_s 87 [some (.ref 19), some (.int x1), some (.int x2)] [.int (0 : Int32), .ref 19] _ i_78_86 rfl ?_
      obtain ⟨mm_2, q_3, hd⟩ := dk_bind hd
      refine hm_put 90 rfl i_78_87 (cb rfl) kk_19 (fun _ _ => rfl) (fun _ _ => Nat.le_of_ble_eq_true rfl) rfl ?_
      rw [Option.some.inj q_3]
      obtain rfl := Option.some.inj hd
      exact wp_ret i_78_90 rfl ⟨rfl, rfl⟩
    · rw [if_neg c_1] at hd
      refine wp_s 63 [some (.ref 19), some (.int x1), some (.int x2)] [.ref 19] _ i_78_62 rfl ?_
      refine wp_s 64 [some (.ref 19), some (.int x1), some (.int x2)] [.ref 19, .ref 19] _ i_78_63 rfl ?_
      refine hm_get (w := .int (m.1 19 10)) 67 rfl i_78_64 (cb rfl) kk_19 rfl ?_
      refine wp_s 68 [some (.ref 19), some (.int x1), some (.int x2)] [.int (1 : Int32), .int (m.1 19 10), .ref 19] _ i_78_67 rfl ?_
      refine wp_s 69 [some (.ref 19), some (.int x1), some (.int x2)] [.ref 19, .int (1 : Int32), .int (m.1 19 10), .ref 19] _ i_78_68 rfl ?_
      refine hm_get (w := .ref 26) 72 rfl i_78_69 (cb rfl) kk_19 rfl ?_
      refine wp_s 73 [some (.ref 19), some (.int x1), some (.int x2)] [.int x2, .ref 26, .int (1 : Int32), .int (m.1 19 10), .ref 19] _ i_78_72 rfl ?_
      obtain ⟨k_4, hd⟩ := dk_if hd
      refine hm_iald 74 rfl i_78_73 (cb rfl) kk_26 k_4 ?_
      refine wp_s 75 [some (.ref 19), some (.int x1), some (.int x2)] [.int ((1 : Int32) <<< ((m.1 26 x2.toNatClampNeg) &&& 31)), .int (m.1 19 10), .ref 19] _ i_78_74 rfl ?_
      refine wp_s 76 [some (.ref 19), some (.int x1), some (.int x2)] [.int ((m.1 19 10) ||| ((1 : Int32) <<< ((m.1 26 x2.toNatClampNeg) &&& 31))), .ref 19] _ i_78_75 rfl ?_
      obtain ⟨mm_5, q_6, hd⟩ := dk_bind hd
      refine hm_put 79 rfl i_78_76 (cb rfl) kk_19 (fun _ _ => rfl) (fun _ _ => Nat.le_of_ble_eq_true rfl) rfl ?_
      rw [Option.some.inj q_6]
      refine wp_s 82 [some (.ref 19), some (.int x1), some (.int (x2 + (1 : Int32)))] [] _ i_78_79 rfl ?_
      refine wp_s 54 [some (.ref 19), some (.int x1), some (.int (x2 + (1 : Int32)))] [] _ i_78_82 rfl ?_
      exact aWp.forget (ih _ _ _ _ hd) (lvS (lvS (lvS lvE)))
set_option maxHeartbeats 4000000 in
set_option maxRecDepth 100000 in
theorem d_78_ok {X : aX} {S : rS} {g : Nat} {x1 : Int32} {m : cM} {zz : cM} {d : Nat} (hdp : 0 ≤ d) (hd : d_78 g x1 m = some zz) : aWp X d 78 0 (aEntL [.ref 19, .int x1] 3) [] (hr m S) (fun w h' => w = none ∧ h' = hr zz S) := by
  unfold d_78 at hd
  refine wp_lv (l2 := [some (.ref 19), some (.int x1), none]) rfl ?_
  refine wp_s 1 [some (.ref 19), some (.int x1), none] [.ref 19] _ i_78_0 rfl ?_
  refine hm_get (w := .ref 20) 4 rfl i_78_1 (cb rfl) kk_19 rfl ?_
  refine wp_s 5 [some (.ref 19), some (.int x1), none] [.int (0 : Int32), .ref 20] _ i_78_4 rfl ?_
  refine wp_s 6 [some (.ref 19), some (.int x1), none] [.ref 19, .int (0 : Int32), .ref 20] _ i_78_5 rfl ?_
  refine hm_get (w := .ref 24) 9 rfl i_78_6 (cb rfl) kk_19 rfl ?_
  refine wp_s 10 [some (.ref 19), some (.int x1), none] [.int (0 : Int32), .ref 24, .int (0 : Int32), .ref 20] _ i_78_9 rfl ?_
  refine wp_s 12 [some (.ref 19), some (.int x1), none] [.int (8 : Int32), .int (0 : Int32), .ref 24, .int (0 : Int32), .ref 20] _ i_78_10 rfl ?_
  obtain ⟨mm_1001, q_1002, hd⟩ := dk_bind hd
  refine hm_copy 15 rfl i_78_12 rfl (cb rfl) kk_20 (cb rfl) kk_24 (by decide) (by decide) (by decide) (by decide) (by decide) ?_
  rw [Option.some.inj q_1002]
  refine wp_s 16 [some (.ref 19), some (.int x1), none] [.ref 19] _ i_78_15 rfl ?_
  refine hm_get (w := .ref 26) 19 rfl i_78_16 (cb rfl) kk_19 rfl ?_
  refine wp_s 20 [some (.ref 19), some (.int x1), none] [.int (0 : Int32), .ref 26] _ i_78_19 rfl ?_
  refine wp_s 21 [some (.ref 19), some (.int x1), none] [.ref 19, .int (0 : Int32), .ref 26] _ i_78_20 rfl ?_
  refine hm_get (w := .ref 27) 24 rfl i_78_21 (cb rfl) kk_19 rfl ?_
  refine wp_s 25 [some (.ref 19), some (.int x1), none] [.int (0 : Int32), .ref 27, .int (0 : Int32), .ref 26] _ i_78_24 rfl ?_
  refine wp_s 26 [some (.ref 19), some (.int x1), none] [.int (5 : Int32), .int (0 : Int32), .ref 27, .int (0 : Int32), .ref 26] _ i_78_25 rfl ?_
  obtain ⟨mm_1003, q_1004, hd⟩ := dk_bind hd
  refine hm_copy 29 rfl i_78_26 rfl (cb rfl) kk_26 (cb rfl) kk_27 (by decide) (by decide) (by decide) (by decide) (by decide) ?_
  rw [Option.some.inj q_1004]
  refine wp_s 30 [some (.ref 19), some (.int x1), none] [.ref 19] _ i_78_29 rfl ?_
  refine wp_s 31 [some (.ref 19), some (.int x1), none] [.ref 19, .ref 19] _ i_78_30 rfl ?_
  refine hm_get (w := .int (mm_1003.1 19 8)) 34 rfl i_78_31 (cb rfl) kk_19 rfl ?_
  obtain ⟨mm_1005, q_1006, hd⟩ := dk_bind hd
  refine hm_put 37 rfl i_78_34 (cb rfl) kk_19 (fun _ _ => rfl) (fun _ _ => Nat.le_of_ble_eq_true rfl) rfl ?_
  rw [Option.some.inj q_1006]
  refine wp_s 38 [some (.ref 19), some (.int x1), none] [.ref 19] _ i_78_37 rfl ?_
  refine wp_s 39 [some (.ref 19), some (.int x1), none] [.int x1, .ref 19] _ i_78_38 rfl ?_
  obtain ⟨mm_1007, q_1008, hd⟩ := dk_bind hd
  refine hm_put 42 rfl i_78_39 (cb rfl) kk_19 (fun _ _ => rfl) (fun _ _ => Nat.le_of_ble_eq_true rfl) rfl ?_
  rw [Option.some.inj q_1008]
  refine wp_s 43 [some (.ref 19), some (.int x1), none] [.ref 19] _ i_78_42 rfl ?_
  refine wp_s 44 [some (.ref 19), some (.int x1), none] [.ref 19, .ref 19] _ i_78_43 rfl ?_
  refine hm_get (w := .int (mm_1007.1 19 11)) 47 rfl i_78_44 (cb rfl) kk_19 rfl ?_
  refine wp_s 48 [some (.ref 19), some (.int x1), none] [.int x1, .int (mm_1007.1 19 11), .ref 19] _ i_78_47 rfl ?_
  refine wp_s 49 [some (.ref 19), some (.int x1), none] [.int ((mm_1007.1 19 11) + x1), .ref 19] _ i_78_48 rfl ?_
  obtain ⟨mm_1009, q_1010, hd⟩ := dk_bind hd
  refine hm_put 52 rfl i_78_49 (cb rfl) kk_19 (fun _ _ => rfl) (fun _ _ => Nat.le_of_ble_eq_true rfl) rfl ?_
  rw [Option.some.inj q_1010]
  refine wp_s 53 [some (.ref 19), some (.int x1), none] [.int (0 : Int32)] _ i_78_52 rfl ?_
  refine wp_s 54 [some (.ref 19), some (.int x1), some (.int (0 : Int32))] [] _ i_78_53 rfl ?_
  exact aWp.forget ((l_78_ok hdp g) _ _ _ _ hd) (lvS (lvS (lvS lvE)))
set_option maxHeartbeats 4000000 in
set_option maxRecDepth 100000 in
theorem l_81_ok {X : aX} {S : rS} {g : Nat} {d : Nat} (hdp : 0 ≤ d) : ∀ n, (∀ (x1 : Int32) (x2 : Int32) (m : cM) (zz : cM), l_81 g n 0 x1 x2 m = some zz → aWp X d 81 3 [some (.ref 1), some (.int x1), some (.int x2)] [] (hr m S) (fun w h' => w = none ∧ h' = hr zz S)) := by
  intro n
  induction n with
  | zero => exact fun _ _ _ _ hd => by simp [l_81] at hd
  | succ n ih =>
    intro x1 x2 m zz hd
    unfold l_81 at hd
    rw [if_pos rfl] at hd
    refine wp_s 4 [some (.ref 1), some (.int x1), some (.int x2)] [.int x2] _ i_81_3 rfl ?_
    refine wp_if_lt 46 7 rfl rfl i_81_4 (fun c_1 => ?_) (fun c_1 => ?_)
    · rw [if_pos c_1] at hd
      obtain rfl := Option.some.inj hd
      exact wp_ret i_81_46 rfl ⟨rfl, rfl⟩
    · rw [if_neg c_1] at hd
      refine wp_s 8 [some (.ref 1), some (.int x1), some (.int x2)] [.ref 1] _ i_81_7 rfl ?_
      refine hm_get (w := .int (m.1 1 1)) 11 rfl i_81_8 (cb rfl) kk_1 rfl ?_
      refine wp_s 14 [some (.ref 1), some (.int x1), some (.int x2)] [.int (400 : Int32), .int (m.1 1 1)] _ i_81_11 rfl ?_
      refine wp_cmp_ge 46 17 rfl rfl i_81_14 (fun c_2 => ?_) (fun c_2 => ?_)
      · rw [if_pos c_2] at hd
        obtain rfl := Option.some.inj hd
        exact wp_ret i_81_46 rfl ⟨rfl, rfl⟩
      · rw [if_neg c_2] at hd
        refine wp_s 18 [some (.ref 1), some (.int x1), some (.int x2)] [.ref 1] _ i_81_17 rfl ?_
        refine hm_get (w := .ref 2) 21 rfl i_81_18 (cb rfl) kk_1 rfl ?_
        refine wp_s 22 [some (.ref 1), some (.int x1), some (.int x2)] [.ref 1, .ref 2] _ i_81_21 rfl ?_
        refine hm_get (w := .int (m.1 1 1)) 25 rfl i_81_22 (cb rfl) kk_1 rfl ?_
        refine wp_s 26 [some (.ref 1), some (.int x1), some (.int x2)] [.int x1, .int (m.1 1 1), .ref 2] _ i_81_25 rfl ?_
        refine wp_s 27 [some (.ref 1), some (.int x1), some (.int x2)] [.int x2, .int x1, .int (m.1 1 1), .ref 2] _ i_81_26 rfl ?_
        refine wp_s 28 [some (.ref 1), some (.int x1), some (.int x2)] [.int (x1 >>> (x2 &&& 31)), .int (m.1 1 1), .ref 2] _ i_81_27 rfl ?_
        refine wp_s 29 [some (.ref 1), some (.int x1), some (.int x2)] [.int ((x1 >>> (x2 &&& 31)).toInt8.toInt32), .int (m.1 1 1), .ref 2] _ i_81_28 rfl ?_
        obtain ⟨k_3, hd⟩ := dk_if hd
        obtain ⟨mm_4, q_5, hd⟩ := dk_bind hd
        refine hm_bast 30 rfl i_81_29 (cb rfl) kk_2 k_3 ?_
        rw [Option.some.inj q_5]
        refine wp_s 31 [some (.ref 1), some (.int x1), some (.int x2)] [.ref 1] _ i_81_30 rfl ?_
        refine wp_s 32 [some (.ref 1), some (.int x1), some (.int x2)] [.ref 1, .ref 1] _ i_81_31 rfl ?_
        refine hm_get (w := .int (mm_4.1 1 1)) 35 rfl i_81_32 (cb rfl) kk_1 rfl ?_
        refine wp_s 36 [some (.ref 1), some (.int x1), some (.int x2)] [.int (1 : Int32), .int (mm_4.1 1 1), .ref 1] _ i_81_35 rfl ?_
        refine wp_s 37 [some (.ref 1), some (.int x1), some (.int x2)] [.int ((mm_4.1 1 1) + (1 : Int32)), .ref 1] _ i_81_36 rfl ?_
        obtain ⟨mm_6, q_7, hd⟩ := dk_bind hd
        refine hm_put 40 rfl i_81_37 (cb rfl) kk_1 (fun _ _ => rfl) (fun _ _ => Nat.le_of_ble_eq_true rfl) rfl ?_
        rw [Option.some.inj q_7]
        refine wp_s 43 [some (.ref 1), some (.int x1), some (.int (x2 + (-8 : Int32)))] [] _ i_81_40 rfl ?_
        refine wp_s 3 [some (.ref 1), some (.int x1), some (.int (x2 + (-8 : Int32)))] [] _ i_81_43 rfl ?_
        exact aWp.forget (ih _ _ _ _ hd) (lvS (lvS (lvS lvE)))
set_option maxHeartbeats 4000000 in
set_option maxRecDepth 100000 in
theorem d_81_ok {X : aX} {S : rS} {g : Nat} {x1 : Int32} {m : cM} {zz : cM} {d : Nat} (hdp : 0 ≤ d) (hd : d_81 g x1 m = some zz) : aWp X d 81 0 (aEntL [.ref 1, .int x1] 3) [] (hr m S) (fun w h' => w = none ∧ h' = hr zz S) := by
  unfold d_81 at hd
  refine wp_lv (l2 := [some (.ref 1), some (.int x1), none]) rfl ?_
  refine wp_s 2 [some (.ref 1), some (.int x1), none] [.int (24 : Int32)] _ i_81_0 rfl ?_
  refine wp_s 3 [some (.ref 1), some (.int x1), some (.int (24 : Int32))] [] _ i_81_2 rfl ?_
  exact aWp.forget ((l_81_ok hdp g) _ _ _ _ hd) (lvS (lvS (lvS lvE)))
set_option maxHeartbeats 4000000 in
set_option maxRecDepth 100000 in
theorem d_91_ok {X : aX} {S : rS} {g : Nat} {x1 : Int32} {m : cM} {zz : Int32 × cM} {d : Nat} (hdp : 5 ≤ d) (hd : d_91 g x1 m = some zz) : aWp X d 91 0 (aEntL [.ref 32, .int x1] 2) [] (hr m S) (fun w h' => w = some (.int zz.1) ∧ h' = hr zz.2 S) := by
  unfold d_91 at hd
  refine wp_lv (l2 := [some (.ref 32), some (.int x1)]) rfl ?_
  obtain ⟨e, rfl⟩ : ∃ e, d = e + 1 := ⟨d - 1, by omega⟩
  refine wp_s 1 [some (.ref 32), some (.int x1)] [.ref 32] _ i_91_0 rfl ?_
  refine wp_s 2 [some (.ref 32), some (.int x1)] [.int x1, .ref 32] _ i_91_1 rfl ?_
  refine wp_s 3 [some (.ref 32), some (.int x1)] [.ref 32, .int x1, .ref 32] _ i_91_2 rfl ?_
  refine hm_get (w := .ref 5) 6 rfl i_91_3 (cb rfl) kk_32 rfl ?_
  refine hm_get (w := .ref 19) 9 rfl i_91_6 (cb rfl) kk_5 rfl ?_
  refine hm_get (w := .int (m.1 19 13)) 12 rfl i_91_9 (cb rfl) kk_19 rfl ?_
  obtain ⟨z_1, q_2, hd⟩ := dk_bind hd
  refine wp_callV 15 rfl i_91_12 (by decide) rfl (vs := [.int x1, .int (m.1 19 13)]) (rest := []) rfl rfl rfl (hm_isO (cb rfl) kk_32) (y := m_90) rfl (Nat.le_of_ble_eq_true rfl) (d_90_ok (S := S) (d := e) (by omega) q_2) ?_
  rintro v_3 h_4 ⟨rfl, rfl⟩
  obtain rfl := Option.some.inj hd
  exact wp_iret i_91_15 ⟨rfl, rfl⟩
set_option maxHeartbeats 4000000 in
set_option maxRecDepth 100000 in
theorem l_92_ok {X : aX} {S : rS} {g : Nat} {d : Nat} (hdp : 5 ≤ d) : ∀ n, (∀ (x1 : Int32) (x2 : Int32) (m : cM) (zz : Int32 × cM), l_92 g n 0 x1 x2 m = some zz → aWp X d 92 4 [some (.ref 32), some (.int x1), some (.int x2)] [] (hr m S) (fun w h' => w = some (.int zz.1) ∧ h' = hr zz.2 S)) ∧ (∀ (x1 : Int32) (x2 : Int32) (m : cM) (zz : Int32 × cM), l_92 g n 1 x1 x2 m = some zz → aWp X d 92 64 [some (.ref 32), some (.int x1), some (.int x2)] [] (hr m S) (fun w h' => w = some (.int zz.1) ∧ h' = hr zz.2 S)) := by
  intro n
  induction n with
  | zero => exact ⟨fun _ _ _ _ hd => by simp [l_92] at hd, fun _ _ _ _ hd => by simp [l_92] at hd⟩
  | succ n ih =>
    refine ⟨?_, ?_⟩
    · intro x1 x2 m zz hd
      unfold l_92 at hd
      rw [if_pos rfl] at hd
      obtain ⟨e, rfl⟩ : ∃ e, d = e + 1 := ⟨d - 1, by omega⟩
      refine wp_s 5 [some (.ref 32), some (.int x1), some (.int x2)] [.int x2] _ i_92_4 rfl ?_
      refine wp_s 6 [some (.ref 32), some (.int x1), some (.int x2)] [.ref 32, .int x2] _ i_92_5 rfl ?_
      refine hm_get (w := .ref 5) 9 rfl i_92_6 (cb rfl) kk_32 rfl ?_
      obtain ⟨k_1, hd⟩ := dk_if hd
      refine hm_dyn 12 rfl i_92_9 (cb rfl) kk_5 (fun _ _ => rfl) (kd_ne0 (cO_iff k_1).2 (by decide)) ?_
      refine hm_get (w := .int (m.1 (m.2.2.1 5) 4)) 15 rfl i_92_12 (cO_iff k_1).1 (cO_iff k_1).2 rfl ?_
      refine wp_cmp_ge 70 18 rfl rfl i_92_15 (fun c_2 => ?_) (fun c_2 => ?_)
      · rw [if_pos c_2] at hd
        refine wp_s 71 [some (.ref 32), some (.int x1), some (.int x2)] [.int x1] _ i_92_70 rfl ?_
        obtain rfl := Option.some.inj hd
        exact wp_iret i_92_71 ⟨rfl, rfl⟩
      · rw [if_neg c_2] at hd
        refine wp_s 19 [some (.ref 32), some (.int x1), some (.int x2)] [.ref 32] _ i_92_18 rfl ?_
        refine hm_get (w := .ref 5) 22 rfl i_92_19 (cb rfl) kk_32 rfl ?_
        refine hm_get (w := .ref 19) 25 rfl i_92_22 (cb rfl) kk_5 rfl ?_
        refine hm_get (w := .ref 20) 28 rfl i_92_25 (cb rfl) kk_19 rfl ?_
        refine wp_s 29 [some (.ref 32), some (.int x1), some (.int x2)] [.int x2, .ref 20] _ i_92_28 rfl ?_
        obtain ⟨k_3, hd⟩ := dk_if hd
        refine hm_iald 30 rfl i_92_29 (cb rfl) kk_20 k_3 ?_
        refine wp_if_le 64 33 rfl rfl i_92_30 (fun c_4 => ?_) (fun c_4 => ?_)
        · rw [if_pos c_4] at hd
          exact aWp.forget (ih.2 _ _ _ _ hd) (lvS (lvS (lvS lvE)))
        · rw [if_neg c_4] at hd
          refine wp_s 34 [some (.ref 32), some (.int x1), some (.int x2)] [.int x1] _ i_92_33 rfl ?_
          refine wp_s 35 [some (.ref 32), some (.int x1), some (.int x2)] [.ref 32, .int x1] _ i_92_34 rfl ?_
          refine hm_get (w := .ref 5) 38 rfl i_92_35 (cb rfl) kk_32 rfl ?_
          refine hm_get (w := .ref 19) 41 rfl i_92_38 (cb rfl) kk_5 rfl ?_
          refine hm_get (w := .ref 20) 44 rfl i_92_41 (cb rfl) kk_19 rfl ?_
          refine wp_s 45 [some (.ref 32), some (.int x1), some (.int x2)] [.int x2, .ref 20, .int x1] _ i_92_44 rfl ?_
          obtain ⟨k_5, hd⟩ := dk_if hd
          refine hm_iald 46 rfl i_92_45 (cb rfl) kk_20 k_5 ?_
          refine wp_s 47 [some (.ref 32), some (.int x1), some (.int x2)] [.ref 32, .int (m.1 20 x2.toNatClampNeg), .int x1] _ i_92_46 rfl ?_
          refine wp_s 48 [some (.ref 32), some (.int x1), some (.int x2)] [.int x2, .ref 32, .int (m.1 20 x2.toNatClampNeg), .int x1] _ i_92_47 rfl ?_
          refine wp_s 49 [some (.ref 32), some (.int x1), some (.int x2)] [.ref 32, .int x2, .ref 32, .int (m.1 20 x2.toNatClampNeg), .int x1] _ i_92_48 rfl ?_
          refine hm_get (w := .ref 5) 52 rfl i_92_49 (cb rfl) kk_32 rfl ?_
          refine hm_get (w := .ref 19) 55 rfl i_92_52 (cb rfl) kk_5 rfl ?_
          refine hm_get (w := .int (m.1 19 13)) 58 rfl i_92_55 (cb rfl) kk_19 rfl ?_
          obtain ⟨z_6, q_7, hd⟩ := dk_bind hd
          refine wp_callV 61 rfl i_92_58 (by decide) rfl (vs := [.int x2, .int (m.1 19 13)]) (rest := [.int (m.1 20 x2.toNatClampNeg), .int x1]) rfl rfl rfl (hm_isO (cb rfl) kk_32) (y := m_90) rfl (Nat.le_of_ble_eq_true rfl) (d_90_ok (S := S) (d := e) (by omega) q_7) ?_
          rintro v_8 h_9 ⟨rfl, rfl⟩
          refine wp_s 62 [some (.ref 32), some (.int x1), some (.int x2)] [.int ((m.1 20 x2.toNatClampNeg) * z_6.1), .int x1] _ i_92_61 rfl ?_
          refine wp_s 63 [some (.ref 32), some (.int x1), some (.int x2)] [.int (x1 + ((m.1 20 x2.toNatClampNeg) * z_6.1))] _ i_92_62 rfl ?_
          refine wp_s 64 [some (.ref 32), some (.int (x1 + ((m.1 20 x2.toNatClampNeg) * z_6.1))), some (.int x2)] [] _ i_92_63 rfl ?_
          exact aWp.forget (ih.2 _ _ _ _ hd) (lvS (lvS (lvS lvE)))
    · intro x1 x2 m zz hd
      unfold l_92 at hd
      rw [if_neg (by decide), if_pos rfl] at hd
      obtain ⟨e, rfl⟩ : ∃ e, d = e + 1 := ⟨d - 1, by omega⟩
      refine wp_s 67 [some (.ref 32), some (.int x1), some (.int (x2 + (1 : Int32)))] [] _ i_92_64 rfl ?_
      refine wp_s 4 [some (.ref 32), some (.int x1), some (.int (x2 + (1 : Int32)))] [] _ i_92_67 rfl ?_
      exact aWp.forget (ih.1 _ _ _ _ hd) (lvS (lvS (lvS lvE)))
set_option maxHeartbeats 4000000 in
set_option maxRecDepth 100000 in
theorem d_92_ok {X : aX} {S : rS} {g : Nat}  {m : cM} {zz : Int32 × cM} {d : Nat} (hdp : 5 ≤ d) (hd : d_92 g  m = some zz) : aWp X d 92 0 (aEntL [.ref 32] 3) [] (hr m S) (fun w h' => w = some (.int zz.1) ∧ h' = hr zz.2 S) := by
  unfold d_92 at hd
  refine wp_lv (l2 := [some (.ref 32), none, none]) rfl ?_
  obtain ⟨e, rfl⟩ : ∃ e, d = e + 1 := ⟨d - 1, by omega⟩
  refine wp_s 1 [some (.ref 32), none, none] [.int (0 : Int32)] _ i_92_0 rfl ?_
  refine wp_s 2 [some (.ref 32), some (.int (0 : Int32)), none] [] _ i_92_1 rfl ?_
  refine wp_s 3 [some (.ref 32), some (.int (0 : Int32)), none] [.int (0 : Int32)] _ i_92_2 rfl ?_
  refine wp_s 4 [some (.ref 32), some (.int (0 : Int32)), some (.int (0 : Int32))] [] _ i_92_3 rfl ?_
  exact aWp.forget ((l_92_ok hdp g).1 _ _ _ _ hd) (lvS (lvS (lvS lvE)))
set_option maxHeartbeats 4000000 in
set_option maxRecDepth 100000 in
theorem d_93_ok {X : aX} {S : rS} {g : Nat}  {m : cM} {zz : Int32 × cM} {d : Nat} (hdp : 6 ≤ d) (hd : d_93 g  m = some zz) : aWp X d 93 0 (aEntL [.ref 32] 2) [] (hr m S) (fun w h' => w = some (.int zz.1) ∧ h' = hr zz.2 S) := by
  unfold d_93 at hd
  refine wp_lv (l2 := [some (.ref 32), none]) rfl ?_
  obtain ⟨e, rfl⟩ : ∃ e, d = e + 1 := ⟨d - 1, by omega⟩
  refine wp_s 1 [some (.ref 32), none] [.ref 32] _ i_93_0 rfl ?_
  refine hm_get (w := .ref 5) 4 rfl i_93_1 (cb rfl) kk_32 rfl ?_
  refine hm_get (w := .ref 19) 7 rfl i_93_4 (cb rfl) kk_5 rfl ?_
  refine wp_s 8 [some (.ref 32), some (.ref 19)] [] _ i_93_7 rfl ?_
  refine wp_s 9 [some (.ref 32), some (.ref 19)] [.ref 32] _ i_93_8 rfl ?_
  refine wp_s 10 [some (.ref 32), some (.ref 19)] [.ref 19, .ref 32] _ i_93_9 rfl ?_
  obtain ⟨z_1, q_2, hd⟩ := dk_bind hd
  refine wp_callV 13 rfl i_93_10 (by decide) rfl (vs := []) (rest := [.ref 32]) rfl rfl rfl (hm_isO (cb rfl) kk_19) (y := m_73) rfl (Nat.le_of_ble_eq_true rfl) (d_73_ok (S := S) (d := e) (by omega) q_2) ?_
  rintro v_3 h_4 ⟨rfl, rfl⟩
  refine wp_s 14 [some (.ref 32), some (.ref 19)] [.ref 32, .int z_1, .ref 32] _ i_93_13 rfl ?_
  obtain ⟨z_5, q_6, hd⟩ := dk_bind hd
  refine wp_callV 17 rfl i_93_14 (by decide) rfl (vs := []) (rest := [.int z_1, .ref 32]) rfl rfl rfl (hm_isO (cb rfl) kk_32) (y := m_92) rfl (Nat.le_of_ble_eq_true rfl) (d_92_ok (S := S) (d := e) (by omega) q_6) ?_
  rintro v_7 h_8 ⟨rfl, rfl⟩
  refine wp_s 18 [some (.ref 32), some (.ref 19)] [.ref 19, .int z_5.1, .int z_1, .ref 32] _ i_93_17 rfl ?_
  refine hm_get (w := .ref 26) 21 rfl i_93_18 (cb rfl) kk_19 rfl ?_
  refine wp_s 22 [some (.ref 32), some (.ref 19)] [.ref 19, .ref 26, .int z_5.1, .int z_1, .ref 32] _ i_93_21 rfl ?_
  refine hm_get (w := .int (z_5.2.1 19 8)) 25 rfl i_93_22 (cb rfl) kk_19 rfl ?_
  refine wp_s 26 [some (.ref 32), some (.ref 19)] [.ref 32, .int (z_5.2.1 19 8), .ref 26, .int z_5.1, .int z_1, .ref 32] _ i_93_25 rfl ?_
  refine hm_get (w := .ref 5) 29 rfl i_93_26 (cb rfl) kk_32 rfl ?_
  obtain ⟨k_9, hd⟩ := dk_if hd
  refine hm_dyn 32 rfl i_93_29 (cb rfl) kk_5 (fun _ _ => rfl) (kd_ne0 (cO_iff k_9).2 (by decide)) ?_
  refine hm_get (w := .int (z_5.2.1 (z_5.2.2.2.1 5) 2)) 35 rfl i_93_32 (cO_iff k_9).1 (cO_iff k_9).2 rfl ?_
  obtain ⟨z_10, q_11, hd⟩ := dk_bind hd
  refine wp_callV 38 rfl i_93_35 (by decide) rfl (vs := [.int z_1, .int z_5.1, .ref 26, .int (z_5.2.1 19 8), .int (z_5.2.1 (z_5.2.2.2.1 5) 2)]) (rest := []) rfl rfl rfl (hm_isO (cb rfl) kk_32) (y := m_94) rfl (Nat.le_of_ble_eq_true rfl) (d_94_ok (S := S) (d := e) (by omega) q_11) ?_
  rintro v_12 h_13 ⟨rfl, rfl⟩
  obtain rfl := Option.some.inj hd
  exact wp_iret i_93_38 ⟨rfl, rfl⟩
set_option maxHeartbeats 4000000 in
set_option maxRecDepth 100000 in
theorem d_98_ok {X : aX} {S : rS} {g : Nat} {a1 : Nat} {m : cM} {zz : cM} {d : Nat} (hdp : 2 ≤ d) (hd : d_98 g a1 m = some zz) : aWp X d 98 0 (aEntL [.ref 5, .ref a1] 2) [] (hr m S) (fun w h' => w = none ∧ h' = hr zz S) := by
  unfold d_98 at hd
  refine wp_lv (l2 := [some (.ref 5), some (.ref a1)]) rfl ?_
  obtain ⟨e, rfl⟩ : ∃ e, d = e + 1 := ⟨d - 1, by omega⟩
  refine wp_s 1 [some (.ref 5), some (.ref a1)] [.ref 5] _ i_98_0 rfl ?_
  refine wp_s 2 [some (.ref 5), some (.ref a1)] [.ref a1, .ref 5] _ i_98_1 rfl ?_
  obtain ⟨k_3, hd⟩ := dk_if hd
  obtain ⟨mm_1, q_2, hd⟩ := dk_bind hd
  refine hm_putR 5 rfl i_98_2 (cb rfl) kk_5 (fun _ _ => rfl) (fun _ _ => Nat.le_of_ble_eq_true rfl) rfl (kd_ne0 (cO_iff k_3).2 (by decide)) ?_
  rw [Option.some.inj q_2]
  refine wp_s 6 [some (.ref 5), some (.ref a1)] [.ref 5] _ i_98_5 rfl ?_
  refine hm_get (w := .ref 19) 9 rfl i_98_6 (cb rfl) kk_5 rfl ?_
  refine wp_s 10 [some (.ref 5), some (.ref a1)] [.ref a1, .ref 19] _ i_98_9 rfl ?_
  obtain ⟨z_4, q_5, hd⟩ := dk_bind hd
  refine wp_callV 13 rfl i_98_10 (by decide) rfl (vs := [.ref a1]) (rest := []) rfl rfl rfl (hm_isO (cb rfl) kk_19) (y := m_71) rfl (Nat.le_of_ble_eq_true rfl) (d_71_ok (S := S) (d := e) (by omega) q_5) ?_
  rintro v_6 h_7 ⟨rfl, rfl⟩
  refine wp_s 14 [some (.ref 5), some (.ref a1)] [.ref 5] _ i_98_13 rfl ?_
  refine wp_s 15 [some (.ref 5), some (.ref a1)] [.int (0 : Int32), .ref 5] _ i_98_14 rfl ?_
  obtain ⟨mm_8, q_9, hd⟩ := dk_bind hd
  refine hm_put 18 rfl i_98_15 (cb rfl) kk_5 (fun _ _ => rfl) (fun _ _ => Nat.le_of_ble_eq_true rfl) rfl ?_
  rw [Option.some.inj q_9]
  obtain rfl := Option.some.inj hd
  exact wp_ret i_98_18 rfl ⟨rfl, rfl⟩
set_option maxHeartbeats 4000000 in
set_option maxRecDepth 100000 in
theorem d_99_ok {X : aX} {S : rS} {g : Nat} {a0 : Nat} {a1 : Nat} {m : cM} {zz : cM} {d : Nat} (hdp : 1 ≤ d) (hd : d_99 g a0 a1 m = some zz) : aWp X d 99 0 (aEntL [.ref a0, .ref a1] 2) [] (hr m S) (fun w h' => w = none ∧ h' = hr zz S) := by
  unfold d_99 at hd
  refine wp_lv (l2 := [some (.ref a0), some (.ref a1)]) rfl ?_
  obtain ⟨e, rfl⟩ : ∃ e, d = e + 1 := ⟨d - 1, by omega⟩
  refine wp_s 1 [some (.ref a0), some (.ref a1)] [.ref a0] _ i_99_0 rfl ?_
  refine wp_s 2 [some (.ref a0), some (.ref a1)] [.ref a1, .ref a0] _ i_99_1 rfl ?_
  obtain ⟨k_1, hd⟩ := dk_if hd
  obtain ⟨k_2, hd⟩ := dk_if hd
  refine hm_dyn 5 rfl i_99_2 (cU_lt k_1) (cU_kd k_1) (fun _ _ => rfl) (kd_ne0 (cO_iff k_2).2 (by decide)) ?_
  obtain ⟨k_3, hd⟩ := dk_if hd
  obtain ⟨mm_4, q_5, hd⟩ := dk_bind hd
  refine hm_putR 8 rfl i_99_5 (cU_lt k_3) (cU_kd k_3) (fun _ _ => rfl) (fun _ _ => Nat.le_of_ble_eq_true rfl) rfl (kd_ne0 (cO_iff k_2).2 (by decide)) ?_
  rw [Option.some.inj q_5]
  refine wp_s 9 [some (.ref a0), some (.ref a1)] [.ref a0] _ i_99_8 rfl ?_
  refine hm_get (w := .ref (a0 + 14)) 12 rfl i_99_9 (cU_lt k_3) (cU_kd k_3) rfl ?_
  refine wp_s 13 [some (.ref a0), some (.ref a1)] [.ref a1, .ref (a0 + 14)] _ i_99_12 rfl ?_
  refine hm_get (w := .ref (a1 + 14)) 16 rfl i_99_13 (cU_lt k_1) (cU_kd k_1) rfl ?_
  obtain ⟨k_6, hd⟩ := dk_if hd
  obtain ⟨z_7, q_8, hd⟩ := dk_bind hd
  refine wp_callV 19 rfl i_99_16 (by decide) rfl (vs := [.ref (a1 + 14)]) (rest := []) rfl rfl rfl (hm_isO (cU_lt k_6) (cU_kd k_6)) (y := m_72) rfl (Nat.le_of_ble_eq_true rfl) (d_72_ok (S := S) (d := e) (by omega) q_8) ?_
  rintro v_9 h_10 ⟨rfl, rfl⟩
  refine wp_s 20 [some (.ref a0), some (.ref a1)] [.ref a0] _ i_99_19 rfl ?_
  refine wp_s 21 [some (.ref a0), some (.ref a1)] [.ref a1, .ref a0] _ i_99_20 rfl ?_
  refine hm_get (w := .int (z_7.1 a1 2)) 24 rfl i_99_21 (cU_lt k_1) (cU_kd k_1) rfl ?_
  obtain ⟨mm_11, q_12, hd⟩ := dk_bind hd
  refine hm_put 27 rfl i_99_24 (cU_lt k_3) (cU_kd k_3) (fun _ _ => rfl) (fun _ _ => Nat.le_of_ble_eq_true rfl) rfl ?_
  rw [Option.some.inj q_12]
  refine wp_s 28 [some (.ref a0), some (.ref a1)] [.ref a0] _ i_99_27 rfl ?_
  refine wp_s 29 [some (.ref a0), some (.ref a1)] [.ref a1, .ref a0] _ i_99_28 rfl ?_
  refine hm_get (w := .int (mm_11.1 a1 3)) 32 rfl i_99_29 (cU_lt k_1) (cU_kd k_1) rfl ?_
  obtain ⟨mm_13, q_14, hd⟩ := dk_bind hd
  refine hm_put 35 rfl i_99_32 (cU_lt k_3) (cU_kd k_3) (fun _ _ => rfl) (fun _ _ => Nat.le_of_ble_eq_true rfl) rfl ?_
  rw [Option.some.inj q_14]
  refine wp_s 36 [some (.ref a0), some (.ref a1)] [.ref a1] _ i_99_35 rfl ?_
  refine hm_get (w := .ref (a1 + 23)) 39 rfl i_99_36 (cU_lt k_1) (cU_kd k_1) rfl ?_
  refine wp_s 40 [some (.ref a0), some (.ref a1)] [.int (0 : Int32), .ref (a1 + 23)] _ i_99_39 rfl ?_
  refine wp_s 41 [some (.ref a0), some (.ref a1)] [.ref a0, .int (0 : Int32), .ref (a1 + 23)] _ i_99_40 rfl ?_
  refine hm_get (w := .ref (a0 + 23)) 44 rfl i_99_41 (cU_lt k_3) (cU_kd k_3) rfl ?_
  refine wp_s 45 [some (.ref a0), some (.ref a1)] [.int (0 : Int32), .ref (a0 + 23), .int (0 : Int32), .ref (a1 + 23)] _ i_99_44 rfl ?_
  refine wp_s 47 [some (.ref a0), some (.ref a1)] [.int (10 : Int32), .int (0 : Int32), .ref (a0 + 23), .int (0 : Int32), .ref (a1 + 23)] _ i_99_45 rfl ?_
  obtain ⟨mm_15, q_16, hd⟩ := dk_bind hd
  refine hm_copy 50 rfl i_99_47 rfl (kb_10_23 (cU_lt k_1) (cU_kd k_1)) (kr_10_23 (cU_kd k_1)) (kb_10_23 (cU_lt k_3) (cU_kd k_3)) (kr_10_23 (cU_kd k_3)) (by decide) (by decide) (by decide) (by decide) (by decide) ?_
  rw [Option.some.inj q_16]
  refine wp_s 51 [some (.ref a0), some (.ref a1)] [.ref a1] _ i_99_50 rfl ?_
  refine hm_get (w := .ref (a1 + 24)) 54 rfl i_99_51 (cU_lt k_1) (cU_kd k_1) rfl ?_
  refine wp_s 55 [some (.ref a0), some (.ref a1)] [.int (0 : Int32), .ref (a1 + 24)] _ i_99_54 rfl ?_
  refine wp_s 56 [some (.ref a0), some (.ref a1)] [.ref a0, .int (0 : Int32), .ref (a1 + 24)] _ i_99_55 rfl ?_
  refine hm_get (w := .ref (a0 + 24)) 59 rfl i_99_56 (cU_lt k_3) (cU_kd k_3) rfl ?_
  refine wp_s 60 [some (.ref a0), some (.ref a1)] [.int (0 : Int32), .ref (a0 + 24), .int (0 : Int32), .ref (a1 + 24)] _ i_99_59 rfl ?_
  refine wp_s 62 [some (.ref a0), some (.ref a1)] [.int (10 : Int32), .int (0 : Int32), .ref (a0 + 24), .int (0 : Int32), .ref (a1 + 24)] _ i_99_60 rfl ?_
  obtain ⟨mm_17, q_18, hd⟩ := dk_bind hd
  refine hm_copy 65 rfl i_99_62 rfl (kb_10_24 (cU_lt k_1) (cU_kd k_1)) (kr_10_24 (cU_kd k_1)) (kb_10_24 (cU_lt k_3) (cU_kd k_3)) (kr_10_24 (cU_kd k_3)) (by decide) (by decide) (by decide) (by decide) (by decide) ?_
  rw [Option.some.inj q_18]
  refine wp_s 66 [some (.ref a0), some (.ref a1)] [.ref a1] _ i_99_65 rfl ?_
  refine hm_get (w := .ref (a1 + 25)) 69 rfl i_99_66 (cU_lt k_1) (cU_kd k_1) rfl ?_
  refine wp_s 70 [some (.ref a0), some (.ref a1)] [.int (0 : Int32), .ref (a1 + 25)] _ i_99_69 rfl ?_
  refine wp_s 71 [some (.ref a0), some (.ref a1)] [.ref a0, .int (0 : Int32), .ref (a1 + 25)] _ i_99_70 rfl ?_
  refine hm_get (w := .ref (a0 + 25)) 74 rfl i_99_71 (cU_lt k_3) (cU_kd k_3) rfl ?_
  refine wp_s 75 [some (.ref a0), some (.ref a1)] [.int (0 : Int32), .ref (a0 + 25), .int (0 : Int32), .ref (a1 + 25)] _ i_99_74 rfl ?_
  refine wp_s 77 [some (.ref a0), some (.ref a1)] [.int (10 : Int32), .int (0 : Int32), .ref (a0 + 25), .int (0 : Int32), .ref (a1 + 25)] _ i_99_75 rfl ?_
  obtain ⟨mm_19, q_20, hd⟩ := dk_bind hd
  refine hm_copy 80 rfl i_99_77 rfl (kb_10_25 (cU_lt k_1) (cU_kd k_1)) (kr_10_25 (cU_kd k_1)) (kb_10_25 (cU_lt k_3) (cU_kd k_3)) (kr_10_25 (cU_kd k_3)) (by decide) (by decide) (by decide) (by decide) (by decide) ?_
  rw [Option.some.inj q_20]
  refine wp_s 81 [some (.ref a0), some (.ref a1)] [.ref a1] _ i_99_80 rfl ?_
  refine hm_get (w := .ref (a1 + 26)) 84 rfl i_99_81 (cU_lt k_1) (cU_kd k_1) rfl ?_
  refine wp_s 85 [some (.ref a0), some (.ref a1)] [.int (0 : Int32), .ref (a1 + 26)] _ i_99_84 rfl ?_
  refine wp_s 86 [some (.ref a0), some (.ref a1)] [.ref a0, .int (0 : Int32), .ref (a1 + 26)] _ i_99_85 rfl ?_
  refine hm_get (w := .ref (a0 + 26)) 89 rfl i_99_86 (cU_lt k_3) (cU_kd k_3) rfl ?_
  refine wp_s 90 [some (.ref a0), some (.ref a1)] [.int (0 : Int32), .ref (a0 + 26), .int (0 : Int32), .ref (a1 + 26)] _ i_99_89 rfl ?_
  refine wp_s 92 [some (.ref a0), some (.ref a1)] [.int (10 : Int32), .int (0 : Int32), .ref (a0 + 26), .int (0 : Int32), .ref (a1 + 26)] _ i_99_90 rfl ?_
  obtain ⟨mm_21, q_22, hd⟩ := dk_bind hd
  refine hm_copy 95 rfl i_99_92 rfl (kb_10_26 (cU_lt k_1) (cU_kd k_1)) (kr_10_26 (cU_kd k_1)) (kb_10_26 (cU_lt k_3) (cU_kd k_3)) (kr_10_26 (cU_kd k_3)) (by decide) (by decide) (by decide) (by decide) (by decide) ?_
  rw [Option.some.inj q_22]
  refine wp_s 96 [some (.ref a0), some (.ref a1)] [.ref a0] _ i_99_95 rfl ?_
  refine wp_s 97 [some (.ref a0), some (.ref a1)] [.ref a1, .ref a0] _ i_99_96 rfl ?_
  refine hm_get (w := .int (mm_21.1 a1 8)) 100 rfl i_99_97 (cU_lt k_1) (cU_kd k_1) rfl ?_
  obtain ⟨mm_23, q_24, hd⟩ := dk_bind hd
  refine hm_put 103 rfl i_99_100 (cU_lt k_3) (cU_kd k_3) (fun _ _ => rfl) (fun _ _ => Nat.le_of_ble_eq_true rfl) rfl ?_
  rw [Option.some.inj q_24]
  obtain rfl := Option.some.inj hd
  exact wp_ret i_99_103 rfl ⟨rfl, rfl⟩
set_option maxHeartbeats 4000000 in
set_option maxRecDepth 100000 in
theorem d_100_ok {X : aX} {S : rS} {g : Nat} {x1 : Int32} {x2 : Int32} {x3 : Int32} {x4 : Int32} {m : cM} {zz : cM} {d : Nat} (hdp : 0 ≤ d) (hd : d_100 g x1 x2 x3 x4 m = some zz) : aWp X d 100 0 (aEntL [.ref 5, .int x1, .int x2, .int x3, .int x4] 5) [] (hr m S) (fun w h' => w = none ∧ h' = hr zz S) := by
  unfold d_100 at hd
  refine wp_lv (l2 := [some (.ref 5), some (.int x1), some (.int x2), some (.int x3), some (.int x4)]) rfl ?_
  refine wp_s 1 [some (.ref 5), some (.int x1), some (.int x2), some (.int x3), some (.int x4)] [.ref 5] _ i_100_0 rfl ?_
  refine hm_get (w := .ref 28) 4 rfl i_100_1 (cb rfl) kk_5 rfl ?_
  refine wp_s 5 [some (.ref 5), some (.int x1), some (.int x2), some (.int x3), some (.int x4)] [.ref 5, .ref 28] _ i_100_4 rfl ?_
  refine hm_get (w := .int (m.1 5 8)) 8 rfl i_100_5 (cb rfl) kk_5 rfl ?_
  refine wp_s 9 [some (.ref 5), some (.int x1), some (.int x2), some (.int x3), some (.int x4)] [.int x1, .int (m.1 5 8), .ref 28] _ i_100_8 rfl ?_
  obtain ⟨k_1, hd⟩ := dk_if hd
  obtain ⟨mm_2, q_3, hd⟩ := dk_bind hd
  refine hm_iast 10 rfl i_100_9 (cb rfl) kk_28 k_1 ?_
  rw [Option.some.inj q_3]
  refine wp_s 11 [some (.ref 5), some (.int x1), some (.int x2), some (.int x3), some (.int x4)] [.ref 5] _ i_100_10 rfl ?_
  refine hm_get (w := .ref 29) 14 rfl i_100_11 (cb rfl) kk_5 rfl ?_
  refine wp_s 15 [some (.ref 5), some (.int x1), some (.int x2), some (.int x3), some (.int x4)] [.ref 5, .ref 29] _ i_100_14 rfl ?_
  refine hm_get (w := .int (mm_2.1 5 8)) 18 rfl i_100_15 (cb rfl) kk_5 rfl ?_
  refine wp_s 19 [some (.ref 5), some (.int x1), some (.int x2), some (.int x3), some (.int x4)] [.int x2, .int (mm_2.1 5 8), .ref 29] _ i_100_18 rfl ?_
  obtain ⟨k_4, hd⟩ := dk_if hd
  obtain ⟨mm_5, q_6, hd⟩ := dk_bind hd
  refine hm_iast 20 rfl i_100_19 (cb rfl) kk_29 k_4 ?_
  rw [Option.some.inj q_6]
  refine wp_s 21 [some (.ref 5), some (.int x1), some (.int x2), some (.int x3), some (.int x4)] [.ref 5] _ i_100_20 rfl ?_
  refine hm_get (w := .ref 30) 24 rfl i_100_21 (cb rfl) kk_5 rfl ?_
  refine wp_s 25 [some (.ref 5), some (.int x1), some (.int x2), some (.int x3), some (.int x4)] [.ref 5, .ref 30] _ i_100_24 rfl ?_
  refine hm_get (w := .int (mm_5.1 5 8)) 28 rfl i_100_25 (cb rfl) kk_5 rfl ?_
  refine wp_s 29 [some (.ref 5), some (.int x1), some (.int x2), some (.int x3), some (.int x4)] [.int x3, .int (mm_5.1 5 8), .ref 30] _ i_100_28 rfl ?_
  obtain ⟨k_7, hd⟩ := dk_if hd
  obtain ⟨mm_8, q_9, hd⟩ := dk_bind hd
  refine hm_iast 30 rfl i_100_29 (cb rfl) kk_30 k_7 ?_
  rw [Option.some.inj q_9]
  refine wp_s 31 [some (.ref 5), some (.int x1), some (.int x2), some (.int x3), some (.int x4)] [.ref 5] _ i_100_30 rfl ?_
  refine hm_get (w := .ref 31) 34 rfl i_100_31 (cb rfl) kk_5 rfl ?_
  refine wp_s 35 [some (.ref 5), some (.int x1), some (.int x2), some (.int x3), some (.int x4)] [.ref 5, .ref 31] _ i_100_34 rfl ?_
  refine hm_get (w := .int (mm_8.1 5 8)) 38 rfl i_100_35 (cb rfl) kk_5 rfl ?_
  refine wp_s 40 [some (.ref 5), some (.int x1), some (.int x2), some (.int x3), some (.int x4)] [.int x4, .int (mm_8.1 5 8), .ref 31] _ i_100_38 rfl ?_
  obtain ⟨k_10, hd⟩ := dk_if hd
  obtain ⟨mm_11, q_12, hd⟩ := dk_bind hd
  refine hm_iast 41 rfl i_100_40 (cb rfl) kk_31 k_10 ?_
  rw [Option.some.inj q_12]
  refine wp_s 42 [some (.ref 5), some (.int x1), some (.int x2), some (.int x3), some (.int x4)] [.ref 5] _ i_100_41 rfl ?_
  refine wp_s 43 [some (.ref 5), some (.int x1), some (.int x2), some (.int x3), some (.int x4)] [.ref 5, .ref 5] _ i_100_42 rfl ?_
  refine hm_get (w := .int (mm_11.1 5 8)) 46 rfl i_100_43 (cb rfl) kk_5 rfl ?_
  refine wp_s 47 [some (.ref 5), some (.int x1), some (.int x2), some (.int x3), some (.int x4)] [.int (1 : Int32), .int (mm_11.1 5 8), .ref 5] _ i_100_46 rfl ?_
  refine wp_s 48 [some (.ref 5), some (.int x1), some (.int x2), some (.int x3), some (.int x4)] [.int ((mm_11.1 5 8) + (1 : Int32)), .ref 5] _ i_100_47 rfl ?_
  obtain ⟨mm_13, q_14, hd⟩ := dk_bind hd
  refine hm_put 51 rfl i_100_48 (cb rfl) kk_5 (fun _ _ => rfl) (fun _ _ => Nat.le_of_ble_eq_true rfl) rfl ?_
  rw [Option.some.inj q_14]
  obtain rfl := Option.some.inj hd
  exact wp_ret i_100_51 rfl ⟨rfl, rfl⟩
set_option maxHeartbeats 4000000 in
set_option maxRecDepth 100000 in
theorem d_102_ok {X : aX} {S : rS} {g : Nat} {x1 : Int32} {x2 : Int32} {x3 : Int32} {x4 : Int32} {x5 : Int32} {m : cM} {zz : Int32 × cM} {d : Nat} (hdp : 1 ≤ d) (hd : d_102 g x1 x2 x3 x4 x5 m = some zz) : aWp X d 102 0 (aEntL [.ref 0, .int x1, .int x2, .int x3, .int x4, .int x5] 6) [] (hr m S) (fun w h' => w = some (.int zz.1) ∧ h' = hr zz.2 S) := by
  unfold d_102 at hd
  refine wp_lv (l2 := [some (.ref 0), some (.int x1), some (.int x2), some (.int x3), some (.int x4), some (.int x5)]) rfl ?_
  obtain ⟨e, rfl⟩ : ∃ e, d = e + 1 := ⟨d - 1, by omega⟩
  refine wp_s 1 [some (.ref 0), some (.int x1), some (.int x2), some (.int x3), some (.int x4), some (.int x5)] [.ref 0] _ i_102_0 rfl ?_
  refine hm_get (w := .ref 1) 4 rfl i_102_1 (cb rfl) kk_0 rfl ?_
  refine hm_get (w := .int (m.1 1 1)) 7 rfl i_102_4 (cb rfl) kk_1 rfl ?_
  refine wp_s 9 [some (.ref 0), some (.int x1), some (.int x2), some (.int x3), some (.int x4), some (.int x5)] [.int (20 : Int32), .int (m.1 1 1)] _ i_102_7 rfl ?_
  refine wp_s 10 [some (.ref 0), some (.int x1), some (.int x2), some (.int x3), some (.int x4), some (.int x5)] [.int ((m.1 1 1) + (20 : Int32))] _ i_102_9 rfl ?_
  refine wp_s 13 [some (.ref 0), some (.int x1), some (.int x2), some (.int x3), some (.int x4), some (.int x5)] [.int (400 : Int32), .int ((m.1 1 1) + (20 : Int32))] _ i_102_10 rfl ?_
  refine wp_cmp_le 18 16 rfl rfl i_102_13 (fun c_1 => ?_) (fun c_1 => ?_)
  · rw [if_pos c_1] at hd
    refine wp_s 19 [some (.ref 0), some (.int x1), some (.int x2), some (.int x3), some (.int x4), some (.int x5)] [.ref 0] _ i_102_18 rfl ?_
    refine hm_get (w := .ref 1) 22 rfl i_102_19 (cb rfl) kk_0 rfl ?_
    refine wp_s 23 [some (.ref 0), some (.int x1), some (.int x2), some (.int x3), some (.int x4), some (.int x5)] [.int x1, .ref 1] _ i_102_22 rfl ?_
    obtain ⟨z_2, q_3, hd⟩ := dk_bind hd
    refine wp_callV 26 rfl i_102_23 (by decide) rfl (vs := [.int x1]) (rest := []) rfl rfl rfl (hm_isO (cb rfl) kk_1) (y := m_81) rfl (Nat.le_of_ble_eq_true rfl) (d_81_ok (S := S) (d := e) (by omega) q_3) ?_
    rintro v_4 h_5 ⟨rfl, rfl⟩
    refine wp_s 27 [some (.ref 0), some (.int x1), some (.int x2), some (.int x3), some (.int x4), some (.int x5)] [.ref 0] _ i_102_26 rfl ?_
    refine hm_get (w := .ref 1) 30 rfl i_102_27 (cb rfl) kk_0 rfl ?_
    refine wp_s 31 [some (.ref 0), some (.int x1), some (.int x2), some (.int x3), some (.int x4), some (.int x5)] [.int x2, .ref 1] _ i_102_30 rfl ?_
    obtain ⟨z_6, q_7, hd⟩ := dk_bind hd
    refine wp_callV 34 rfl i_102_31 (by decide) rfl (vs := [.int x2]) (rest := []) rfl rfl rfl (hm_isO (cb rfl) kk_1) (y := m_81) rfl (Nat.le_of_ble_eq_true rfl) (d_81_ok (S := S) (d := e) (by omega) q_7) ?_
    rintro v_8 h_9 ⟨rfl, rfl⟩
    refine wp_s 35 [some (.ref 0), some (.int x1), some (.int x2), some (.int x3), some (.int x4), some (.int x5)] [.ref 0] _ i_102_34 rfl ?_
    refine hm_get (w := .ref 1) 38 rfl i_102_35 (cb rfl) kk_0 rfl ?_
    refine wp_s 39 [some (.ref 0), some (.int x1), some (.int x2), some (.int x3), some (.int x4), some (.int x5)] [.int x3, .ref 1] _ i_102_38 rfl ?_
    obtain ⟨z_10, q_11, hd⟩ := dk_bind hd
    refine wp_callV 42 rfl i_102_39 (by decide) rfl (vs := [.int x3]) (rest := []) rfl rfl rfl (hm_isO (cb rfl) kk_1) (y := m_81) rfl (Nat.le_of_ble_eq_true rfl) (d_81_ok (S := S) (d := e) (by omega) q_11) ?_
    rintro v_12 h_13 ⟨rfl, rfl⟩
    refine wp_s 43 [some (.ref 0), some (.int x1), some (.int x2), some (.int x3), some (.int x4), some (.int x5)] [.ref 0] _ i_102_42 rfl ?_
    refine hm_get (w := .ref 1) 46 rfl i_102_43 (cb rfl) kk_0 rfl ?_
    refine wp_s 48 [some (.ref 0), some (.int x1), some (.int x2), some (.int x3), some (.int x4), some (.int x5)] [.int x4, .ref 1] _ i_102_46 rfl ?_
    obtain ⟨z_14, q_15, hd⟩ := dk_bind hd
    refine wp_callV 51 rfl i_102_48 (by decide) rfl (vs := [.int x4]) (rest := []) rfl rfl rfl (hm_isO (cb rfl) kk_1) (y := m_81) rfl (Nat.le_of_ble_eq_true rfl) (d_81_ok (S := S) (d := e) (by omega) q_15) ?_
    rintro v_16 h_17 ⟨rfl, rfl⟩
    refine wp_s 52 [some (.ref 0), some (.int x1), some (.int x2), some (.int x3), some (.int x4), some (.int x5)] [.ref 0] _ i_102_51 rfl ?_
    refine hm_get (w := .ref 1) 55 rfl i_102_52 (cb rfl) kk_0 rfl ?_
    refine wp_s 57 [some (.ref 0), some (.int x1), some (.int x2), some (.int x3), some (.int x4), some (.int x5)] [.int x5, .ref 1] _ i_102_55 rfl ?_
    obtain ⟨z_18, q_19, hd⟩ := dk_bind hd
    refine wp_callV 60 rfl i_102_57 (by decide) rfl (vs := [.int x5]) (rest := []) rfl rfl rfl (hm_isO (cb rfl) kk_1) (y := m_81) rfl (Nat.le_of_ble_eq_true rfl) (d_81_ok (S := S) (d := e) (by omega) q_19) ?_
    rintro v_20 h_21 ⟨rfl, rfl⟩
    refine wp_s 61 [some (.ref 0), some (.int x1), some (.int x2), some (.int x3), some (.int x4), some (.int x5)] [.ref 0] _ i_102_60 rfl ?_
    refine hm_get (w := .ref 1) 64 rfl i_102_61 (cb rfl) kk_0 rfl ?_
    refine hm_get (w := .int (z_18.1 1 1)) 67 rfl i_102_64 (cb rfl) kk_1 rfl ?_
    obtain rfl := Option.some.inj hd
    exact wp_iret i_102_67 ⟨rfl, rfl⟩
  · rw [if_neg c_1] at hd
    refine wp_s 17 [some (.ref 0), some (.int x1), some (.int x2), some (.int x3), some (.int x4), some (.int x5)] [.int (-1 : Int32)] _ i_102_16 rfl ?_
    obtain rfl := Option.some.inj hd
    exact wp_iret i_102_17 ⟨rfl, rfl⟩
set_option maxHeartbeats 4000000 in
set_option maxRecDepth 100000 in
theorem d_103_ok {X : aX} {S : rS} {g : Nat} {x1 : Int32} {m : cM} {zz : Int32 × cM} {d : Nat} (hdp : 0 ≤ d) (hd : d_103 g x1 m = some zz) : aWp X d 103 0 (aEntL [.ref 0, .int x1] 2) [] (hr m S) (fun w h' => w = some (.int zz.1) ∧ h' = hr zz.2 S) := by
  unfold d_103 at hd
  refine wp_lv (l2 := [some (.ref 0), some (.int x1)]) rfl ?_
  refine wp_s 1 [some (.ref 0), some (.int x1)] [.int x1] _ i_103_0 rfl ?_
  refine wp_if_lt 15 4 rfl rfl i_103_1 (fun c_1 => ?_) (fun c_1 => ?_)
  · rw [if_pos c_1] at hd
    refine wp_s 16 [some (.ref 0), some (.int x1)] [.int (-1 : Int32)] _ i_103_15 rfl ?_
    obtain rfl := Option.some.inj hd
    exact wp_iret i_103_16 ⟨rfl, rfl⟩
  · rw [if_neg c_1] at hd
    refine wp_s 5 [some (.ref 0), some (.int x1)] [.int x1] _ i_103_4 rfl ?_
    refine wp_s 6 [some (.ref 0), some (.int x1)] [.ref 0, .int x1] _ i_103_5 rfl ?_
    refine hm_get (w := .ref 1) 9 rfl i_103_6 (cb rfl) kk_0 rfl ?_
    refine hm_get (w := .int (m.1 1 1)) 12 rfl i_103_9 (cb rfl) kk_1 rfl ?_
    refine wp_cmp_le 17 15 rfl rfl i_103_12 (fun c_2 => ?_) (fun c_2 => ?_)
    · rw [if_pos c_2] at hd
      refine wp_s 18 [some (.ref 0), some (.int x1)] [.ref 0] _ i_103_17 rfl ?_
      refine hm_get (w := .ref 1) 21 rfl i_103_18 (cb rfl) kk_0 rfl ?_
      refine wp_s 22 [some (.ref 0), some (.int x1)] [.int x1, .ref 1] _ i_103_21 rfl ?_
      obtain ⟨mm_3, q_4, hd⟩ := dk_bind hd
      refine hm_put 25 rfl i_103_22 (cb rfl) kk_1 (fun _ _ => rfl) (fun _ _ => Nat.le_of_ble_eq_true rfl) rfl ?_
      rw [Option.some.inj q_4]
      refine wp_s 26 [some (.ref 0), some (.int x1)] [.int x1] _ i_103_25 rfl ?_
      obtain rfl := Option.some.inj hd
      exact wp_iret i_103_26 ⟨rfl, rfl⟩
    · rw [if_neg c_2] at hd
      refine wp_s 16 [some (.ref 0), some (.int x1)] [.int (-1 : Int32)] _ i_103_15 rfl ?_
      obtain rfl := Option.some.inj hd
      exact wp_iret i_103_16 ⟨rfl, rfl⟩
set_option maxHeartbeats 4000000 in
set_option maxRecDepth 100000 in
theorem d_104_ok {X : aX} {S : rS} {g : Nat}  {m : cM} {zz : Int32 × cM} {d : Nat} (hdp : 6 ≤ d) (hd : d_104 g  m = some zz) : aWp X d 104 0 (aEntL [.ref 0] 3) [] (hr m S) (fun w h' => w = some (.int zz.1) ∧ h' = hr zz.2 S) := by
  unfold d_104 at hd
  refine wp_lv (l2 := [some (.ref 0), none, none]) rfl ?_
  obtain ⟨e, rfl⟩ : ∃ e, d = e + 1 := ⟨d - 1, by omega⟩
  obtain ⟨mm_1, q_2, hd⟩ := dk_bind hd
  refine hm_shop (g := g) (e := e) (by omega) ?_
  rw [Option.some.inj q_2]
  refine wp_s 8 [some (.ref 0), some (.ref (406 + 13 * m.2.2.2)), none] [] _ i_104_7 rfl ?_
  refine wp_s 9 [some (.ref 0), some (.ref (406 + 13 * m.2.2.2)), none] [.ref 0] _ i_104_8 rfl ?_
  refine hm_get (w := .ref 3) 12 rfl i_104_9 (cb rfl) kk_0 rfl ?_
  refine wp_s 13 [some (.ref 0), some (.ref (406 + 13 * m.2.2.2)), none] [.ref (406 + 13 * m.2.2.2), .ref 3] _ i_104_12 rfl ?_
  obtain ⟨z_3, q_4, hd⟩ := dk_bind hd
  refine wp_callV 16 rfl i_104_13 (by decide) rfl (vs := [.ref (406 + 13 * m.2.2.2)]) (rest := []) rfl rfl rfl (hm_isO (cb rfl) kk_3) (y := m_60) rfl (Nat.le_of_ble_eq_true rfl) (d_60_ok (S := S) (d := e) (by omega) q_4) ?_
  rintro v_5 h_6 ⟨rfl, rfl⟩
  refine wp_s 17 [some (.ref 0), some (.ref (406 + 13 * m.2.2.2)), some (.int z_3.1)] [] _ i_104_16 rfl ?_
  refine wp_s 18 [some (.ref 0), some (.ref (406 + 13 * m.2.2.2)), some (.int z_3.1)] [.ref 0] _ i_104_17 rfl ?_
  refine hm_get (w := .ref 1) 21 rfl i_104_18 (cb rfl) kk_0 rfl ?_
  refine wp_s 22 [some (.ref 0), some (.ref (406 + 13 * m.2.2.2)), some (.int z_3.1)] [.int (0 : Int32), .ref 1] _ i_104_21 rfl ?_
  obtain ⟨mm_7, q_8, hd⟩ := dk_bind hd
  refine hm_put 25 rfl i_104_22 (cb rfl) kk_1 (fun _ _ => rfl) (fun _ _ => Nat.le_of_ble_eq_true rfl) rfl ?_
  rw [Option.some.inj q_8]
  refine wp_s 26 [some (.ref 0), some (.ref (406 + 13 * m.2.2.2)), some (.int z_3.1)] [.int z_3.1] _ i_104_25 rfl ?_
  refine wp_if_eq 34 29 rfl rfl i_104_26 (fun c_9 => ?_) (fun c_9 => ?_)
  · rw [if_pos c_9] at hd
    refine wp_s 35 [some (.ref 0), some (.ref (406 + 13 * m.2.2.2)), some (.int z_3.1)] [.ref 0] _ i_104_34 rfl ?_
    refine hm_get (w := .ref 5) 38 rfl i_104_35 (cb rfl) kk_0 rfl ?_
    refine wp_s 39 [some (.ref 0), some (.ref (406 + 13 * m.2.2.2)), some (.int z_3.1)] [.ref (406 + 13 * m.2.2.2), .ref 5] _ i_104_38 rfl ?_
    obtain ⟨z_10, q_11, hd⟩ := dk_bind hd
    refine wp_callV 42 rfl i_104_39 (by decide) rfl (vs := [.ref (406 + 13 * m.2.2.2)]) (rest := []) rfl rfl rfl (hm_isO (cb rfl) kk_5) (y := m_98) rfl (Nat.le_of_ble_eq_true rfl) (d_98_ok (S := S) (d := e) (by omega) q_11) ?_
    rintro v_12 h_13 ⟨rfl, rfl⟩
    refine wp_s 43 [some (.ref 0), some (.ref (406 + 13 * m.2.2.2)), some (.int z_3.1)] [.ref 0] _ i_104_42 rfl ?_
    refine hm_get (w := .ref 90) 46 rfl i_104_43 (cb rfl) kk_0 rfl ?_
    obtain ⟨z_14, q_15, hd⟩ := dk_bind hd
    refine wp_callV 49 rfl i_104_46 (by decide) rfl (vs := []) (rest := []) rfl rfl rfl (hm_isO (cb rfl) kk_90) (y := m_10) rfl (Nat.le_of_ble_eq_true rfl) (d_10_ok (S := S) (d := e) (by omega) q_15) ?_
    rintro v_16 h_17 ⟨rfl, rfl⟩
    refine wp_s 50 [some (.ref 0), some (.ref (406 + 13 * m.2.2.2)), some (.int z_3.1)] [.ref (406 + 13 * m.2.2.2)] _ i_104_49 rfl ?_
    obtain ⟨k_18, hd⟩ := dk_if hd
    refine hm_get (w := .int (z_14.1 (406 + 13 * m.2.2.2) 4)) 53 rfl i_104_50 (cO_iff k_18).1 (cO_iff k_18).2 rfl ?_
    obtain rfl := Option.some.inj hd
    exact wp_iret i_104_53 ⟨rfl, rfl⟩
  · rw [if_neg c_9] at hd
    refine wp_s 31 [some (.ref 0), some (.ref (406 + 13 * m.2.2.2)), some (.int z_3.1)] [.int (-2 : Int32)] _ i_104_29 rfl ?_
    refine wp_s 32 [some (.ref 0), some (.ref (406 + 13 * m.2.2.2)), some (.int z_3.1)] [.int z_3.1, .int (-2 : Int32)] _ i_104_31 rfl ?_
    refine wp_s 33 [some (.ref 0), some (.ref (406 + 13 * m.2.2.2)), some (.int z_3.1)] [.int ((-2 : Int32) - z_3.1)] _ i_104_32 rfl ?_
    obtain rfl := Option.some.inj hd
    exact wp_iret i_104_33 ⟨rfl, rfl⟩
set_option maxHeartbeats 4000000 in
set_option maxRecDepth 100000 in
theorem d_105_ok {X : aX} {S : rS} {g : Nat}  {m : cM} {zz : Int32 × cM} {d : Nat} (hdp : 80 ≤ d) (hd : d_105 g  m = some zz) : aWp X d 105 0 (aEntL [.ref 0] 2) [] (hr m S) (fun w h' => w = some (.int zz.1) ∧ h' = hr zz.2 S) := by
  unfold d_105 at hd
  refine wp_lv (l2 := [some (.ref 0), none]) rfl ?_
  obtain ⟨e, rfl⟩ : ∃ e, d = e + 1 := ⟨d - 1, by omega⟩
  refine wp_s 1 [some (.ref 0), none] [.ref 0] _ i_105_0 rfl ?_
  refine hm_get (w := .ref 32) 4 rfl i_105_1 (cb rfl) kk_0 rfl ?_
  refine hm_get (w := .int (m.1 32 2)) 7 rfl i_105_4 (cb rfl) kk_32 rfl ?_
  refine wp_s 9 [some (.ref 0), none] [.int (6 : Int32), .int (m.1 32 2)] _ i_105_7 rfl ?_
  refine wp_cmp_lt 14 12 rfl rfl i_105_9 (fun c_1 => ?_) (fun c_1 => ?_)
  · rw [if_pos c_1] at hd
    refine wp_s 15 [some (.ref 0), none] [.ref 0] _ i_105_14 rfl ?_
    refine hm_get (w := .ref 4) 18 rfl i_105_15 (cb rfl) kk_0 rfl ?_
    refine wp_s 19 [some (.ref 0), none] [.ref 0, .ref 4] _ i_105_18 rfl ?_
    refine hm_get (w := .ref 32) 22 rfl i_105_19 (cb rfl) kk_0 rfl ?_
    refine hm_get (w := .ref 33) 25 rfl i_105_22 (cb rfl) kk_32 rfl ?_
    refine wp_s 26 [some (.ref 0), none] [.ref 0, .ref 33, .ref 4] _ i_105_25 rfl ?_
    refine hm_get (w := .ref 32) 29 rfl i_105_26 (cb rfl) kk_0 rfl ?_
    refine hm_get (w := .int (m.1 32 2)) 32 rfl i_105_29 (cb rfl) kk_32 rfl ?_
    obtain ⟨k_2, hd⟩ := dk_if hd
    refine hm_aald (q := (35 + 6 * (m.1 32 2).toNatClampNeg)) 33 rfl i_105_32 (by decide) (cb rfl) kk_33 k_2 (cQ_33 k_2) ?_
    obtain ⟨z_3, q_4, hd⟩ := dk_bind hd
    refine wp_callV 36 rfl i_105_33 (by decide) rfl (vs := [.ref (35 + 6 * (m.1 32 2).toNatClampNeg)]) (rest := []) rfl rfl rfl (hm_isO (cb rfl) kk_4) (y := m_45) rfl (Nat.le_of_ble_eq_true rfl) (d_45_ok (S := S) (d := e) (by omega) q_4) ?_
    rintro v_5 h_6 ⟨rfl, rfl⟩
    refine wp_s 37 [some (.ref 0), some (.int z_3.1)] [] _ i_105_36 rfl ?_
    refine wp_s 38 [some (.ref 0), some (.int z_3.1)] [.ref 0] _ i_105_37 rfl ?_
    refine hm_get (w := .ref 1) 41 rfl i_105_38 (cb rfl) kk_0 rfl ?_
    refine wp_s 42 [some (.ref 0), some (.int z_3.1)] [.int (0 : Int32), .ref 1] _ i_105_41 rfl ?_
    obtain ⟨mm_7, q_8, hd⟩ := dk_bind hd
    refine hm_put 45 rfl i_105_42 (cb rfl) kk_1 (fun _ _ => rfl) (fun _ _ => Nat.le_of_ble_eq_true rfl) rfl ?_
    rw [Option.some.inj q_8]
    refine wp_s 46 [some (.ref 0), some (.int z_3.1)] [.int z_3.1] _ i_105_45 rfl ?_
    refine wp_if_eq 54 49 rfl rfl i_105_46 (fun c_9 => ?_) (fun c_9 => ?_)
    · rw [if_pos c_9] at hd
      refine wp_s 55 [some (.ref 0), some (.int z_3.1)] [.ref 0] _ i_105_54 rfl ?_
      refine hm_get (w := .ref 32) 58 rfl i_105_55 (cb rfl) kk_0 rfl ?_
      refine wp_s 59 [some (.ref 0), some (.int z_3.1)] [.ref 32, .ref 32] _ i_105_58 rfl ?_
      refine hm_get (w := .int (mm_7.1 32 2)) 62 rfl i_105_59 (cb rfl) kk_32 rfl ?_
      refine wp_s 63 [some (.ref 0), some (.int z_3.1)] [.int (1 : Int32), .int (mm_7.1 32 2), .ref 32] _ i_105_62 rfl ?_
      refine wp_s 64 [some (.ref 0), some (.int z_3.1)] [.int ((mm_7.1 32 2) + (1 : Int32)), .ref 32] _ i_105_63 rfl ?_
      obtain ⟨mm_10, q_11, hd⟩ := dk_bind hd
      refine hm_put 67 rfl i_105_64 (cb rfl) kk_32 (fun _ _ => rfl) (fun _ _ => Nat.le_of_ble_eq_true rfl) rfl ?_
      rw [Option.some.inj q_11]
      refine wp_s 68 [some (.ref 0), some (.int z_3.1)] [.ref 0] _ i_105_67 rfl ?_
      refine hm_get (w := .ref 32) 71 rfl i_105_68 (cb rfl) kk_0 rfl ?_
      refine hm_get (w := .int (mm_10.1 32 2)) 74 rfl i_105_71 (cb rfl) kk_32 rfl ?_
      refine wp_s 75 [some (.ref 0), some (.int z_3.1)] [.int (1 : Int32), .int (mm_10.1 32 2)] _ i_105_74 rfl ?_
      refine wp_s 76 [some (.ref 0), some (.int z_3.1)] [.int ((mm_10.1 32 2) - (1 : Int32))] _ i_105_75 rfl ?_
      obtain rfl := Option.some.inj hd
      exact wp_iret i_105_76 ⟨rfl, rfl⟩
    · rw [if_neg c_9] at hd
      refine wp_s 51 [some (.ref 0), some (.int z_3.1)] [.int (-2 : Int32)] _ i_105_49 rfl ?_
      refine wp_s 52 [some (.ref 0), some (.int z_3.1)] [.int z_3.1, .int (-2 : Int32)] _ i_105_51 rfl ?_
      refine wp_s 53 [some (.ref 0), some (.int z_3.1)] [.int ((-2 : Int32) - z_3.1)] _ i_105_52 rfl ?_
      obtain rfl := Option.some.inj hd
      exact wp_iret i_105_53 ⟨rfl, rfl⟩
  · rw [if_neg c_1] at hd
    refine wp_s 13 [some (.ref 0), none] [.int (-1 : Int32)] _ i_105_12 rfl ?_
    obtain rfl := Option.some.inj hd
    exact wp_iret i_105_13 ⟨rfl, rfl⟩
set_option maxHeartbeats 4000000 in
set_option maxRecDepth 100000 in
theorem d_106_ok {X : aX} {S : rS} {g : Nat} {x1 : Int32} {m : cM} {zz : Int32 × cM} {d : Nat} (hdp : 0 ≤ d) (hd : d_106 g x1 m = some zz) : aWp X d 106 0 (aEntL [.ref 0, .int x1] 3) [] (hr m S) (fun w h' => w = some (.int zz.1) ∧ h' = hr zz.2 S) := by
  unfold d_106 at hd
  refine wp_lv (l2 := [some (.ref 0), some (.int x1), none]) rfl ?_
  refine wp_s 1 [some (.ref 0), some (.int x1), none] [.int x1] _ i_106_0 rfl ?_
  refine wp_s 2 [some (.ref 0), some (.int x1), none] [.int (-1 : Int32), .int x1] _ i_106_1 rfl ?_
  refine wp_cmp_lt 16 5 rfl rfl i_106_2 (fun c_1 => ?_) (fun c_1 => ?_)
  · rw [if_pos c_1] at hd
    refine wp_s 18 [some (.ref 0), some (.int x1), none] [.int (-2 : Int32)] _ i_106_16 rfl ?_
    obtain rfl := Option.some.inj hd
    exact wp_iret i_106_18 ⟨rfl, rfl⟩
  · rw [if_neg c_1] at hd
    refine wp_s 6 [some (.ref 0), some (.int x1), none] [.int x1] _ i_106_5 rfl ?_
    refine wp_s 7 [some (.ref 0), some (.int x1), none] [.ref 0, .int x1] _ i_106_6 rfl ?_
    refine hm_get (w := .ref 32) 10 rfl i_106_7 (cb rfl) kk_0 rfl ?_
    refine hm_get (w := .int (m.1 32 2)) 13 rfl i_106_10 (cb rfl) kk_32 rfl ?_
    refine wp_cmp_lt 19 16 rfl rfl i_106_13 (fun c_2 => ?_) (fun c_2 => ?_)
    · rw [if_pos c_2] at hd
      refine wp_s 20 [some (.ref 0), some (.int x1), none] [.ref 0] _ i_106_19 rfl ?_
      refine hm_get (w := .ref 5) 23 rfl i_106_20 (cb rfl) kk_0 rfl ?_
      refine hm_get (w := .int (m.1 5 2)) 26 rfl i_106_23 (cb rfl) kk_5 rfl ?_
      refine wp_s 27 [some (.ref 0), some (.int x1), some (.int (m.1 5 2))] [] _ i_106_26 rfl ?_
      refine wp_s 28 [some (.ref 0), some (.int x1), some (.int (m.1 5 2))] [.ref 0] _ i_106_27 rfl ?_
      refine hm_get (w := .ref 5) 31 rfl i_106_28 (cb rfl) kk_0 rfl ?_
      refine wp_s 32 [some (.ref 0), some (.int x1), some (.int (m.1 5 2))] [.int x1, .ref 5] _ i_106_31 rfl ?_
      obtain ⟨mm_3, q_4, hd⟩ := dk_bind hd
      refine hm_put 35 rfl i_106_32 (cb rfl) kk_5 (fun _ _ => rfl) (fun _ _ => Nat.le_of_ble_eq_true rfl) rfl ?_
      rw [Option.some.inj q_4]
      refine wp_s 36 [some (.ref 0), some (.int x1), some (.int (m.1 5 2))] [.int (m.1 5 2)] _ i_106_35 rfl ?_
      obtain rfl := Option.some.inj hd
      exact wp_iret i_106_36 ⟨rfl, rfl⟩
    · rw [if_neg c_2] at hd
      refine wp_s 18 [some (.ref 0), some (.int x1), none] [.int (-2 : Int32)] _ i_106_16 rfl ?_
      obtain rfl := Option.some.inj hd
      exact wp_iret i_106_18 ⟨rfl, rfl⟩
set_option maxHeartbeats 4000000 in
set_option maxRecDepth 100000 in
theorem d_107_ok {X : aX} {S : rS} {g : Nat} {x1 : Int32} {x2 : Int32} {m : cM} {zz : Int32 × cM} {d : Nat} (hdp : 6 ≤ d) (hd : d_107 g x1 x2 m = some zz) : aWp X d 107 0 (aEntL [.ref 0, .int x1, .int x2] 4) [] (hr m S) (fun w h' => w = some (.int zz.1) ∧ h' = hr zz.2 S) := by
  unfold d_107 at hd
  refine wp_lv (l2 := [some (.ref 0), some (.int x1), some (.int x2), none]) rfl ?_
  obtain ⟨e, rfl⟩ : ∃ e, d = e + 1 := ⟨d - 1, by omega⟩
  refine wp_s 1 [some (.ref 0), some (.int x1), some (.int x2), none] [.ref 0] _ i_107_0 rfl ?_
  refine hm_get (w := .ref 5) 4 rfl i_107_1 (cb rfl) kk_0 rfl ?_
  obtain ⟨k_1, hd⟩ := dk_if hd
  refine hm_dyn 7 rfl i_107_4 (cb rfl) kk_5 (fun _ _ => rfl) (kd_ne0 (cO_iff k_1).2 (by decide)) ?_
  refine wp_s 8 [some (.ref 0), some (.int x1), some (.int x2), none] [.int x1, .ref (m.2.2.1 5)] _ i_107_7 rfl ?_
  obtain ⟨z_2, q_3, hd⟩ := dk_bind hd
  refine wp_callV 11 rfl i_107_8 (by decide) rfl (vs := [.int x1]) (rest := []) rfl rfl rfl (hm_isO (cO_iff k_1).1 (cO_iff k_1).2) (y := m_55) rfl (Nat.le_of_ble_eq_true rfl) (d_55_ok (S := S) (d := e) (by omega) q_3) ?_
  rintro v_4 h_5 ⟨rfl, rfl⟩
  refine wp_if_ne 16 14 rfl rfl i_107_11 (fun c_6 => ?_) (fun c_6 => ?_)
  · rw [if_pos c_6] at hd
    refine wp_s 17 [some (.ref 0), some (.int x1), some (.int x2), none] [.ref 0] _ i_107_16 rfl ?_
    refine hm_get (w := .ref 5) 20 rfl i_107_17 (cb rfl) kk_0 rfl ?_
    refine hm_get (w := .ref 19) 23 rfl i_107_20 (cb rfl) kk_5 rfl ?_
    refine wp_s 24 [some (.ref 0), some (.int x1), some (.int x2), some (.ref 19)] [] _ i_107_23 rfl ?_
    refine wp_s 25 [some (.ref 0), some (.int x1), some (.int x2), some (.ref 19)] [.int x2] _ i_107_24 rfl ?_
    by_cases c_7 : x2 = (0 : Int32)
    · rw [if_pos c_7] at hd
      refine wp_tswC (j := 0) 72 i_107_25 (by rw [c_7]; decide) (by decide) rfl rfl ?_
      refine wp_s 73 [some (.ref 0), some (.int x1), some (.int x2), some (.ref 19)] [.ref 0] _ i_107_72 rfl ?_
      refine hm_get (w := .ref 32) 76 rfl i_107_73 (cb rfl) kk_0 rfl ?_
      refine wp_s 77 [some (.ref 0), some (.int x1), some (.int x2), some (.ref 19)] [.int x1, .ref 32] _ i_107_76 rfl ?_
      obtain ⟨z_8, q_9, hd⟩ := dk_bind hd
      refine wp_callV 80 rfl i_107_77 (by decide) rfl (vs := [.int x1]) (rest := []) rfl rfl rfl (hm_isO (cb rfl) kk_32) (y := m_91) rfl (Nat.le_of_ble_eq_true rfl) (d_91_ok (S := S) (d := e) (by omega) q_9) ?_
      rintro v_10 h_11 ⟨rfl, rfl⟩
      obtain rfl := Option.some.inj hd
      exact wp_iret i_107_80 ⟨rfl, rfl⟩
    rw [if_neg c_7] at hd
    by_cases c_12 : x2 = (1 : Int32)
    · rw [if_pos c_12] at hd
      refine wp_tswC (j := 1) 81 i_107_25 (by rw [c_12]; decide) (by decide) rfl rfl ?_
      refine wp_s 82 [some (.ref 0), some (.int x1), some (.int x2), some (.ref 19)] [.ref 19] _ i_107_81 rfl ?_
      refine hm_get (w := .ref 21) 85 rfl i_107_82 (cb rfl) kk_19 rfl ?_
      refine wp_s 86 [some (.ref 0), some (.int x1), some (.int x2), some (.ref 19)] [.int x1, .ref 21] _ i_107_85 rfl ?_
      obtain ⟨k_13, hd⟩ := dk_if hd
      refine hm_iald 87 rfl i_107_86 (cb rfl) kk_21 k_13 ?_
      obtain rfl := Option.some.inj hd
      exact wp_iret i_107_87 ⟨rfl, rfl⟩
    rw [if_neg c_12] at hd
    by_cases c_14 : x2 = (2 : Int32)
    · rw [if_pos c_14] at hd
      refine wp_tswC (j := 2) 88 i_107_25 (by rw [c_14]; decide) (by decide) rfl rfl ?_
      refine wp_s 89 [some (.ref 0), some (.int x1), some (.int x2), some (.ref 19)] [.ref 19] _ i_107_88 rfl ?_
      refine hm_get (w := .ref 20) 92 rfl i_107_89 (cb rfl) kk_19 rfl ?_
      refine wp_s 93 [some (.ref 0), some (.int x1), some (.int x2), some (.ref 19)] [.int x1, .ref 20] _ i_107_92 rfl ?_
      obtain ⟨k_15, hd⟩ := dk_if hd
      refine hm_iald 94 rfl i_107_93 (cb rfl) kk_20 k_15 ?_
      obtain rfl := Option.some.inj hd
      exact wp_iret i_107_94 ⟨rfl, rfl⟩
    rw [if_neg c_14] at hd
    by_cases c_16 : x2 = (3 : Int32)
    · rw [if_pos c_16] at hd
      refine wp_tswC (j := 3) 95 i_107_25 (by rw [c_16]; decide) (by decide) rfl rfl ?_
      refine wp_s 96 [some (.ref 0), some (.int x1), some (.int x2), some (.ref 19)] [.ref 19] _ i_107_95 rfl ?_
      refine hm_get (w := .ref 22) 99 rfl i_107_96 (cb rfl) kk_19 rfl ?_
      refine wp_s 100 [some (.ref 0), some (.int x1), some (.int x2), some (.ref 19)] [.int x1, .ref 22] _ i_107_99 rfl ?_
      obtain ⟨k_17, hd⟩ := dk_if hd
      refine hm_iald 101 rfl i_107_100 (cb rfl) kk_22 k_17 ?_
      obtain rfl := Option.some.inj hd
      exact wp_iret i_107_101 ⟨rfl, rfl⟩
    rw [if_neg c_16] at hd
    by_cases c_18 : x2 = (4 : Int32)
    · rw [if_pos c_18] at hd
      refine wp_tswC (j := 4) 102 i_107_25 (by rw [c_18]; decide) (by decide) rfl rfl ?_
      refine wp_s 103 [some (.ref 0), some (.int x1), some (.int x2), some (.ref 19)] [.ref 19] _ i_107_102 rfl ?_
      refine hm_get (w := .ref 23) 106 rfl i_107_103 (cb rfl) kk_19 rfl ?_
      refine wp_s 107 [some (.ref 0), some (.int x1), some (.int x2), some (.ref 19)] [.int x1, .ref 23] _ i_107_106 rfl ?_
      obtain ⟨k_19, hd⟩ := dk_if hd
      refine hm_iald 108 rfl i_107_107 (cb rfl) kk_23 k_19 ?_
      obtain rfl := Option.some.inj hd
      exact wp_iret i_107_108 ⟨rfl, rfl⟩
    rw [if_neg c_18] at hd
    by_cases c_20 : x2 = (5 : Int32)
    · rw [if_pos c_20] at hd
      refine wp_tswC (j := 5) 109 i_107_25 (by rw [c_20]; decide) (by decide) rfl rfl ?_
      refine wp_s 110 [some (.ref 0), some (.int x1), some (.int x2), some (.ref 19)] [.ref 19] _ i_107_109 rfl ?_
      refine hm_get (w := .ref 24) 113 rfl i_107_110 (cb rfl) kk_19 rfl ?_
      refine wp_s 114 [some (.ref 0), some (.int x1), some (.int x2), some (.ref 19)] [.int x1, .ref 24] _ i_107_113 rfl ?_
      obtain ⟨k_21, hd⟩ := dk_if hd
      refine hm_iald 115 rfl i_107_114 (cb rfl) kk_24 k_21 ?_
      obtain rfl := Option.some.inj hd
      exact wp_iret i_107_115 ⟨rfl, rfl⟩
    rw [if_neg c_20] at hd
    by_cases c_22 : x2 = (6 : Int32)
    · rw [if_pos c_22] at hd
      refine wp_tswC (j := 6) 116 i_107_25 (by rw [c_22]; decide) (by decide) rfl rfl ?_
      refine wp_s 117 [some (.ref 0), some (.int x1), some (.int x2), some (.ref 19)] [.ref 0] _ i_107_116 rfl ?_
      refine hm_get (w := .ref 5) 120 rfl i_107_117 (cb rfl) kk_0 rfl ?_
      refine hm_dyn 123 rfl i_107_120 (cb rfl) kk_5 (fun _ _ => rfl) (kd_ne0 (cO_iff k_1).2 (by decide)) ?_
      refine hm_get (w := .ref ((m.2.2.1 5) + 1)) 126 rfl i_107_123 (cO_iff k_1).1 (cO_iff k_1).2 rfl ?_
      refine wp_s 127 [some (.ref 0), some (.int x1), some (.int x2), some (.ref 19)] [.int x1, .ref ((m.2.2.1 5) + 1)] _ i_107_126 rfl ?_
      obtain ⟨k_23, hd⟩ := dk_if hd
      refine hm_iald 128 rfl i_107_127 (kb_5_1 (cO_iff k_1).1 (cO_iff k_1).2) (kr_5_1 (cO_iff k_1).2) k_23 ?_
      obtain rfl := Option.some.inj hd
      exact wp_iret i_107_128 ⟨rfl, rfl⟩
    rw [if_neg c_22] at hd
    by_cases c_24 : x2 = (7 : Int32)
    · rw [if_pos c_24] at hd
      refine wp_tswC (j := 7) 129 i_107_25 (by rw [c_24]; decide) (by decide) rfl rfl ?_
      refine wp_s 130 [some (.ref 0), some (.int x1), some (.int x2), some (.ref 19)] [.ref 0] _ i_107_129 rfl ?_
      refine hm_get (w := .ref 5) 133 rfl i_107_130 (cb rfl) kk_0 rfl ?_
      refine hm_dyn 136 rfl i_107_133 (cb rfl) kk_5 (fun _ _ => rfl) (kd_ne0 (cO_iff k_1).2 (by decide)) ?_
      refine hm_get (w := .ref ((m.2.2.1 5) + 2)) 139 rfl i_107_136 (cO_iff k_1).1 (cO_iff k_1).2 rfl ?_
      refine wp_s 140 [some (.ref 0), some (.int x1), some (.int x2), some (.ref 19)] [.int x1, .ref ((m.2.2.1 5) + 2)] _ i_107_139 rfl ?_
      obtain ⟨k_25, hd⟩ := dk_if hd
      refine hm_iald 141 rfl i_107_140 (kb_5_2 (cO_iff k_1).1 (cO_iff k_1).2) (kr_5_2 (cO_iff k_1).2) k_25 ?_
      obtain rfl := Option.some.inj hd
      exact wp_iret i_107_141 ⟨rfl, rfl⟩
    rw [if_neg c_24] at hd
    have o_26 : (x2).toInt < (0 : Int) ∨ (7 : Int) < (x2).toInt := by
      have e_0 := lv_neT c_7 (a := 0) (by decide)
      have e_1 := lv_neT c_12 (a := 1) (by decide)
      have e_2 := lv_neT c_14 (a := 2) (by decide)
      have e_3 := lv_neT c_16 (a := 3) (by decide)
      have e_4 := lv_neT c_18 (a := 4) (by decide)
      have e_5 := lv_neT c_20 (a := 5) (by decide)
      have e_6 := lv_neT c_22 (a := 6) (by decide)
      have e_7 := lv_neT c_24 (a := 7) (by decide)
      omega
    refine wp_tswD 142 i_107_25 o_26 rfl ?_
    refine wp_s 143 [some (.ref 0), some (.int x1), some (.int x2), some (.ref 19)] [.int (-1 : Int32)] _ i_107_142 rfl ?_
    obtain rfl := Option.some.inj hd
    exact wp_iret i_107_143 ⟨rfl, rfl⟩
  · rw [if_neg c_6] at hd
    refine wp_s 15 [some (.ref 0), some (.int x1), some (.int x2), none] [.int (-1 : Int32)] _ i_107_14 rfl ?_
    obtain rfl := Option.some.inj hd
    exact wp_iret i_107_15 ⟨rfl, rfl⟩
set_option maxHeartbeats 4000000 in
set_option maxRecDepth 100000 in
theorem d_108_ok {X : aX} {S : rS} {g : Nat} {x1 : Int32} {x2 : Int32} {m : cM} {zz : Int32} {d : Nat} (hdp : 1 ≤ d) (hd : d_108 g x1 x2 m = some zz) : aWp X d 108 0 (aEntL [.ref 0, .int x1, .int x2] 4) [] (hr m S) (fun w h' => w = some (.int zz) ∧ h' = hr m S) := by
  unfold d_108 at hd
  refine wp_lv (l2 := [some (.ref 0), some (.int x1), some (.int x2), none]) rfl ?_
  obtain ⟨e, rfl⟩ : ∃ e, d = e + 1 := ⟨d - 1, by omega⟩
  refine wp_s 1 [some (.ref 0), some (.int x1), some (.int x2), none] [.ref 0] _ i_108_0 rfl ?_
  refine hm_get (w := .ref 5) 4 rfl i_108_1 (cb rfl) kk_0 rfl ?_
  obtain ⟨k_1, hd⟩ := dk_if hd
  refine hm_dyn 7 rfl i_108_4 (cb rfl) kk_5 (fun _ _ => rfl) (kd_ne0 (cO_iff k_1).2 (by decide)) ?_
  refine wp_s 8 [some (.ref 0), some (.int x1), some (.int x2), some (.ref (m.2.2.1 5))] [] _ i_108_7 rfl ?_
  refine wp_s 9 [some (.ref 0), some (.int x1), some (.int x2), some (.ref (m.2.2.1 5))] [.ref (m.2.2.1 5)] _ i_108_8 rfl ?_
  refine wp_s 10 [some (.ref 0), some (.int x1), some (.int x2), some (.ref (m.2.2.1 5))] [.int x1, .ref (m.2.2.1 5)] _ i_108_9 rfl ?_
  obtain ⟨z_2, q_3, hd⟩ := dk_bind hd
  refine wp_callV 13 rfl i_108_10 (by decide) rfl (vs := [.int x1]) (rest := []) rfl rfl rfl (hm_isO (cO_iff k_1).1 (cO_iff k_1).2) (y := m_56) rfl (Nat.le_of_ble_eq_true rfl) (d_56_ok (S := S) (d := e) (by omega) q_3) ?_
  rintro v_4 h_5 ⟨rfl, rfl⟩
  refine wp_if_ne 19 16 rfl rfl i_108_13 (fun c_6 => ?_) (fun c_6 => ?_)
  · rw [if_pos c_6] at hd
    refine wp_s 20 [some (.ref 0), some (.int x1), some (.int x2), some (.ref (m.2.2.1 5))] [.int x2] _ i_108_19 rfl ?_
    by_cases c_7 : x2 = (0 : Int32)
    · rw [if_pos c_7] at hd
      refine wp_tswC (j := 0) 60 i_108_20 (by rw [c_7]; decide) (by decide) rfl rfl ?_
      refine wp_s 61 [some (.ref 0), some (.int x1), some (.int x2), some (.ref (m.2.2.1 5))] [.ref (m.2.2.1 5)] _ i_108_60 rfl ?_
      refine hm_get (w := .ref ((m.2.2.1 5) + 9)) 64 rfl i_108_61 (cO_iff k_1).1 (cO_iff k_1).2 rfl ?_
      refine wp_s 65 [some (.ref 0), some (.int x1), some (.int x2), some (.ref (m.2.2.1 5))] [.int x1, .ref ((m.2.2.1 5) + 9)] _ i_108_64 rfl ?_
      obtain ⟨k_8, hd⟩ := dk_if hd
      refine hm_iald 66 rfl i_108_65 (kb_5_9 (cO_iff k_1).1 (cO_iff k_1).2) (kr_5_9 (cO_iff k_1).2) k_8 ?_
      refine wp_s 68 [some (.ref 0), some (.int x1), some (.int x2), some (.ref (m.2.2.1 5))] [.int (10 : Int32), .int (m.1 ((m.2.2.1 5) + 9) x1.toNatClampNeg)] _ i_108_66 rfl ?_
      refine wp_s 69 [some (.ref 0), some (.int x1), some (.int x2), some (.ref (m.2.2.1 5))] [.int ((m.1 ((m.2.2.1 5) + 9) x1.toNatClampNeg) - (10 : Int32))] _ i_108_68 rfl ?_
      obtain rfl := Option.some.inj hd
      exact wp_iret i_108_69 ⟨rfl, rfl⟩
    rw [if_neg c_7] at hd
    by_cases c_9 : x2 = (1 : Int32)
    · rw [if_pos c_9] at hd
      refine wp_tswC (j := 1) 70 i_108_20 (by rw [c_9]; decide) (by decide) rfl rfl ?_
      refine wp_s 71 [some (.ref 0), some (.int x1), some (.int x2), some (.ref (m.2.2.1 5))] [.ref (m.2.2.1 5)] _ i_108_70 rfl ?_
      refine hm_get (w := .ref ((m.2.2.1 5) + 10)) 74 rfl i_108_71 (cO_iff k_1).1 (cO_iff k_1).2 rfl ?_
      refine wp_s 75 [some (.ref 0), some (.int x1), some (.int x2), some (.ref (m.2.2.1 5))] [.int x1, .ref ((m.2.2.1 5) + 10)] _ i_108_74 rfl ?_
      obtain ⟨k_10, hd⟩ := dk_if hd
      refine hm_iald 76 rfl i_108_75 (kb_5_10 (cO_iff k_1).1 (cO_iff k_1).2) (kr_5_10 (cO_iff k_1).2) k_10 ?_
      obtain rfl := Option.some.inj hd
      exact wp_iret i_108_76 ⟨rfl, rfl⟩
    rw [if_neg c_9] at hd
    by_cases c_11 : x2 = (2 : Int32)
    · rw [if_pos c_11] at hd
      refine wp_tswC (j := 2) 77 i_108_20 (by rw [c_11]; decide) (by decide) rfl rfl ?_
      refine wp_s 78 [some (.ref 0), some (.int x1), some (.int x2), some (.ref (m.2.2.1 5))] [.ref (m.2.2.1 5)] _ i_108_77 rfl ?_
      refine hm_get (w := .ref ((m.2.2.1 5) + 11)) 81 rfl i_108_78 (cO_iff k_1).1 (cO_iff k_1).2 rfl ?_
      refine wp_s 82 [some (.ref 0), some (.int x1), some (.int x2), some (.ref (m.2.2.1 5))] [.int x1, .ref ((m.2.2.1 5) + 11)] _ i_108_81 rfl ?_
      obtain ⟨k_12, hd⟩ := dk_if hd
      refine hm_iald 83 rfl i_108_82 (kb_5_11 (cO_iff k_1).1 (cO_iff k_1).2) (kr_5_11 (cO_iff k_1).2) k_12 ?_
      obtain rfl := Option.some.inj hd
      exact wp_iret i_108_83 ⟨rfl, rfl⟩
    rw [if_neg c_11] at hd
    by_cases c_13 : x2 = (3 : Int32)
    · rw [if_pos c_13] at hd
      refine wp_tswC (j := 3) 84 i_108_20 (by rw [c_13]; decide) (by decide) rfl rfl ?_
      refine wp_s 85 [some (.ref 0), some (.int x1), some (.int x2), some (.ref (m.2.2.1 5))] [.ref 0] _ i_108_84 rfl ?_
      refine hm_get (w := .ref 5) 88 rfl i_108_85 (cb rfl) kk_0 rfl ?_
      refine hm_get (w := .ref 19) 91 rfl i_108_88 (cb rfl) kk_5 rfl ?_
      refine wp_s 92 [some (.ref 0), some (.int x1), some (.int x2), some (.ref (m.2.2.1 5))] [.int x1, .ref 19] _ i_108_91 rfl ?_
      obtain ⟨z_14, q_15, hd⟩ := dk_bind hd
      refine wp_callV 95 rfl i_108_92 (by decide) rfl (vs := [.int x1]) (rest := []) rfl rfl rfl (hm_isO (cb rfl) kk_19) (y := m_76) rfl (Nat.le_of_ble_eq_true rfl) (d_76_ok (S := S) (d := e) (by omega) q_15) ?_
      rintro v_16 h_17 ⟨rfl, rfl⟩
      obtain rfl := Option.some.inj hd
      exact wp_iret i_108_95 ⟨rfl, rfl⟩
    rw [if_neg c_13] at hd
    by_cases c_18 : x2 = (4 : Int32)
    · rw [if_pos c_18] at hd
      refine wp_tswC (j := 4) 96 i_108_20 (by rw [c_18]; decide) (by decide) rfl rfl ?_
      refine wp_s 97 [some (.ref 0), some (.int x1), some (.int x2), some (.ref (m.2.2.1 5))] [.ref 0] _ i_108_96 rfl ?_
      refine hm_get (w := .ref 5) 100 rfl i_108_97 (cb rfl) kk_0 rfl ?_
      refine hm_get (w := .ref 19) 103 rfl i_108_100 (cb rfl) kk_5 rfl ?_
      refine wp_s 104 [some (.ref 0), some (.int x1), some (.int x2), some (.ref (m.2.2.1 5))] [.int x1, .ref 19] _ i_108_103 rfl ?_
      obtain ⟨z_19, q_20, hd⟩ := dk_bind hd
      refine wp_callV 107 rfl i_108_104 (by decide) rfl (vs := [.int x1]) (rest := []) rfl rfl rfl (hm_isO (cb rfl) kk_19) (y := m_77) rfl (Nat.le_of_ble_eq_true rfl) (d_77_ok (S := S) (d := e) (by omega) q_20) ?_
      rintro v_21 h_22 ⟨rfl, rfl⟩
      refine wp_if_eq 114 110 rfl rfl i_108_107 (fun c_23 => ?_) (fun c_23 => ?_)
      · rw [if_pos c_23] at hd
        refine wp_s 115 [some (.ref 0), some (.int x1), some (.int x2), some (.ref (m.2.2.1 5))] [.int (0 : Int32)] _ i_108_114 rfl ?_
        obtain rfl := Option.some.inj hd
        exact wp_iret i_108_115 ⟨rfl, rfl⟩
      · rw [if_neg c_23] at hd
        refine wp_s 111 [some (.ref 0), some (.int x1), some (.int x2), some (.ref (m.2.2.1 5))] [.int (1 : Int32)] _ i_108_110 rfl ?_
        refine wp_s 115 [some (.ref 0), some (.int x1), some (.int x2), some (.ref (m.2.2.1 5))] [.int (1 : Int32)] _ i_108_111 rfl ?_
        obtain rfl := Option.some.inj hd
        exact wp_iret i_108_115 ⟨rfl, rfl⟩
    rw [if_neg c_18] at hd
    by_cases c_24 : x2 = (5 : Int32)
    · rw [if_pos c_24] at hd
      refine wp_tswC (j := 5) 116 i_108_20 (by rw [c_24]; decide) (by decide) rfl rfl ?_
      refine wp_s 117 [some (.ref 0), some (.int x1), some (.int x2), some (.ref (m.2.2.1 5))] [.ref (m.2.2.1 5)] _ i_108_116 rfl ?_
      refine hm_get (w := .ref ((m.2.2.1 5) + 12)) 120 rfl i_108_117 (cO_iff k_1).1 (cO_iff k_1).2 rfl ?_
      refine wp_s 121 [some (.ref 0), some (.int x1), some (.int x2), some (.ref (m.2.2.1 5))] [.int x1, .ref ((m.2.2.1 5) + 12)] _ i_108_120 rfl ?_
      obtain ⟨k_25, hd⟩ := dk_if hd
      refine hm_iald 122 rfl i_108_121 (kb_5_12 (cO_iff k_1).1 (cO_iff k_1).2) (kr_5_12 (cO_iff k_1).2) k_25 ?_
      obtain rfl := Option.some.inj hd
      exact wp_iret i_108_122 ⟨rfl, rfl⟩
    rw [if_neg c_24] at hd
    have o_26 : (x2).toInt < (0 : Int) ∨ (5 : Int) < (x2).toInt := by
      have e_0 := lv_neT c_7 (a := 0) (by decide)
      have e_1 := lv_neT c_9 (a := 1) (by decide)
      have e_2 := lv_neT c_11 (a := 2) (by decide)
      have e_3 := lv_neT c_13 (a := 3) (by decide)
      have e_4 := lv_neT c_18 (a := 4) (by decide)
      have e_5 := lv_neT c_24 (a := 5) (by decide)
      omega
    refine wp_tswD 123 i_108_20 o_26 rfl ?_
    refine wp_s 125 [some (.ref 0), some (.int x1), some (.int x2), some (.ref (m.2.2.1 5))] [.int (-2 : Int32)] _ i_108_123 rfl ?_
    obtain rfl := Option.some.inj hd
    exact wp_iret i_108_125 ⟨rfl, rfl⟩
  · rw [if_neg c_6] at hd
    refine wp_s 18 [some (.ref 0), some (.int x1), some (.int x2), some (.ref (m.2.2.1 5))] [.int (-2 : Int32)] _ i_108_16 rfl ?_
    obtain rfl := Option.some.inj hd
    exact wp_iret i_108_18 ⟨rfl, rfl⟩
set_option maxHeartbeats 4000000 in
set_option maxRecDepth 100000 in
theorem d_109_ok {X : aX} {S : rS} {g : Nat} {x1 : Int32} {x2 : Int32} {m : cM} {zz : Int32} {d : Nat} (hdp : 0 ≤ d) (hd : d_109 g x1 x2 m = some zz) : aWp X d 109 0 (aEntL [.ref 0, .int x1, .int x2] 3) [] (hr m S) (fun w h' => w = some (.int zz) ∧ h' = hr m S) := by
  unfold d_109 at hd
  refine wp_lv (l2 := [some (.ref 0), some (.int x1), some (.int x2)]) rfl ?_
  refine wp_s 1 [some (.ref 0), some (.int x1), some (.int x2)] [.int x1] _ i_109_0 rfl ?_
  refine wp_if_lt 27 4 rfl rfl i_109_1 (fun c_1 => ?_) (fun c_1 => ?_)
  · rw [if_pos c_1] at hd
    refine wp_s 28 [some (.ref 0), some (.int x1), some (.int x2)] [.int (-1 : Int32)] _ i_109_27 rfl ?_
    obtain rfl := Option.some.inj hd
    exact wp_iret i_109_28 ⟨rfl, rfl⟩
  · rw [if_neg c_1] at hd
    refine wp_s 5 [some (.ref 0), some (.int x1), some (.int x2)] [.int x1] _ i_109_4 rfl ?_
    refine wp_s 6 [some (.ref 0), some (.int x1), some (.int x2)] [.ref 0, .int x1] _ i_109_5 rfl ?_
    refine hm_get (w := .ref 5) 9 rfl i_109_6 (cb rfl) kk_0 rfl ?_
    obtain ⟨k_2, hd⟩ := dk_if hd
    refine hm_dyn 12 rfl i_109_9 (cb rfl) kk_5 (fun _ _ => rfl) (kd_ne0 (cO_iff k_2).2 (by decide)) ?_
    refine hm_get (w := .int (m.1 (m.2.2.1 5) 8)) 15 rfl i_109_12 (cO_iff k_2).1 (cO_iff k_2).2 rfl ?_
    refine wp_cmp_ge 27 18 rfl rfl i_109_15 (fun c_3 => ?_) (fun c_3 => ?_)
    · rw [if_pos c_3] at hd
      refine wp_s 28 [some (.ref 0), some (.int x1), some (.int x2)] [.int (-1 : Int32)] _ i_109_27 rfl ?_
      obtain rfl := Option.some.inj hd
      exact wp_iret i_109_28 ⟨rfl, rfl⟩
    · rw [if_neg c_3] at hd
      refine wp_s 19 [some (.ref 0), some (.int x1), some (.int x2)] [.int x2] _ i_109_18 rfl ?_
      refine wp_if_lt 27 22 rfl rfl i_109_19 (fun c_4 => ?_) (fun c_4 => ?_)
      · rw [if_pos c_4] at hd
        refine wp_s 28 [some (.ref 0), some (.int x1), some (.int x2)] [.int (-1 : Int32)] _ i_109_27 rfl ?_
        obtain rfl := Option.some.inj hd
        exact wp_iret i_109_28 ⟨rfl, rfl⟩
      · rw [if_neg c_4] at hd
        refine wp_s 23 [some (.ref 0), some (.int x1), some (.int x2)] [.int x2] _ i_109_22 rfl ?_
        refine wp_s 24 [some (.ref 0), some (.int x1), some (.int x2)] [.int (1 : Int32), .int x2] _ i_109_23 rfl ?_
        refine wp_cmp_le 29 27 rfl rfl i_109_24 (fun c_5 => ?_) (fun c_5 => ?_)
        · rw [if_pos c_5] at hd
          refine wp_s 30 [some (.ref 0), some (.int x1), some (.int x2)] [.int x2] _ i_109_29 rfl ?_
          refine wp_if_ne 48 33 rfl rfl i_109_30 (fun c_6 => ?_) (fun c_6 => ?_)
          · rw [if_pos c_6] at hd
            refine wp_s 49 [some (.ref 0), some (.int x1), some (.int x2)] [.ref 0] _ i_109_48 rfl ?_
            refine hm_get (w := .ref 5) 52 rfl i_109_49 (cb rfl) kk_0 rfl ?_
            refine hm_dyn 55 rfl i_109_52 (cb rfl) kk_5 (fun _ _ => rfl) (kd_ne0 (cO_iff k_2).2 (by decide)) ?_
            refine hm_get (w := .ref ((m.2.2.1 5) + 5)) 58 rfl i_109_55 (cO_iff k_2).1 (cO_iff k_2).2 rfl ?_
            refine wp_s 59 [some (.ref 0), some (.int x1), some (.int x2)] [.int x1, .ref ((m.2.2.1 5) + 5)] _ i_109_58 rfl ?_
            obtain ⟨k_7, hd⟩ := dk_if hd
            refine hm_iald 60 rfl i_109_59 (kb_5_5 (cO_iff k_2).1 (cO_iff k_2).2) (kr_5_5 (cO_iff k_2).2) k_7 ?_
            obtain rfl := Option.some.inj hd
            exact wp_iret i_109_60 ⟨rfl, rfl⟩
          · rw [if_neg c_6] at hd
            refine wp_s 34 [some (.ref 0), some (.int x1), some (.int x2)] [.ref 0] _ i_109_33 rfl ?_
            refine hm_get (w := .ref 5) 37 rfl i_109_34 (cb rfl) kk_0 rfl ?_
            refine hm_dyn 40 rfl i_109_37 (cb rfl) kk_5 (fun _ _ => rfl) (kd_ne0 (cO_iff k_2).2 (by decide)) ?_
            refine hm_get (w := .ref ((m.2.2.1 5) + 4)) 43 rfl i_109_40 (cO_iff k_2).1 (cO_iff k_2).2 rfl ?_
            refine wp_s 44 [some (.ref 0), some (.int x1), some (.int x2)] [.int x1, .ref ((m.2.2.1 5) + 4)] _ i_109_43 rfl ?_
            obtain ⟨k_8, hd⟩ := dk_if hd
            refine hm_iald 45 rfl i_109_44 (kb_5_4 (cO_iff k_2).1 (cO_iff k_2).2) (kr_5_4 (cO_iff k_2).2) k_8 ?_
            refine wp_s 60 [some (.ref 0), some (.int x1), some (.int x2)] [.int (m.1 ((m.2.2.1 5) + 4) x1.toNatClampNeg)] _ i_109_45 rfl ?_
            obtain rfl := Option.some.inj hd
            exact wp_iret i_109_60 ⟨rfl, rfl⟩
        · rw [if_neg c_5] at hd
          refine wp_s 28 [some (.ref 0), some (.int x1), some (.int x2)] [.int (-1 : Int32)] _ i_109_27 rfl ?_
          obtain rfl := Option.some.inj hd
          exact wp_iret i_109_28 ⟨rfl, rfl⟩
set_option maxHeartbeats 4000000 in
set_option maxRecDepth 100000 in
theorem d_110_ok {X : aX} {S : rS} {g : Nat} {x1 : Int32} {x2 : Int32} {x3 : Int32} {m : cM} {zz : Int32 × cM} {d : Nat} (hdp : 4 ≤ d) (hd : d_110 g x1 x2 x3 m = some zz) : aWp X d 110 0 (aEntL [.ref 0, .int x1, .int x2, .int x3] 4) [] (hr m S) (fun w h' => w = some (.int zz.1) ∧ h' = hr zz.2 S) := by
  unfold d_110 at hd
  refine wp_lv (l2 := [some (.ref 0), some (.int x1), some (.int x2), some (.int x3)]) rfl ?_
  obtain ⟨e, rfl⟩ : ∃ e, d = e + 1 := ⟨d - 1, by omega⟩
  refine wp_s 1 [some (.ref 0), some (.int x1), some (.int x2), some (.int x3)] [.ref 0] _ i_110_0 rfl ?_
  refine hm_get (w := .ref 5) 4 rfl i_110_1 (cb rfl) kk_0 rfl ?_
  obtain ⟨k_1, hd⟩ := dk_if hd
  refine hm_dyn 7 rfl i_110_4 (cb rfl) kk_5 (fun _ _ => rfl) (kd_ne0 (cO_iff k_1).2 (by decide)) ?_
  refine wp_s 8 [some (.ref 0), some (.int x1), some (.int x2), some (.int x3)] [.int x1, .ref (m.2.2.1 5)] _ i_110_7 rfl ?_
  obtain ⟨z_2, q_3, hd⟩ := dk_bind hd
  refine wp_callV 11 rfl i_110_8 (by decide) rfl (vs := [.int x1]) (rest := []) rfl rfl rfl (hm_isO (cO_iff k_1).1 (cO_iff k_1).2) (y := m_55) rfl (Nat.le_of_ble_eq_true rfl) (d_55_ok (S := S) (d := e) (by omega) q_3) ?_
  rintro v_4 h_5 ⟨rfl, rfl⟩
  refine wp_if_eq 35 14 rfl rfl i_110_11 (fun c_6 => ?_) (fun c_6 => ?_)
  · rw [if_pos c_6] at hd
    refine wp_s 36 [some (.ref 0), some (.int x1), some (.int x2), some (.int x3)] [.int (-1 : Int32)] _ i_110_35 rfl ?_
    obtain rfl := Option.some.inj hd
    exact wp_iret i_110_36 ⟨rfl, rfl⟩
  · rw [if_neg c_6] at hd
    refine wp_s 15 [some (.ref 0), some (.int x1), some (.int x2), some (.int x3)] [.int x2] _ i_110_14 rfl ?_
    refine wp_s 16 [some (.ref 0), some (.int x1), some (.int x2), some (.int x3)] [.int (0 : Int32), .int x2] _ i_110_15 rfl ?_
    refine wp_s 19 [some (.ref 0), some (.int x1), some (.int x2), some (.int x3)] [.int (999 : Int32), .int (0 : Int32), .int x2] _ i_110_16 rfl ?_
    obtain ⟨z_7, q_8, hd⟩ := dk_bind hd
    refine wp_callS 22 rfl i_110_19 (by decide) (vs := [.int x2, .int (0 : Int32), .int (999 : Int32)]) (rest := []) rfl rfl rfl (y := m_138) rfl (Nat.le_of_ble_eq_true rfl) (d_138_ok (S := S) (d := e) (by omega) q_8) ?_
    rintro v_9 h_10 ⟨rfl, rfl⟩
    refine wp_if_eq 35 25 rfl rfl i_110_22 (fun c_11 => ?_) (fun c_11 => ?_)
    · rw [if_pos c_11] at hd
      refine wp_s 36 [some (.ref 0), some (.int x1), some (.int x2), some (.int x3)] [.int (-1 : Int32)] _ i_110_35 rfl ?_
      obtain rfl := Option.some.inj hd
      exact wp_iret i_110_36 ⟨rfl, rfl⟩
    · rw [if_neg c_11] at hd
      refine wp_s 26 [some (.ref 0), some (.int x1), some (.int x2), some (.int x3)] [.int x3] _ i_110_25 rfl ?_
      refine wp_s 27 [some (.ref 0), some (.int x1), some (.int x2), some (.int x3)] [.int (0 : Int32), .int x3] _ i_110_26 rfl ?_
      refine wp_s 29 [some (.ref 0), some (.int x1), some (.int x2), some (.int x3)] [.int (99 : Int32), .int (0 : Int32), .int x3] _ i_110_27 rfl ?_
      obtain ⟨z_12, q_13, hd⟩ := dk_bind hd
      refine wp_callS 32 rfl i_110_29 (by decide) (vs := [.int x3, .int (0 : Int32), .int (99 : Int32)]) (rest := []) rfl rfl rfl (y := m_138) rfl (Nat.le_of_ble_eq_true rfl) (d_138_ok (S := S) (d := e) (by omega) q_13) ?_
      rintro v_14 h_15 ⟨rfl, rfl⟩
      refine wp_if_ne 37 35 rfl rfl i_110_32 (fun c_16 => ?_) (fun c_16 => ?_)
      · rw [if_pos c_16] at hd
        refine wp_s 38 [some (.ref 0), some (.int x1), some (.int x2), some (.int x3)] [.ref 0] _ i_110_37 rfl ?_
        refine hm_get (w := .ref 32) 41 rfl i_110_38 (cb rfl) kk_0 rfl ?_
        refine wp_s 42 [some (.ref 0), some (.int x1), some (.int x2), some (.int x3)] [.ref 0, .ref 32] _ i_110_41 rfl ?_
        refine hm_get (w := .ref 5) 45 rfl i_110_42 (cb rfl) kk_0 rfl ?_
        refine hm_get (w := .ref 19) 48 rfl i_110_45 (cb rfl) kk_5 rfl ?_
        refine wp_s 49 [some (.ref 0), some (.int x1), some (.int x2), some (.int x3)] [.ref 0, .ref 19, .ref 32] _ i_110_48 rfl ?_
        refine hm_get (w := .ref 5) 52 rfl i_110_49 (cb rfl) kk_0 rfl ?_
        refine hm_get (w := .int (m.1 5 2)) 55 rfl i_110_52 (cb rfl) kk_5 rfl ?_
        refine wp_s 56 [some (.ref 0), some (.int x1), some (.int x2), some (.int x3)] [.int x1, .int (m.1 5 2), .ref 19, .ref 32] _ i_110_55 rfl ?_
        refine wp_s 57 [some (.ref 0), some (.int x1), some (.int x2), some (.int x3)] [.int x2, .int x1, .int (m.1 5 2), .ref 19, .ref 32] _ i_110_56 rfl ?_
        refine wp_s 58 [some (.ref 0), some (.int x1), some (.int x2), some (.int x3)] [.int x3, .int x2, .int x1, .int (m.1 5 2), .ref 19, .ref 32] _ i_110_57 rfl ?_
        obtain ⟨z_17, q_18, hd⟩ := dk_bind hd
        refine wp_callV 61 rfl i_110_58 (by decide) rfl (vs := [.ref 19, .int (m.1 5 2), .int x1, .int x2, .int x3]) (rest := []) rfl rfl rfl (hm_isO (cb rfl) kk_32) (y := m_89) rfl (Nat.le_of_ble_eq_true rfl) (d_89_ok (S := S) (d := e) (by omega) q_18) ?_
        rintro v_19 h_20 ⟨rfl, rfl⟩
        obtain rfl := Option.some.inj hd
        exact wp_iret i_110_61 ⟨rfl, rfl⟩
      · rw [if_neg c_16] at hd
        refine wp_s 36 [some (.ref 0), some (.int x1), some (.int x2), some (.int x3)] [.int (-1 : Int32)] _ i_110_35 rfl ?_
        obtain rfl := Option.some.inj hd
        exact wp_iret i_110_36 ⟨rfl, rfl⟩
set_option maxHeartbeats 4000000 in
set_option maxRecDepth 100000 in
theorem d_111_ok {X : aX} {S : rS} {g : Nat} {x1 : Int32} {m : cM} {zz : Int32 × cM} {d : Nat} (hdp : 7 ≤ d) (hd : d_111 g x1 m = some zz) : aWp X d 111 0 (aEntL [.ref 0, .int x1] 3) [] (hr m S) (fun w h' => w = some (.int zz.1) ∧ h' = hr zz.2 S) := by
  unfold d_111 at hd
  refine wp_lv (l2 := [some (.ref 0), some (.int x1), none]) rfl ?_
  obtain ⟨e, rfl⟩ : ∃ e, d = e + 1 := ⟨d - 1, by omega⟩
  refine wp_s 1 [some (.ref 0), some (.int x1), none] [.ref 0] _ i_111_0 rfl ?_
  refine hm_get (w := .ref 5) 4 rfl i_111_1 (cb rfl) kk_0 rfl ?_
  obtain ⟨k_1, hd⟩ := dk_if hd
  refine hm_dyn 7 rfl i_111_4 (cb rfl) kk_5 (fun _ _ => rfl) (kd_ne0 (cO_iff k_1).2 (by decide)) ?_
  refine hm_get (w := .int (m.1 (m.2.2.1 5) 0)) 10 rfl i_111_7 (cO_iff k_1).1 (cO_iff k_1).2 rfl ?_
  refine wp_if_eq 22 13 rfl rfl i_111_10 (fun c_2 => ?_) (fun c_2 => ?_)
  · rw [if_pos c_2] at hd
    refine wp_s 23 [some (.ref 0), some (.int x1), none] [.int (-1 : Int32)] _ i_111_22 rfl ?_
    obtain rfl := Option.some.inj hd
    exact wp_iret i_111_23 ⟨rfl, rfl⟩
  · rw [if_neg c_2] at hd
    refine wp_s 14 [some (.ref 0), some (.int x1), none] [.int x1] _ i_111_13 rfl ?_
    refine wp_if_lt 22 17 rfl rfl i_111_14 (fun c_3 => ?_) (fun c_3 => ?_)
    · rw [if_pos c_3] at hd
      refine wp_s 23 [some (.ref 0), some (.int x1), none] [.int (-1 : Int32)] _ i_111_22 rfl ?_
      obtain rfl := Option.some.inj hd
      exact wp_iret i_111_23 ⟨rfl, rfl⟩
    · rw [if_neg c_3] at hd
      refine wp_s 18 [some (.ref 0), some (.int x1), none] [.int x1] _ i_111_17 rfl ?_
      refine wp_s 19 [some (.ref 0), some (.int x1), none] [.int (1 : Int32), .int x1] _ i_111_18 rfl ?_
      refine wp_cmp_le 24 22 rfl rfl i_111_19 (fun c_4 => ?_) (fun c_4 => ?_)
      · rw [if_pos c_4] at hd
        refine wp_s 25 [some (.ref 0), some (.int x1), none] [.ref 0] _ i_111_24 rfl ?_
        refine hm_get (w := .ref 32) 28 rfl i_111_25 (cb rfl) kk_0 rfl ?_
        obtain ⟨z_5, q_6, hd⟩ := dk_bind hd
        refine wp_callV 31 rfl i_111_28 (by decide) rfl (vs := []) (rest := []) rfl rfl rfl (hm_isO (cb rfl) kk_32) (y := m_93) rfl (Nat.le_of_ble_eq_true rfl) (d_93_ok (S := S) (d := e) (by omega) q_6) ?_
        rintro v_7 h_8 ⟨rfl, rfl⟩
        refine wp_s 32 [some (.ref 0), some (.int x1), some (.int z_5.1)] [] _ i_111_31 rfl ?_
        refine wp_s 33 [some (.ref 0), some (.int x1), some (.int z_5.1)] [.int x1] _ i_111_32 rfl ?_
        refine wp_if_ne 40 36 rfl rfl i_111_33 (fun c_9 => ?_) (fun c_9 => ?_)
        · rw [if_pos c_9] at hd
          refine wp_s 41 [some (.ref 0), some (.int x1), some (.int z_5.1)] [.ref 0] _ i_111_40 rfl ?_
          refine hm_get (w := .ref 32) 44 rfl i_111_41 (cb rfl) kk_0 rfl ?_
          refine hm_get (w := .int (z_5.2.1 32 4)) 47 rfl i_111_44 (cb rfl) kk_32 rfl ?_
          obtain rfl := Option.some.inj hd
          exact wp_iret i_111_47 ⟨rfl, rfl⟩
        · rw [if_neg c_9] at hd
          refine wp_s 37 [some (.ref 0), some (.int x1), some (.int z_5.1)] [.int z_5.1] _ i_111_36 rfl ?_
          refine wp_s 47 [some (.ref 0), some (.int x1), some (.int z_5.1)] [.int z_5.1] _ i_111_37 rfl ?_
          obtain rfl := Option.some.inj hd
          exact wp_iret i_111_47 ⟨rfl, rfl⟩
      · rw [if_neg c_4] at hd
        refine wp_s 23 [some (.ref 0), some (.int x1), none] [.int (-1 : Int32)] _ i_111_22 rfl ?_
        obtain rfl := Option.some.inj hd
        exact wp_iret i_111_23 ⟨rfl, rfl⟩
set_option maxHeartbeats 4000000 in
set_option maxRecDepth 100000 in
theorem d_112_ok {X : aX} {S : rS} {g : Nat} {x1 : Int32} {m : cM} {zz : Int32 × cM} {d : Nat} (hdp : 2 ≤ d) (hd : d_112 g x1 m = some zz) : aWp X d 112 0 (aEntL [.ref 0, .int x1] 3) [] (hr m S) (fun w h' => w = some (.int zz.1) ∧ h' = hr zz.2 S) := by
  unfold d_112 at hd
  refine wp_lv (l2 := [some (.ref 0), some (.int x1), none]) rfl ?_
  obtain ⟨e, rfl⟩ : ∃ e, d = e + 1 := ⟨d - 1, by omega⟩
  refine wp_s 1 [some (.ref 0), some (.int x1), none] [.ref 0] _ i_112_0 rfl ?_
  refine hm_get (w := .ref 5) 4 rfl i_112_1 (cb rfl) kk_0 rfl ?_
  refine hm_get (w := .ref 19) 7 rfl i_112_4 (cb rfl) kk_5 rfl ?_
  refine wp_s 8 [some (.ref 0), some (.int x1), some (.ref 19)] [] _ i_112_7 rfl ?_
  refine wp_s 9 [some (.ref 0), some (.int x1), some (.ref 19)] [.ref 0] _ i_112_8 rfl ?_
  refine hm_get (w := .ref 5) 12 rfl i_112_9 (cb rfl) kk_0 rfl ?_
  obtain ⟨k_1, hd⟩ := dk_if hd
  refine hm_dyn 15 rfl i_112_12 (cb rfl) kk_5 (fun _ _ => rfl) (kd_ne0 (cO_iff k_1).2 (by decide)) ?_
  refine wp_s 16 [some (.ref 0), some (.int x1), some (.ref 19)] [.int x1, .ref (m.2.2.1 5)] _ i_112_15 rfl ?_
  obtain ⟨z_2, q_3, hd⟩ := dk_bind hd
  refine wp_callV 19 rfl i_112_16 (by decide) rfl (vs := [.int x1]) (rest := []) rfl rfl rfl (hm_isO (cO_iff k_1).1 (cO_iff k_1).2) (y := m_55) rfl (Nat.le_of_ble_eq_true rfl) (d_55_ok (S := S) (d := e) (by omega) q_3) ?_
  rintro v_4 h_5 ⟨rfl, rfl⟩
  refine wp_if_eq 30 22 rfl rfl i_112_19 (fun c_6 => ?_) (fun c_6 => ?_)
  · rw [if_pos c_6] at hd
    refine wp_s 31 [some (.ref 0), some (.int x1), some (.ref 19)] [.int (-1 : Int32)] _ i_112_30 rfl ?_
    obtain rfl := Option.some.inj hd
    exact wp_iret i_112_31 ⟨rfl, rfl⟩
  · rw [if_neg c_6] at hd
    refine wp_s 23 [some (.ref 0), some (.int x1), some (.ref 19)] [.ref 19] _ i_112_22 rfl ?_
    refine wp_s 24 [some (.ref 0), some (.int x1), some (.ref 19)] [.int x1, .ref 19] _ i_112_23 rfl ?_
    obtain ⟨z_7, q_8, hd⟩ := dk_bind hd
    refine wp_callV 27 rfl i_112_24 (by decide) rfl (vs := [.int x1]) (rest := []) rfl rfl rfl (hm_isO (cb rfl) kk_19) (y := m_74) rfl (Nat.le_of_ble_eq_true rfl) (d_74_ok (S := S) (d := e) (by omega) q_8) ?_
    rintro v_9 h_10 ⟨rfl, rfl⟩
    refine wp_if_ne 32 30 rfl rfl i_112_27 (fun c_11 => ?_) (fun c_11 => ?_)
    · rw [if_pos c_11] at hd
      refine wp_s 33 [some (.ref 0), some (.int x1), some (.ref 19)] [.ref 0] _ i_112_32 rfl ?_
      refine hm_get (w := .ref 90) 36 rfl i_112_33 (cb rfl) kk_0 rfl ?_
      refine wp_s 37 [some (.ref 0), some (.int x1), some (.ref 19)] [.ref 19, .ref 90] _ i_112_36 rfl ?_
      obtain ⟨z_12, q_13, hd⟩ := dk_bind hd
      refine wp_callV 40 rfl i_112_37 (by decide) rfl (vs := [.ref 19]) (rest := []) rfl rfl rfl (hm_isO (cb rfl) kk_90) (y := m_8) rfl (Nat.le_of_ble_eq_true rfl) (d_8_ok (S := S) (d := e) (by omega) q_13) ?_
      rintro v_14 h_15 ⟨rfl, rfl⟩
      refine wp_s 41 [some (.ref 0), some (.int x1), some (.ref 19)] [.ref 19] _ i_112_40 rfl ?_
      refine hm_get (w := .ref 20) 44 rfl i_112_41 (cb rfl) kk_19 rfl ?_
      refine wp_s 45 [some (.ref 0), some (.int x1), some (.ref 19)] [.int x1, .ref 20] _ i_112_44 rfl ?_
      refine wp_s 46 [some (.ref 0), some (.int x1), some (.ref 19)] [.int x1, .ref 20, .int x1, .ref 20] _ i_112_45 rfl ?_
      obtain ⟨k_16, hd⟩ := dk_if hd
      refine hm_iald 47 rfl i_112_46 (cb rfl) kk_20 k_16 ?_
      refine wp_s 48 [some (.ref 0), some (.int x1), some (.ref 19)] [.int (1 : Int32), .int (z_12.1 20 x1.toNatClampNeg), .int x1, .ref 20] _ i_112_47 rfl ?_
      refine wp_s 49 [some (.ref 0), some (.int x1), some (.ref 19)] [.int ((z_12.1 20 x1.toNatClampNeg) + (1 : Int32)), .int x1, .ref 20] _ i_112_48 rfl ?_
      obtain ⟨k_17, hd⟩ := dk_if hd
      obtain ⟨mm_18, q_19, hd⟩ := dk_bind hd
      refine hm_iast 50 rfl i_112_49 (cb rfl) kk_20 k_17 ?_
      rw [Option.some.inj q_19]
      refine wp_s 51 [some (.ref 0), some (.int x1), some (.ref 19)] [.ref 19] _ i_112_50 rfl ?_
      refine hm_get (w := .ref 20) 54 rfl i_112_51 (cb rfl) kk_19 rfl ?_
      refine wp_s 55 [some (.ref 0), some (.int x1), some (.ref 19)] [.int x1, .ref 20] _ i_112_54 rfl ?_
      obtain ⟨k_20, hd⟩ := dk_if hd
      refine hm_iald 56 rfl i_112_55 (cb rfl) kk_20 k_20 ?_
      obtain rfl := Option.some.inj hd
      exact wp_iret i_112_56 ⟨rfl, rfl⟩
    · rw [if_neg c_11] at hd
      refine wp_s 31 [some (.ref 0), some (.int x1), some (.ref 19)] [.int (-1 : Int32)] _ i_112_30 rfl ?_
      obtain rfl := Option.some.inj hd
      exact wp_iret i_112_31 ⟨rfl, rfl⟩
set_option maxHeartbeats 4000000 in
set_option maxRecDepth 100000 in
theorem d_113_ok {X : aX} {S : rS} {g : Nat} {x1 : Int32} {m : cM} {zz : Int32 × cM} {d : Nat} (hdp : 2 ≤ d) (hd : d_113 g x1 m = some zz) : aWp X d 113 0 (aEntL [.ref 0, .int x1] 3) [] (hr m S) (fun w h' => w = some (.int zz.1) ∧ h' = hr zz.2 S) := by
  unfold d_113 at hd
  refine wp_lv (l2 := [some (.ref 0), some (.int x1), none]) rfl ?_
  obtain ⟨e, rfl⟩ : ∃ e, d = e + 1 := ⟨d - 1, by omega⟩
  refine wp_s 1 [some (.ref 0), some (.int x1), none] [.ref 0] _ i_113_0 rfl ?_
  refine hm_get (w := .ref 5) 4 rfl i_113_1 (cb rfl) kk_0 rfl ?_
  refine hm_get (w := .ref 19) 7 rfl i_113_4 (cb rfl) kk_5 rfl ?_
  refine wp_s 8 [some (.ref 0), some (.int x1), some (.ref 19)] [] _ i_113_7 rfl ?_
  refine wp_s 9 [some (.ref 0), some (.int x1), some (.ref 19)] [.ref 0] _ i_113_8 rfl ?_
  refine hm_get (w := .ref 5) 12 rfl i_113_9 (cb rfl) kk_0 rfl ?_
  obtain ⟨k_1, hd⟩ := dk_if hd
  refine hm_dyn 15 rfl i_113_12 (cb rfl) kk_5 (fun _ _ => rfl) (kd_ne0 (cO_iff k_1).2 (by decide)) ?_
  refine wp_s 16 [some (.ref 0), some (.int x1), some (.ref 19)] [.int x1, .ref (m.2.2.1 5)] _ i_113_15 rfl ?_
  obtain ⟨z_2, q_3, hd⟩ := dk_bind hd
  refine wp_callV 19 rfl i_113_16 (by decide) rfl (vs := [.int x1]) (rest := []) rfl rfl rfl (hm_isO (cO_iff k_1).1 (cO_iff k_1).2) (y := m_55) rfl (Nat.le_of_ble_eq_true rfl) (d_55_ok (S := S) (d := e) (by omega) q_3) ?_
  rintro v_4 h_5 ⟨rfl, rfl⟩
  refine wp_if_eq 32 22 rfl rfl i_113_19 (fun c_6 => ?_) (fun c_6 => ?_)
  · rw [if_pos c_6] at hd
    refine wp_s 33 [some (.ref 0), some (.int x1), some (.ref 19)] [.int (-1 : Int32)] _ i_113_32 rfl ?_
    obtain rfl := Option.some.inj hd
    exact wp_iret i_113_33 ⟨rfl, rfl⟩
  · rw [if_neg c_6] at hd
    refine wp_s 23 [some (.ref 0), some (.int x1), some (.ref 19)] [.ref 19] _ i_113_22 rfl ?_
    refine hm_get (w := .ref 20) 26 rfl i_113_23 (cb rfl) kk_19 rfl ?_
    refine wp_s 27 [some (.ref 0), some (.int x1), some (.ref 19)] [.int x1, .ref 20] _ i_113_26 rfl ?_
    obtain ⟨k_7, hd⟩ := dk_if hd
    refine hm_iald 28 rfl i_113_27 (cb rfl) kk_20 k_7 ?_
    refine wp_s 29 [some (.ref 0), some (.int x1), some (.ref 19)] [.int (1 : Int32), .int (m.1 20 x1.toNatClampNeg)] _ i_113_28 rfl ?_
    refine wp_cmp_ge 34 32 rfl rfl i_113_29 (fun c_8 => ?_) (fun c_8 => ?_)
    · rw [if_pos c_8] at hd
      refine wp_s 35 [some (.ref 0), some (.int x1), some (.ref 19)] [.ref 0] _ i_113_34 rfl ?_
      refine hm_get (w := .ref 90) 38 rfl i_113_35 (cb rfl) kk_0 rfl ?_
      refine wp_s 39 [some (.ref 0), some (.int x1), some (.ref 19)] [.ref 19, .ref 90] _ i_113_38 rfl ?_
      obtain ⟨z_9, q_10, hd⟩ := dk_bind hd
      refine wp_callV 42 rfl i_113_39 (by decide) rfl (vs := [.ref 19]) (rest := []) rfl rfl rfl (hm_isO (cb rfl) kk_90) (y := m_8) rfl (Nat.le_of_ble_eq_true rfl) (d_8_ok (S := S) (d := e) (by omega) q_10) ?_
      rintro v_11 h_12 ⟨rfl, rfl⟩
      refine wp_s 43 [some (.ref 0), some (.int x1), some (.ref 19)] [.ref 19] _ i_113_42 rfl ?_
      refine hm_get (w := .ref 20) 46 rfl i_113_43 (cb rfl) kk_19 rfl ?_
      refine wp_s 47 [some (.ref 0), some (.int x1), some (.ref 19)] [.int x1, .ref 20] _ i_113_46 rfl ?_
      refine wp_s 48 [some (.ref 0), some (.int x1), some (.ref 19)] [.int x1, .ref 20, .int x1, .ref 20] _ i_113_47 rfl ?_
      obtain ⟨k_13, hd⟩ := dk_if hd
      refine hm_iald 49 rfl i_113_48 (cb rfl) kk_20 k_13 ?_
      refine wp_s 50 [some (.ref 0), some (.int x1), some (.ref 19)] [.int (1 : Int32), .int (z_9.1 20 x1.toNatClampNeg), .int x1, .ref 20] _ i_113_49 rfl ?_
      refine wp_s 51 [some (.ref 0), some (.int x1), some (.ref 19)] [.int ((z_9.1 20 x1.toNatClampNeg) - (1 : Int32)), .int x1, .ref 20] _ i_113_50 rfl ?_
      obtain ⟨k_14, hd⟩ := dk_if hd
      obtain ⟨mm_15, q_16, hd⟩ := dk_bind hd
      refine hm_iast 52 rfl i_113_51 (cb rfl) kk_20 k_14 ?_
      rw [Option.some.inj q_16]
      refine wp_s 53 [some (.ref 0), some (.int x1), some (.ref 19)] [.ref 19] _ i_113_52 rfl ?_
      refine hm_get (w := .ref 20) 56 rfl i_113_53 (cb rfl) kk_19 rfl ?_
      refine wp_s 57 [some (.ref 0), some (.int x1), some (.ref 19)] [.int x1, .ref 20] _ i_113_56 rfl ?_
      obtain ⟨k_17, hd⟩ := dk_if hd
      refine hm_iald 58 rfl i_113_57 (cb rfl) kk_20 k_17 ?_
      obtain rfl := Option.some.inj hd
      exact wp_iret i_113_58 ⟨rfl, rfl⟩
    · rw [if_neg c_8] at hd
      refine wp_s 33 [some (.ref 0), some (.int x1), some (.ref 19)] [.int (-1 : Int32)] _ i_113_32 rfl ?_
      obtain rfl := Option.some.inj hd
      exact wp_iret i_113_33 ⟨rfl, rfl⟩
