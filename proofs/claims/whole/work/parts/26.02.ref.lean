theorem i_177_0 : aIns 177 0 = some (.aload_n 0, 1, 0, 0, .null) := by decide +kernel
theorem i_177_1 : aIns 177 1 = some (.ldc2_w 220, 3, 0, 0, .long (1936224112)) := by decide +kernel
theorem i_177_4 : aIns 177 4 = some (.invokevirtual 107, 3, 149, 1, .int 12) := by decide +kernel
theorem i_177_7 : aIns 177 7 = some (.ifCond .ne 43, 3, 0, 0, .null) := by decide +kernel
theorem i_177_10 : aIns 177 10 = some (.aload_n 0, 1, 0, 0, .null) := by decide +kernel
theorem i_177_11 : aIns 177 11 = some (.ldc2_w 128, 3, 0, 0, .long (499967946343)) := by decide +kernel
theorem i_177_14 : aIns 177 14 = some (.invokevirtual 107, 3, 149, 1, .int 12) := by decide +kernel
theorem i_177_17 : aIns 177 17 = some (.ifCond .ne 33, 3, 0, 0, .null) := by decide +kernel
theorem i_177_20 : aIns 177 20 = some (.aload_n 0, 1, 0, 0, .null) := by decide +kernel
theorem i_177_21 : aIns 177 21 = some (.ldc2_w 228, 3, 0, 0, .long (2002873972)) := by decide +kernel
theorem i_177_24 : aIns 177 24 = some (.invokevirtual 107, 3, 149, 1, .int 12) := by decide +kernel
theorem i_177_27 : aIns 177 27 = some (.ifCond .ne 23, 3, 0, 0, .null) := by decide +kernel
theorem i_177_30 : aIns 177 30 = some (.aload_n 0, 1, 0, 0, .null) := by decide +kernel
theorem i_177_31 : aIns 177 31 = some (.ldc2_w 132, 3, 0, 0, .long (1935764581)) := by decide +kernel
theorem i_177_34 : aIns 177 34 = some (.invokevirtual 107, 3, 149, 1, .int 12) := by decide +kernel
theorem i_177_37 : aIns 177 37 = some (.ifCond .ne 13, 3, 0, 0, .null) := by decide +kernel
theorem i_177_40 : aIns 177 40 = some (.aload_n 0, 1, 0, 0, .null) := by decide +kernel
theorem i_177_41 : aIns 177 41 = some (.ldc2_w 236, 3, 0, 0, .long (31636739359862388)) := by decide +kernel
theorem i_177_44 : aIns 177 44 = some (.invokevirtual 107, 3, 149, 1, .int 12) := by decide +kernel
theorem i_177_47 : aIns 177 47 = some (.ifCond .eq 7, 3, 0, 0, .null) := by decide +kernel
theorem i_177_50 : aIns 177 50 = some (.iconst 1, 1, 0, 0, .int (1)) := by decide +kernel
theorem i_177_51 : aIns 177 51 = some (.goto 4, 3, 0, 0, .null) := by decide +kernel
theorem i_177_54 : aIns 177 54 = some (.iconst 0, 1, 0, 0, .int (0)) := by decide +kernel
theorem i_177_55 : aIns 177 55 = some (.istore_n 1, 1, 0, 0, .null) := by decide +kernel
theorem i_177_56 : aIns 177 56 = some (.iload_n 1, 1, 0, 0, .null) := by decide +kernel
theorem i_177_57 : aIns 177 57 = some (.ifCond .ne 43, 3, 0, 0, .null) := by decide +kernel
theorem i_177_60 : aIns 177 60 = some (.aload_n 0, 1, 0, 0, .null) := by decide +kernel
theorem i_177_61 : aIns 177 61 = some (.ldc2_w 241, 3, 0, 0, .long (7300710)) := by decide +kernel
theorem i_177_64 : aIns 177 64 = some (.invokevirtual 107, 3, 149, 1, .int 12) := by decide +kernel
theorem i_177_67 : aIns 177 67 = some (.ifCond .ne 33, 3, 0, 0, .null) := by decide +kernel
theorem i_177_70 : aIns 177 70 = some (.aload_n 0, 1, 0, 0, .null) := by decide +kernel
theorem i_177_71 : aIns 177 71 = some (.ldc2_w 243, 3, 0, 0, .long (1886352244)) := by decide +kernel
theorem i_177_74 : aIns 177 74 = some (.invokevirtual 107, 3, 149, 1, .int 12) := by decide +kernel
theorem i_177_77 : aIns 177 77 = some (.ifCond .ne 23, 3, 0, 0, .null) := by decide +kernel
theorem i_177_80 : aIns 177 80 = some (.aload_n 0, 1, 0, 0, .null) := by decide +kernel
theorem i_177_81 : aIns 177 81 = some (.ldc2_w 245, 3, 0, 0, .long (418431069797)) := by decide +kernel
theorem i_177_84 : aIns 177 84 = some (.invokevirtual 107, 3, 149, 1, .int 12) := by decide +kernel
theorem i_177_87 : aIns 177 87 = some (.ifCond .ne 13, 3, 0, 0, .null) := by decide +kernel
theorem i_177_90 : aIns 177 90 = some (.aload_n 0, 1, 0, 0, .null) := by decide +kernel
theorem i_177_91 : aIns 177 91 = some (.ldc2_w 253, 3, 0, 0, .long (418346264942)) := by decide +kernel
theorem i_177_94 : aIns 177 94 = some (.invokevirtual 107, 3, 149, 1, .int 12) := by decide +kernel
theorem i_177_97 : aIns 177 97 = some (.ifCond .eq 7, 3, 0, 0, .null) := by decide +kernel
theorem i_177_100 : aIns 177 100 = some (.iconst 1, 1, 0, 0, .int (1)) := by decide +kernel
theorem i_177_101 : aIns 177 101 = some (.goto 4, 3, 0, 0, .null) := by decide +kernel
theorem i_177_104 : aIns 177 104 = some (.iconst 0, 1, 0, 0, .int (0)) := by decide +kernel
theorem i_177_105 : aIns 177 105 = some (.ireturn, 1, 1, 0, .null) := by decide +kernel
theorem i_178_0 : aIns 178 0 = some (.aload_n 0, 1, 0, 0, .null) := by decide +kernel
theorem i_178_1 : aIns 178 1 = some (.invokevirtual 99, 3, 146, 0, .int 12) := by decide +kernel
theorem i_178_4 : aIns 178 4 = some (.pop, 1, 0, 0, .null) := by decide +kernel
theorem i_178_5 : aIns 178 5 = some (.aload_n 0, 1, 0, 0, .null) := by decide +kernel
theorem i_178_6 : aIns 178 6 = some (.getfield 96, 3, 12, 8, .null) := by decide +kernel
theorem i_178_9 : aIns 178 9 = some (.istore_n 1, 1, 0, 0, .null) := by decide +kernel
theorem i_178_10 : aIns 178 10 = some (.aload_n 0, 1, 0, 0, .null) := by decide +kernel
theorem i_178_11 : aIns 178 11 = some (.getfield 144, 3, 12, 11, .null) := by decide +kernel
theorem i_178_14 : aIns 178 14 = some (.bipush 6, 2, 0, 0, .int (6)) := by decide +kernel
theorem i_178_16 : aIns 178 16 = some (.if_icmp .ne 7, 3, 0, 0, .null) := by decide +kernel
theorem i_178_19 : aIns 178 19 = some (.iconst 1, 1, 0, 0, .int (1)) := by decide +kernel
theorem i_178_20 : aIns 178 20 = some (.goto 4, 3, 0, 0, .null) := by decide +kernel
theorem i_178_23 : aIns 178 23 = some (.iconst 0, 1, 0, 0, .int (0)) := by decide +kernel
theorem i_178_24 : aIns 178 24 = some (.istore_n 2, 1, 0, 0, .null) := by decide +kernel
theorem i_178_25 : aIns 178 25 = some (.iload_n 2, 1, 0, 0, .null) := by decide +kernel
theorem i_178_26 : aIns 178 26 = some (.ifCond .eq 13, 3, 0, 0, .null) := by decide +kernel
theorem i_178_29 : aIns 178 29 = some (.aload_n 0, 1, 0, 0, .null) := by decide +kernel
theorem i_178_30 : aIns 178 30 = some (.invokevirtual 255, 3, 177, 0, .int 12) := by decide +kernel
theorem i_178_33 : aIns 178 33 = some (.ifCond .ne 23, 3, 0, 0, .null) := by decide +kernel
theorem i_178_36 : aIns 178 36 = some (.goto 13, 3, 0, 0, .null) := by decide +kernel
theorem i_178_39 : aIns 178 39 = some (.aload_n 0, 1, 0, 0, .null) := by decide +kernel
theorem i_178_40 : aIns 178 40 = some (.ldc2_w 258, 3, 0, 0, .long (482955846501)) := by decide +kernel
theorem i_178_43 : aIns 178 43 = some (.invokevirtual 107, 3, 149, 1, .int 12) := by decide +kernel
theorem i_178_46 : aIns 178 46 = some (.ifCond .ne 10, 3, 0, 0, .null) := by decide +kernel
theorem i_178_49 : aIns 178 49 = some (.aload_n 0, 1, 0, 0, .null) := by decide +kernel
theorem i_178_50 : aIns 178 50 = some (.iconst 0, 1, 0, 0, .int (0)) := by decide +kernel
theorem i_178_51 : aIns 178 51 = some (.iload_n 1, 1, 0, 0, .null) := by decide +kernel
theorem i_178_52 : aIns 178 52 = some (.invokevirtual 117, 3, 145, 2, .int 12) := by decide +kernel
theorem i_178_55 : aIns 178 55 = some (.ireturn, 1, 1, 0, .null) := by decide +kernel
theorem i_178_56 : aIns 178 56 = some (.aload_n 0, 1, 0, 0, .null) := by decide +kernel
theorem i_178_57 : aIns 178 57 = some (.getfield 260, 3, 12, 14, .null) := by decide +kernel
theorem i_178_60 : aIns 178 60 = some (.iload_n 2, 1, 0, 0, .null) := by decide +kernel
theorem i_178_61 : aIns 178 61 = some (.ifCond .eq 8, 3, 0, 0, .null) := by decide +kernel
theorem i_178_64 : aIns 178 64 = some (.bipush 40, 2, 0, 0, .int (40)) := by decide +kernel
theorem i_178_66 : aIns 178 66 = some (.goto 5, 3, 0, 0, .null) := by decide +kernel
theorem i_178_69 : aIns 178 69 = some (.bipush 12, 2, 0, 0, .int (12)) := by decide +kernel
theorem i_178_71 : aIns 178 71 = some (.if_icmp .ne 10, 3, 0, 0, .null) := by decide +kernel
theorem i_178_74 : aIns 178 74 = some (.aload_n 0, 1, 0, 0, .null) := by decide +kernel
theorem i_178_75 : aIns 178 75 = some (.iconst 4, 1, 0, 0, .int (4)) := by decide +kernel
theorem i_178_76 : aIns 178 76 = some (.iload_n 1, 1, 0, 0, .null) := by decide +kernel
theorem i_178_77 : aIns 178 77 = some (.invokevirtual 117, 3, 145, 2, .int 12) := by decide +kernel
theorem i_178_80 : aIns 178 80 = some (.ireturn, 1, 1, 0, .null) := by decide +kernel
theorem i_178_81 : aIns 178 81 = some (.aload_n 0, 1, 0, 0, .null) := by decide +kernel
theorem i_178_82 : aIns 178 82 = some (.dup, 1, 0, 0, .null) := by decide +kernel
theorem i_178_83 : aIns 178 83 = some (.getfield 260, 3, 12, 14, .null) := by decide +kernel
theorem i_178_86 : aIns 178 86 = some (.iconst 1, 1, 0, 0, .int (1)) := by decide +kernel
theorem i_178_87 : aIns 178 87 = some (.iadd, 1, 0, 0, .null) := by decide +kernel
theorem i_178_88 : aIns 178 88 = some (.putfield 260, 3, 12, 14, .null) := by decide +kernel
theorem i_178_91 : aIns 178 91 = some (.iload_n 2, 1, 0, 0, .null) := by decide +kernel
theorem i_178_92 : aIns 178 92 = some (.ifCond .eq 11, 3, 0, 0, .null) := by decide +kernel
theorem i_178_95 : aIns 178 95 = some (.aload_n 0, 1, 0, 0, .null) := by decide +kernel
theorem i_178_96 : aIns 178 96 = some (.iload_n 1, 1, 0, 0, .null) := by decide +kernel
theorem i_178_97 : aIns 178 97 = some (.invokevirtual 263, 3, 176, 1, .int 12) := by decide +kernel
theorem i_178_100 : aIns 178 100 = some (.goto 7, 3, 0, 0, .null) := by decide +kernel
theorem i_178_103 : aIns 178 103 = some (.aload_n 0, 1, 0, 0, .null) := by decide +kernel
theorem i_178_104 : aIns 178 104 = some (.invokevirtual 266, 3, 167, 0, .int 12) := by decide +kernel
theorem i_178_107 : aIns 178 107 = some (.ireturn, 1, 1, 0, .null) := by decide +kernel
theorem i_179_0 : aIns 179 0 = some (.aload_n 0, 1, 0, 0, .null) := by decide +kernel
theorem i_179_1 : aIns 179 1 = some (.getfield 17, 3, 12, 4, .null) := by decide +kernel
theorem i_179_4 : aIns 179 4 = some (.aload_n 0, 1, 0, 0, .null) := by decide +kernel
theorem i_179_5 : aIns 179 5 = some (.getfield 144, 3, 12, 11, .null) := by decide +kernel
theorem i_179_8 : aIns 179 8 = some (.iconst 0, 1, 0, 0, .int (0)) := by decide +kernel
theorem i_179_9 : aIns 179 9 = some (.iastore, 1, 0, 0, .null) := by decide +kernel
theorem i_179_10 : aIns 179 10 = some (.aload_n 0, 1, 0, 0, .null) := by decide +kernel
theorem i_179_11 : aIns 179 11 = some (.iconst 0, 1, 0, 0, .int (0)) := by decide +kernel
theorem i_179_12 : aIns 179 12 = some (.putfield 260, 3, 12, 14, .null) := by decide +kernel
theorem i_179_15 : aIns 179 15 = some (.aload_n 0, 1, 0, 0, .null) := by decide +kernel
theorem i_179_16 : aIns 179 16 = some (.iconst 0, 1, 0, 0, .int (0)) := by decide +kernel
theorem i_179_17 : aIns 179 17 = some (.putfield 96, 3, 12, 8, .null) := by decide +kernel
theorem i_179_20 : aIns 179 20 = some (.aload_n 0, 1, 0, 0, .null) := by decide +kernel
theorem i_179_21 : aIns 179 21 = some (.iconst 0, 1, 0, 0, .int (0)) := by decide +kernel
theorem i_179_22 : aIns 179 22 = some (.putfield 93, 3, 12, 9, .null) := by decide +kernel
theorem i_179_25 : aIns 179 25 = some (.aload_n 0, 1, 0, 0, .null) := by decide +kernel
theorem i_179_26 : aIns 179 26 = some (.iconst 0, 1, 0, 0, .int (0)) := by decide +kernel
theorem i_179_27 : aIns 179 27 = some (.putfield 147, 3, 12, 12, .null) := by decide +kernel
theorem i_179_30 : aIns 179 30 = some (.aload_n 0, 1, 0, 0, .null) := by decide +kernel
theorem i_179_31 : aIns 179 31 = some (.invokevirtual 269, 3, 178, 0, .int 12) := by decide +kernel
theorem i_179_34 : aIns 179 34 = some (.istore_n 1, 1, 0, 0, .null) := by decide +kernel
theorem i_179_35 : aIns 179 35 = some (.iload_n 1, 1, 0, 0, .null) := by decide +kernel
theorem i_179_36 : aIns 179 36 = some (.ifCond .eq 30, 3, 0, 0, .null) := by decide +kernel
theorem i_179_39 : aIns 179 39 = some (.aload_n 0, 1, 0, 0, .null) := by decide +kernel
theorem i_179_40 : aIns 179 40 = some (.invokevirtual 99, 3, 146, 0, .int 12) := by decide +kernel
theorem i_179_43 : aIns 179 43 = some (.bipush 59, 2, 0, 0, .int (59)) := by decide +kernel
theorem i_179_45 : aIns 179 45 = some (.if_icmp .ne 21, 3, 0, 0, .null) := by decide +kernel
theorem i_179_48 : aIns 179 48 = some (.aload_n 0, 1, 0, 0, .null) := by decide +kernel
theorem i_179_49 : aIns 179 49 = some (.dup, 1, 0, 0, .null) := by decide +kernel
theorem i_179_50 : aIns 179 50 = some (.getfield 96, 3, 12, 8, .null) := by decide +kernel
theorem i_179_53 : aIns 179 53 = some (.iconst 1, 1, 0, 0, .int (1)) := by decide +kernel
theorem i_179_54 : aIns 179 54 = some (.iadd, 1, 0, 0, .null) := by decide +kernel
theorem i_179_55 : aIns 179 55 = some (.putfield 96, 3, 12, 8, .null) := by decide +kernel
theorem i_179_58 : aIns 179 58 = some (.aload_n 0, 1, 0, 0, .null) := by decide +kernel
theorem i_179_59 : aIns 179 59 = some (.invokevirtual 269, 3, 178, 0, .int 12) := by decide +kernel
theorem i_179_62 : aIns 179 62 = some (.istore_n 1, 1, 0, 0, .null) := by decide +kernel
theorem i_179_63 : aIns 179 63 = some (.goto (-28), 3, 0, 0, .null) := by decide +kernel
theorem i_179_66 : aIns 179 66 = some (.iload_n 1, 1, 0, 0, .null) := by decide +kernel
theorem i_179_67 : aIns 179 67 = some (.ifCond .eq 21, 3, 0, 0, .null) := by decide +kernel
theorem i_179_70 : aIns 179 70 = some (.aload_n 0, 1, 0, 0, .null) := by decide +kernel
theorem i_179_71 : aIns 179 71 = some (.invokevirtual 99, 3, 146, 0, .int 12) := by decide +kernel
theorem i_179_74 : aIns 179 74 = some (.iconst (-1), 1, 0, 0, .int (-1)) := by decide +kernel
theorem i_179_75 : aIns 179 75 = some (.if_icmp .eq 13, 3, 0, 0, .null) := by decide +kernel
theorem i_179_78 : aIns 179 78 = some (.aload_n 0, 1, 0, 0, .null) := by decide +kernel
theorem i_179_79 : aIns 179 79 = some (.iconst 0, 1, 0, 0, .int (0)) := by decide +kernel
theorem i_179_80 : aIns 179 80 = some (.aload_n 0, 1, 0, 0, .null) := by decide +kernel
theorem i_179_81 : aIns 179 81 = some (.getfield 96, 3, 12, 8, .null) := by decide +kernel
theorem i_179_84 : aIns 179 84 = some (.invokevirtual 117, 3, 145, 2, .int 12) := by decide +kernel
theorem i_179_87 : aIns 179 87 = some (.pop, 1, 0, 0, .null) := by decide +kernel
theorem i_179_88 : aIns 179 88 = some (.aload_n 0, 1, 0, 0, .null) := by decide +kernel
theorem i_179_89 : aIns 179 89 = some (.iconst 0, 1, 0, 0, .int (0)) := by decide +kernel
theorem i_179_90 : aIns 179 90 = some (.putfield 86, 3, 12, 1, .null) := by decide +kernel
theorem i_179_93 : aIns 179 93 = some (.aload_n 0, 1, 0, 0, .null) := by decide +kernel
theorem i_179_94 : aIns 179 94 = some (.getfield 93, 3, 12, 9, .null) := by decide +kernel
theorem i_179_97 : aIns 179 97 = some (.ifCond .ne 7, 3, 0, 0, .null) := by decide +kernel
theorem i_179_100 : aIns 179 100 = some (.iconst 1, 1, 0, 0, .int (1)) := by decide +kernel
theorem i_179_101 : aIns 179 101 = some (.goto 4, 3, 0, 0, .null) := by decide +kernel
theorem i_179_104 : aIns 179 104 = some (.iconst 0, 1, 0, 0, .int (0)) := by decide +kernel
theorem i_179_105 : aIns 179 105 = some (.ireturn, 1, 1, 0, .null) := by decide +kernel
theorem i_180_0 : aIns 180 0 = some (.aload_n 0, 1, 0, 0, .null) := by decide +kernel
theorem i_180_1 : aIns 180 1 = some (.getfield 272, 3, 12, 2, .null) := by decide +kernel
theorem i_180_4 : aIns 180 4 = some (.bipush 6, 2, 0, 0, .int (6)) := by decide +kernel
theorem i_180_6 : aIns 180 6 = some (.if_icmp .ne 5, 3, 0, 0, .null) := by decide +kernel
theorem i_180_9 : aIns 180 9 = some (.iconst (-1), 1, 0, 0, .int (-1)) := by decide +kernel
theorem i_180_10 : aIns 180 10 = some (.ireturn, 1, 0, 0, .null) := by decide +kernel
theorem i_180_11 : aIns 180 11 = some (.aload_n 0, 1, 0, 0, .null) := by decide +kernel
theorem i_180_12 : aIns 180 12 = some (.aload_n 0, 1, 0, 0, .null) := by decide +kernel
theorem i_180_13 : aIns 180 13 = some (.getfield 272, 3, 12, 2, .null) := by decide +kernel
theorem i_180_16 : aIns 180 16 = some (.putfield 144, 3, 12, 11, .null) := by decide +kernel
theorem i_180_19 : aIns 180 19 = some (.aload_n 0, 1, 0, 0, .null) := by decide +kernel
theorem i_180_20 : aIns 180 20 = some (.getfield 23, 3, 12, 6, .null) := by decide +kernel
theorem i_180_23 : aIns 180 23 = some (.aload_n 0, 1, 0, 0, .null) := by decide +kernel
theorem i_180_24 : aIns 180 24 = some (.getfield 144, 3, 12, 11, .null) := by decide +kernel
theorem i_180_27 : aIns 180 27 = some (.iconst 0, 1, 0, 0, .int (0)) := by decide +kernel
theorem i_180_28 : aIns 180 28 = some (.iastore, 1, 0, 0, .null) := by decide +kernel
theorem i_180_29 : aIns 180 29 = some (.aload_n 0, 1, 0, 0, .null) := by decide +kernel
theorem i_180_30 : aIns 180 30 = some (.invokevirtual 275, 3, 179, 0, .int 12) := by decide +kernel
theorem i_180_33 : aIns 180 33 = some (.ifCond .ne 11, 3, 0, 0, .null) := by decide +kernel
theorem i_180_36 : aIns 180 36 = some (.bipush (-2), 2, 0, 0, .int (-2)) := by decide +kernel
theorem i_180_38 : aIns 180 38 = some (.aload_n 0, 1, 0, 0, .null) := by decide +kernel
theorem i_180_39 : aIns 180 39 = some (.getfield 93, 3, 12, 9, .null) := by decide +kernel
theorem i_180_42 : aIns 180 42 = some (.isub, 1, 0, 0, .null) := by decide +kernel
theorem i_180_43 : aIns 180 43 = some (.ireturn, 1, 0, 0, .null) := by decide +kernel
theorem i_180_44 : aIns 180 44 = some (.aload_n 0, 1, 0, 0, .null) := by decide +kernel
theorem i_180_45 : aIns 180 45 = some (.dup, 1, 0, 0, .null) := by decide +kernel
theorem i_180_46 : aIns 180 46 = some (.getfield 272, 3, 12, 2, .null) := by decide +kernel
theorem i_180_49 : aIns 180 49 = some (.iconst 1, 1, 0, 0, .int (1)) := by decide +kernel
theorem i_180_50 : aIns 180 50 = some (.iadd, 1, 0, 0, .null) := by decide +kernel
theorem i_180_51 : aIns 180 51 = some (.putfield 272, 3, 12, 2, .null) := by decide +kernel
theorem i_180_54 : aIns 180 54 = some (.aload_n 0, 1, 0, 0, .null) := by decide +kernel
theorem i_180_55 : aIns 180 55 = some (.getfield 272, 3, 12, 2, .null) := by decide +kernel
theorem i_180_58 : aIns 180 58 = some (.iconst 1, 1, 0, 0, .int (1)) := by decide +kernel
theorem i_180_59 : aIns 180 59 = some (.isub, 1, 0, 0, .null) := by decide +kernel
theorem i_180_60 : aIns 180 60 = some (.ireturn, 1, 0, 0, .null) := by decide +kernel
theorem i_181_0 : aIns 181 0 = some (.aload_n 0, 1, 0, 0, .null) := by decide +kernel
theorem i_181_1 : aIns 181 1 = some (.bipush 6, 2, 0, 0, .int (6)) := by decide +kernel
theorem i_181_3 : aIns 181 3 = some (.putfield 144, 3, 12, 11, .null) := by decide +kernel
theorem i_181_6 : aIns 181 6 = some (.iconst 0, 1, 0, 0, .int (0)) := by decide +kernel
theorem i_181_7 : aIns 181 7 = some (.istore_n 1, 1, 0, 0, .null) := by decide +kernel
theorem i_181_8 : aIns 181 8 = some (.iload_n 1, 1, 0, 0, .null) := by decide +kernel
theorem i_181_9 : aIns 181 9 = some (.bipush 80, 2, 0, 0, .int (80)) := by decide +kernel
theorem i_181_11 : aIns 181 11 = some (.if_icmp .ge 16, 3, 0, 0, .null) := by decide +kernel
theorem i_181_14 : aIns 181 14 = some (.aload_n 0, 1, 0, 0, .null) := by decide +kernel
theorem i_181_15 : aIns 181 15 = some (.getfield 26, 3, 12, 7, .null) := by decide +kernel
theorem i_181_18 : aIns 181 18 = some (.iload_n 1, 1, 0, 0, .null) := by decide +kernel
theorem i_181_19 : aIns 181 19 = some (.iconst 0, 1, 0, 0, .int (0)) := by decide +kernel
theorem i_181_20 : aIns 181 20 = some (.iastore, 1, 0, 0, .null) := by decide +kernel
theorem i_181_21 : aIns 181 21 = some (.iinc 1 1, 3, 0, 0, .null) := by decide +kernel
theorem i_181_24 : aIns 181 24 = some (.goto (-16), 3, 0, 0, .null) := by decide +kernel
theorem i_181_27 : aIns 181 27 = some (.aload_n 0, 1, 0, 0, .null) := by decide +kernel
theorem i_181_28 : aIns 181 28 = some (.invokevirtual 275, 3, 179, 0, .int 12) := by decide +kernel
theorem i_181_31 : aIns 181 31 = some (.ifCond .ne 11, 3, 0, 0, .null) := by decide +kernel
theorem i_181_34 : aIns 181 34 = some (.bipush (-2), 2, 0, 0, .int (-2)) := by decide +kernel
theorem i_181_36 : aIns 181 36 = some (.aload_n 0, 1, 0, 0, .null) := by decide +kernel
theorem i_181_37 : aIns 181 37 = some (.getfield 93, 3, 12, 9, .null) := by decide +kernel
theorem i_181_40 : aIns 181 40 = some (.isub, 1, 0, 0, .null) := by decide +kernel
theorem i_181_41 : aIns 181 41 = some (.ireturn, 1, 0, 0, .null) := by decide +kernel
theorem i_181_42 : aIns 181 42 = some (.iconst 0, 1, 0, 0, .int (0)) := by decide +kernel
theorem i_181_43 : aIns 181 43 = some (.istore_n 1, 1, 0, 0, .null) := by decide +kernel
theorem i_181_44 : aIns 181 44 = some (.iload_n 1, 1, 0, 0, .null) := by decide +kernel
theorem i_181_45 : aIns 181 45 = some (.sipush 181, 3, 0, 0, .int (181)) := by decide +kernel
theorem i_181_48 : aIns 181 48 = some (.if_icmp .ge 32, 3, 0, 0, .null) := by decide +kernel
theorem i_181_51 : aIns 181 51 = some (.aload_n 0, 1, 0, 0, .null) := by decide +kernel
theorem i_181_52 : aIns 181 52 = some (.getfield 39, 3, 12, 20, .null) := by decide +kernel
theorem i_181_55 : aIns 181 55 = some (.iload_n 1, 1, 0, 0, .null) := by decide +kernel
theorem i_181_56 : aIns 181 56 = some (.iload_n 1, 1, 0, 0, .null) := by decide +kernel
theorem i_181_57 : aIns 181 57 = some (.sipush 140, 3, 0, 0, .int (140)) := by decide +kernel
theorem i_181_60 : aIns 181 60 = some (.if_icmp .ge 12, 3, 0, 0, .null) := by decide +kernel
theorem i_181_63 : aIns 181 63 = some (.aload_n 0, 1, 0, 0, .null) := by decide +kernel
theorem i_181_64 : aIns 181 64 = some (.getfield 26, 3, 12, 7, .null) := by decide +kernel
theorem i_181_67 : aIns 181 67 = some (.iload_n 1, 1, 0, 0, .null) := by decide +kernel
theorem i_181_68 : aIns 181 68 = some (.iaload, 1, 0, 0, .null) := by decide +kernel
theorem i_181_69 : aIns 181 69 = some (.goto 4, 3, 0, 0, .null) := by decide +kernel
theorem i_181_72 : aIns 181 72 = some (.iconst 0, 1, 0, 0, .int (0)) := by decide +kernel
theorem i_181_73 : aIns 181 73 = some (.iastore, 1, 0, 0, .null) := by decide +kernel
theorem i_181_74 : aIns 181 74 = some (.iinc 1 1, 3, 0, 0, .null) := by decide +kernel
theorem i_181_77 : aIns 181 77 = some (.goto (-33), 3, 0, 0, .null) := by decide +kernel
theorem i_181_80 : aIns 181 80 = some (.aload_n 0, 1, 0, 0, .null) := by decide +kernel
theorem i_181_81 : aIns 181 81 = some (.iconst 0, 1, 0, 0, .int (0)) := by decide +kernel
theorem i_181_82 : aIns 181 82 = some (.putfield 278, 3, 12, 27, .null) := by decide +kernel
theorem i_181_85 : aIns 181 85 = some (.aload_n 0, 1, 0, 0, .null) := by decide +kernel
theorem i_181_86 : aIns 181 86 = some (.getfield 39, 3, 12, 20, .null) := by decide +kernel
theorem i_181_89 : aIns 181 89 = some (.iconst 1, 1, 0, 0, .int (1)) := by decide +kernel
theorem i_181_90 : aIns 181 90 = some (.iaload, 1, 0, 0, .null) := by decide +kernel
theorem i_181_91 : aIns 181 91 = some (.ireturn, 1, 0, 0, .null) := by decide +kernel
theorem i_182_0 : aIns 182 0 = some (.iload_n 1, 1, 0, 0, .null) := by decide +kernel
theorem i_182_1 : aIns 182 1 = some (.ifCond .lt 15, 3, 0, 0, .null) := by decide +kernel
theorem i_182_4 : aIns 182 4 = some (.iload_n 1, 1, 0, 0, .null) := by decide +kernel
theorem i_182_5 : aIns 182 5 = some (.aload_n 0, 1, 0, 0, .null) := by decide +kernel
theorem i_182_6 : aIns 182 6 = some (.getfield 272, 3, 12, 2, .null) := by decide +kernel
theorem i_182_9 : aIns 182 9 = some (.if_icmp .ge 7, 3, 0, 0, .null) := by decide +kernel
theorem i_182_12 : aIns 182 12 = some (.iconst 1, 1, 0, 0, .int (1)) := by decide +kernel
theorem i_182_13 : aIns 182 13 = some (.goto 4, 3, 0, 0, .null) := by decide +kernel
theorem i_182_16 : aIns 182 16 = some (.iconst 0, 1, 0, 0, .int (0)) := by decide +kernel
theorem i_182_17 : aIns 182 17 = some (.ireturn, 1, 1, 0, .null) := by decide +kernel
theorem i_183_0 : aIns 183 0 = some (.aload_n 0, 1, 0, 0, .null) := by decide +kernel
theorem i_183_1 : aIns 183 1 = some (.getfield 32, 3, 12, 17, .null) := by decide +kernel
theorem i_183_4 : aIns 183 4 = some (.aload_n 0, 1, 0, 0, .null) := by decide +kernel
theorem i_183_5 : aIns 183 5 = some (.getfield 281, 3, 12, 18, .null) := by decide +kernel
theorem i_183_8 : aIns 183 8 = some (.lload_n 1, 1, 0, 0, .null) := by decide +kernel
theorem i_183_9 : aIns 183 9 = some (.lastore, 1, 0, 0, .null) := by decide +kernel
theorem i_183_10 : aIns 183 10 = some (.aload_n 0, 1, 0, 0, .null) := by decide +kernel
theorem i_183_11 : aIns 183 11 = some (.dup, 1, 0, 0, .null) := by decide +kernel
theorem i_183_12 : aIns 183 12 = some (.getfield 281, 3, 12, 18, .null) := by decide +kernel
theorem i_183_15 : aIns 183 15 = some (.iconst 1, 1, 0, 0, .int (1)) := by decide +kernel
theorem i_183_16 : aIns 183 16 = some (.iadd, 1, 0, 0, .null) := by decide +kernel
theorem i_183_17 : aIns 183 17 = some (.putfield 281, 3, 12, 18, .null) := by decide +kernel
theorem i_183_20 : aIns 183 20 = some (.return_, 1, 0, 0, .null) := by decide +kernel
theorem i_184_0 : aIns 184 0 = some (.aload_n 0, 1, 0, 0, .null) := by decide +kernel
theorem i_184_1 : aIns 184 1 = some (.dup, 1, 0, 0, .null) := by decide +kernel
theorem i_184_2 : aIns 184 2 = some (.getfield 281, 3, 12, 18, .null) := by decide +kernel
theorem i_184_5 : aIns 184 5 = some (.iconst 1, 1, 0, 0, .int (1)) := by decide +kernel
theorem i_184_6 : aIns 184 6 = some (.isub, 1, 0, 0, .null) := by decide +kernel
theorem i_184_7 : aIns 184 7 = some (.putfield 281, 3, 12, 18, .null) := by decide +kernel
theorem i_184_10 : aIns 184 10 = some (.aload_n 0, 1, 0, 0, .null) := by decide +kernel
theorem i_184_11 : aIns 184 11 = some (.getfield 32, 3, 12, 17, .null) := by decide +kernel
theorem i_184_14 : aIns 184 14 = some (.aload_n 0, 1, 0, 0, .null) := by decide +kernel
theorem i_184_15 : aIns 184 15 = some (.getfield 281, 3, 12, 18, .null) := by decide +kernel
theorem i_184_18 : aIns 184 18 = some (.laload, 1, 0, 0, .null) := by decide +kernel
theorem i_184_19 : aIns 184 19 = some (.lreturn, 1, 0, 0, .null) := by decide +kernel
theorem i_185_0 : aIns 185 0 = some (.iload_n 0, 1, 0, 0, .null) := by decide +kernel
theorem i_185_1 : aIns 185 1 = some (.tableswitch 171 2 14 #[67, 71, 75, 79, 107, 119, 131, 143, 155, 171, 167, 171, 93], 67, 0, 0, .null) := by decide +kernel
theorem i_185_68 : aIns 185 68 = some (.lload_n 1, 1, 0, 0, .null) := by decide +kernel
theorem i_185_69 : aIns 185 69 = some (.lload_n 3, 1, 0, 0, .null) := by decide +kernel
theorem i_185_70 : aIns 185 70 = some (.ladd, 1, 0, 0, .null) := by decide +kernel
theorem i_185_71 : aIns 185 71 = some (.lreturn, 1, 0, 0, .null) := by decide +kernel
theorem i_185_72 : aIns 185 72 = some (.lload_n 1, 1, 0, 0, .null) := by decide +kernel
theorem i_185_73 : aIns 185 73 = some (.lload_n 3, 1, 0, 0, .null) := by decide +kernel
theorem i_185_74 : aIns 185 74 = some (.lsub, 1, 0, 0, .null) := by decide +kernel
theorem i_185_75 : aIns 185 75 = some (.lreturn, 1, 0, 0, .null) := by decide +kernel
theorem i_185_76 : aIns 185 76 = some (.lload_n 1, 1, 0, 0, .null) := by decide +kernel
theorem i_185_77 : aIns 185 77 = some (.lload_n 3, 1, 0, 0, .null) := by decide +kernel
theorem i_185_78 : aIns 185 78 = some (.lmul, 1, 0, 0, .null) := by decide +kernel
theorem i_185_79 : aIns 185 79 = some (.lreturn, 1, 0, 0, .null) := by decide +kernel
theorem i_185_80 : aIns 185 80 = some (.lload_n 3, 1, 0, 0, .null) := by decide +kernel
theorem i_185_81 : aIns 185 81 = some (.lconst 0, 1, 0, 0, .long 0) := by decide +kernel
theorem i_185_82 : aIns 185 82 = some (.lcmp, 1, 0, 0, .null) := by decide +kernel
theorem i_185_83 : aIns 185 83 = some (.ifCond .ne 7, 3, 0, 0, .null) := by decide +kernel
theorem i_185_86 : aIns 185 86 = some (.lconst 0, 1, 0, 0, .long 0) := by decide +kernel
theorem i_185_87 : aIns 185 87 = some (.goto 6, 3, 0, 0, .null) := by decide +kernel
theorem i_185_90 : aIns 185 90 = some (.lload_n 1, 1, 0, 0, .null) := by decide +kernel
theorem i_185_91 : aIns 185 91 = some (.lload_n 3, 1, 0, 0, .null) := by decide +kernel
theorem i_185_92 : aIns 185 92 = some (.ldiv, 1, 0, 0, .null) := by decide +kernel
theorem i_185_93 : aIns 185 93 = some (.lreturn, 1, 0, 0, .null) := by decide +kernel
theorem i_185_94 : aIns 185 94 = some (.lload_n 3, 1, 0, 0, .null) := by decide +kernel
theorem i_185_95 : aIns 185 95 = some (.lconst 0, 1, 0, 0, .long 0) := by decide +kernel
theorem i_185_96 : aIns 185 96 = some (.lcmp, 1, 0, 0, .null) := by decide +kernel
theorem i_185_97 : aIns 185 97 = some (.ifCond .ne 7, 3, 0, 0, .null) := by decide +kernel
theorem i_185_100 : aIns 185 100 = some (.lconst 0, 1, 0, 0, .long 0) := by decide +kernel
theorem i_185_101 : aIns 185 101 = some (.goto 6, 3, 0, 0, .null) := by decide +kernel
theorem i_185_104 : aIns 185 104 = some (.lload_n 1, 1, 0, 0, .null) := by decide +kernel
theorem i_185_105 : aIns 185 105 = some (.lload_n 3, 1, 0, 0, .null) := by decide +kernel
theorem i_185_106 : aIns 185 106 = some (.lrem, 1, 0, 0, .null) := by decide +kernel
theorem i_185_107 : aIns 185 107 = some (.lreturn, 1, 0, 0, .null) := by decide +kernel
theorem i_185_108 : aIns 185 108 = some (.lload_n 1, 1, 0, 0, .null) := by decide +kernel
theorem i_185_109 : aIns 185 109 = some (.lload_n 3, 1, 0, 0, .null) := by decide +kernel
theorem i_185_110 : aIns 185 110 = some (.lcmp, 1, 0, 0, .null) := by decide +kernel
theorem i_185_111 : aIns 185 111 = some (.ifCond .ge 7, 3, 0, 0, .null) := by decide +kernel
theorem i_185_114 : aIns 185 114 = some (.lconst 1, 1, 0, 0, .long 1) := by decide +kernel
theorem i_185_115 : aIns 185 115 = some (.goto 4, 3, 0, 0, .null) := by decide +kernel
theorem i_185_118 : aIns 185 118 = some (.lconst 0, 1, 0, 0, .long 0) := by decide +kernel
theorem i_185_119 : aIns 185 119 = some (.lreturn, 1, 0, 0, .null) := by decide +kernel
theorem i_185_120 : aIns 185 120 = some (.lload_n 1, 1, 0, 0, .null) := by decide +kernel
theorem i_185_121 : aIns 185 121 = some (.lload_n 3, 1, 0, 0, .null) := by decide +kernel
theorem i_185_122 : aIns 185 122 = some (.lcmp, 1, 0, 0, .null) := by decide +kernel
theorem i_185_123 : aIns 185 123 = some (.ifCond .gt 7, 3, 0, 0, .null) := by decide +kernel
theorem i_185_126 : aIns 185 126 = some (.lconst 1, 1, 0, 0, .long 1) := by decide +kernel
theorem i_185_127 : aIns 185 127 = some (.goto 4, 3, 0, 0, .null) := by decide +kernel
theorem i_185_130 : aIns 185 130 = some (.lconst 0, 1, 0, 0, .long 0) := by decide +kernel
theorem i_185_131 : aIns 185 131 = some (.lreturn, 1, 0, 0, .null) := by decide +kernel
theorem i_185_132 : aIns 185 132 = some (.lload_n 1, 1, 0, 0, .null) := by decide +kernel
theorem i_185_133 : aIns 185 133 = some (.lload_n 3, 1, 0, 0, .null) := by decide +kernel
theorem i_185_134 : aIns 185 134 = some (.lcmp, 1, 0, 0, .null) := by decide +kernel
theorem i_185_135 : aIns 185 135 = some (.ifCond .ne 7, 3, 0, 0, .null) := by decide +kernel
theorem i_185_138 : aIns 185 138 = some (.lconst 1, 1, 0, 0, .long 1) := by decide +kernel
theorem i_185_139 : aIns 185 139 = some (.goto 4, 3, 0, 0, .null) := by decide +kernel
theorem i_185_142 : aIns 185 142 = some (.lconst 0, 1, 0, 0, .long 0) := by decide +kernel
theorem i_185_143 : aIns 185 143 = some (.lreturn, 1, 0, 0, .null) := by decide +kernel
theorem i_185_144 : aIns 185 144 = some (.lload_n 1, 1, 0, 0, .null) := by decide +kernel
theorem i_185_145 : aIns 185 145 = some (.lload_n 3, 1, 0, 0, .null) := by decide +kernel
theorem i_185_146 : aIns 185 146 = some (.lcmp, 1, 0, 0, .null) := by decide +kernel
theorem i_185_147 : aIns 185 147 = some (.ifCond .lt 7, 3, 0, 0, .null) := by decide +kernel
theorem i_185_150 : aIns 185 150 = some (.lconst 1, 1, 0, 0, .long 1) := by decide +kernel
theorem i_185_151 : aIns 185 151 = some (.goto 4, 3, 0, 0, .null) := by decide +kernel
theorem i_185_154 : aIns 185 154 = some (.lconst 0, 1, 0, 0, .long 0) := by decide +kernel
theorem i_185_155 : aIns 185 155 = some (.lreturn, 1, 0, 0, .null) := by decide +kernel
theorem i_185_156 : aIns 185 156 = some (.lload_n 1, 1, 0, 0, .null) := by decide +kernel
theorem i_185_157 : aIns 185 157 = some (.lload_n 3, 1, 0, 0, .null) := by decide +kernel
theorem i_185_158 : aIns 185 158 = some (.lcmp, 1, 0, 0, .null) := by decide +kernel
theorem i_185_159 : aIns 185 159 = some (.ifCond .le 7, 3, 0, 0, .null) := by decide +kernel
theorem i_185_162 : aIns 185 162 = some (.lconst 1, 1, 0, 0, .long 1) := by decide +kernel
theorem i_185_163 : aIns 185 163 = some (.goto 4, 3, 0, 0, .null) := by decide +kernel
theorem i_185_166 : aIns 185 166 = some (.lconst 0, 1, 0, 0, .long 0) := by decide +kernel
theorem i_185_167 : aIns 185 167 = some (.lreturn, 1, 0, 0, .null) := by decide +kernel
theorem i_185_168 : aIns 185 168 = some (.lload_n 1, 1, 0, 0, .null) := by decide +kernel
theorem i_185_169 : aIns 185 169 = some (.lload_n 3, 1, 0, 0, .null) := by decide +kernel
theorem i_185_170 : aIns 185 170 = some (.land, 1, 0, 0, .null) := by decide +kernel
theorem i_185_171 : aIns 185 171 = some (.lreturn, 1, 0, 0, .null) := by decide +kernel
theorem i_185_172 : aIns 185 172 = some (.lload_n 1, 1, 0, 0, .null) := by decide +kernel
theorem i_185_173 : aIns 185 173 = some (.lload_n 3, 1, 0, 0, .null) := by decide +kernel
theorem i_185_174 : aIns 185 174 = some (.lor, 1, 0, 0, .null) := by decide +kernel
theorem i_185_175 : aIns 185 175 = some (.lreturn, 1, 0, 0, .null) := by decide +kernel
theorem i_186_0 : aIns 186 0 = some (.aload_n 0, 1, 0, 0, .null) := by decide +kernel
theorem i_186_1 : aIns 186 1 = some (.iconst 0, 1, 0, 0, .int (0)) := by decide +kernel
theorem i_186_2 : aIns 186 2 = some (.putfield 281, 3, 12, 18, .null) := by decide +kernel
theorem i_186_5 : aIns 186 5 = some (.iload_n 2, 1, 0, 0, .null) := by decide +kernel
theorem i_186_6 : aIns 186 6 = some (.istore 4, 2, 0, 0, .null) := by decide +kernel
theorem i_186_8 : aIns 186 8 = some (.iload 4, 2, 0, 0, .null) := by decide +kernel
theorem i_186_10 : aIns 186 10 = some (.iload_n 3, 1, 0, 0, .null) := by decide +kernel
theorem i_186_11 : aIns 186 11 = some (.if_icmp .ge 124, 3, 0, 0, .null) := by decide +kernel
theorem i_186_14 : aIns 186 14 = some (.aload_n 0, 1, 0, 0, .null) := by decide +kernel
theorem i_186_15 : aIns 186 15 = some (.getfield 13, 3, 12, 3, .null) := by decide +kernel
theorem i_186_18 : aIns 186 18 = some (.sipush 400, 3, 0, 0, .int (400)) := by decide +kernel
theorem i_186_21 : aIns 186 21 = some (.iload_n 1, 1, 0, 0, .null) := by decide +kernel
theorem i_186_22 : aIns 186 22 = some (.imul, 1, 0, 0, .null) := by decide +kernel
theorem i_186_23 : aIns 186 23 = some (.iload 4, 2, 0, 0, .null) := by decide +kernel
theorem i_186_25 : aIns 186 25 = some (.iadd, 1, 0, 0, .null) := by decide +kernel
theorem i_186_26 : aIns 186 26 = some (.iaload, 1, 0, 0, .null) := by decide +kernel
theorem i_186_27 : aIns 186 27 = some (.bipush 15, 2, 0, 0, .int (15)) := by decide +kernel
theorem i_186_29 : aIns 186 29 = some (.iand, 1, 0, 0, .null) := by decide +kernel
theorem i_186_30 : aIns 186 30 = some (.istore 5, 2, 0, 0, .null) := by decide +kernel
theorem i_186_32 : aIns 186 32 = some (.aload_n 0, 1, 0, 0, .null) := by decide +kernel
theorem i_186_33 : aIns 186 33 = some (.getfield 13, 3, 12, 3, .null) := by decide +kernel
theorem i_186_36 : aIns 186 36 = some (.sipush 400, 3, 0, 0, .int (400)) := by decide +kernel
theorem i_186_39 : aIns 186 39 = some (.iload_n 1, 1, 0, 0, .null) := by decide +kernel
theorem i_186_40 : aIns 186 40 = some (.imul, 1, 0, 0, .null) := by decide +kernel
theorem i_186_41 : aIns 186 41 = some (.iload 4, 2, 0, 0, .null) := by decide +kernel
theorem i_186_43 : aIns 186 43 = some (.iadd, 1, 0, 0, .null) := by decide +kernel
theorem i_186_44 : aIns 186 44 = some (.iaload, 1, 0, 0, .null) := by decide +kernel
theorem i_186_45 : aIns 186 45 = some (.iconst 4, 1, 0, 0, .int (4)) := by decide +kernel
theorem i_186_46 : aIns 186 46 = some (.ishr, 1, 0, 0, .null) := by decide +kernel
theorem i_186_47 : aIns 186 47 = some (.istore 6, 2, 0, 0, .null) := by decide +kernel
theorem i_186_49 : aIns 186 49 = some (.iload 5, 2, 0, 0, .null) := by decide +kernel
theorem i_186_51 : aIns 186 51 = some (.ifCond .ne 13, 3, 0, 0, .null) := by decide +kernel
theorem i_186_54 : aIns 186 54 = some (.aload_n 0, 1, 0, 0, .null) := by decide +kernel
theorem i_186_55 : aIns 186 55 = some (.iload 6, 2, 0, 0, .null) := by decide +kernel
theorem i_186_57 : aIns 186 57 = some (.i2l, 1, 0, 0, .null) := by decide +kernel
theorem i_186_58 : aIns 186 58 = some (.invokevirtual 284, 3, 183, 1, .int 12) := by decide +kernel
theorem i_186_61 : aIns 186 61 = some (.goto 68, 3, 0, 0, .null) := by decide +kernel
theorem i_186_64 : aIns 186 64 = some (.iload 5, 2, 0, 0, .null) := by decide +kernel
theorem i_186_66 : aIns 186 66 = some (.iconst 1, 1, 0, 0, .int (1)) := by decide +kernel
theorem i_186_67 : aIns 186 67 = some (.if_icmp .ne 17, 3, 0, 0, .null) := by decide +kernel
theorem i_186_70 : aIns 186 70 = some (.aload_n 0, 1, 0, 0, .null) := by decide +kernel
theorem i_186_71 : aIns 186 71 = some (.aload_n 0, 1, 0, 0, .null) := by decide +kernel
theorem i_186_72 : aIns 186 72 = some (.getfield 36, 3, 12, 19, .null) := by decide +kernel
theorem i_186_75 : aIns 186 75 = some (.iload 6, 2, 0, 0, .null) := by decide +kernel
theorem i_186_77 : aIns 186 77 = some (.laload, 1, 0, 0, .null) := by decide +kernel
theorem i_186_78 : aIns 186 78 = some (.invokevirtual 284, 3, 183, 1, .int 12) := by decide +kernel
theorem i_186_81 : aIns 186 81 = some (.goto 48, 3, 0, 0, .null) := by decide +kernel
theorem i_186_84 : aIns 186 84 = some (.iload 5, 2, 0, 0, .null) := by decide +kernel
theorem i_186_86 : aIns 186 86 = some (.bipush 11, 2, 0, 0, .int (11)) := by decide +kernel
theorem i_186_88 : aIns 186 88 = some (.if_icmp .ne 16, 3, 0, 0, .null) := by decide +kernel
theorem i_186_91 : aIns 186 91 = some (.aload_n 0, 1, 0, 0, .null) := by decide +kernel
theorem i_186_92 : aIns 186 92 = some (.lconst 1, 1, 0, 0, .long 1) := by decide +kernel
theorem i_186_93 : aIns 186 93 = some (.aload_n 0, 1, 0, 0, .null) := by decide +kernel
theorem i_186_94 : aIns 186 94 = some (.invokevirtual 288, 3, 184, 0, .int 12) := by decide +kernel
theorem i_186_97 : aIns 186 97 = some (.lsub, 1, 0, 0, .null) := by decide +kernel
theorem i_186_98 : aIns 186 98 = some (.invokevirtual 284, 3, 183, 1, .int 12) := by decide +kernel
theorem i_186_101 : aIns 186 101 = some (.goto 28, 3, 0, 0, .null) := by decide +kernel
theorem i_186_104 : aIns 186 104 = some (.aload_n 0, 1, 0, 0, .null) := by decide +kernel
theorem i_186_105 : aIns 186 105 = some (.invokevirtual 288, 3, 184, 0, .int 12) := by decide +kernel
theorem i_186_108 : aIns 186 108 = some (.lstore 7, 2, 0, 0, .null) := by decide +kernel
theorem i_186_110 : aIns 186 110 = some (.aload_n 0, 1, 0, 0, .null) := by decide +kernel
theorem i_186_111 : aIns 186 111 = some (.invokevirtual 288, 3, 184, 0, .int 12) := by decide +kernel
theorem i_186_114 : aIns 186 114 = some (.lstore 9, 2, 0, 0, .null) := by decide +kernel
theorem i_186_116 : aIns 186 116 = some (.aload_n 0, 1, 0, 0, .null) := by decide +kernel
theorem i_186_117 : aIns 186 117 = some (.iload 5, 2, 0, 0, .null) := by decide +kernel
theorem i_186_119 : aIns 186 119 = some (.lload 9, 2, 0, 0, .null) := by decide +kernel
theorem i_186_121 : aIns 186 121 = some (.lload 7, 2, 0, 0, .null) := by decide +kernel
theorem i_186_123 : aIns 186 123 = some (.invokestatic 292, 3, 185, 3, .null) := by decide +kernel
theorem i_186_126 : aIns 186 126 = some (.invokevirtual 284, 3, 183, 1, .int 12) := by decide +kernel
theorem i_186_129 : aIns 186 129 = some (.iinc 4 1, 3, 0, 0, .null) := by decide +kernel
theorem i_186_132 : aIns 186 132 = some (.goto (-124), 3, 0, 0, .null) := by decide +kernel
theorem i_186_135 : aIns 186 135 = some (.aload_n 0, 1, 0, 0, .null) := by decide +kernel
theorem i_186_136 : aIns 186 136 = some (.invokevirtual 288, 3, 184, 0, .int 12) := by decide +kernel
theorem i_186_139 : aIns 186 139 = some (.lreturn, 1, 0, 0, .null) := by decide +kernel
theorem i_187_0 : aIns 187 0 = some (.aload_n 0, 1, 0, 0, .null) := by decide +kernel
theorem i_187_1 : aIns 187 1 = some (.getfield 39, 3, 12, 20, .null) := by decide +kernel
theorem i_187_4 : aIns 187 4 = some (.iconst 0, 1, 0, 0, .int (0)) := by decide +kernel
theorem i_187_5 : aIns 187 5 = some (.iaload, 1, 0, 0, .null) := by decide +kernel
theorem i_187_6 : aIns 187 6 = some (.iconst 1, 1, 0, 0, .int (1)) := by decide +kernel
theorem i_187_7 : aIns 187 7 = some (.if_icmp .ne 7, 3, 0, 0, .null) := by decide +kernel
theorem i_187_10 : aIns 187 10 = some (.iconst 1, 1, 0, 0, .int (1)) := by decide +kernel
theorem i_187_11 : aIns 187 11 = some (.goto 4, 3, 0, 0, .null) := by decide +kernel
theorem i_187_14 : aIns 187 14 = some (.iconst 0, 1, 0, 0, .int (0)) := by decide +kernel
theorem i_187_15 : aIns 187 15 = some (.ireturn, 1, 1, 0, .null) := by decide +kernel
theorem i_188_0 : aIns 188 0 = some (.iload_n 1, 1, 0, 0, .null) := by decide +kernel
theorem i_188_1 : aIns 188 1 = some (.ifCond .lt 17, 3, 0, 0, .null) := by decide +kernel
theorem i_188_4 : aIns 188 4 = some (.iload_n 1, 1, 0, 0, .null) := by decide +kernel
theorem i_188_5 : aIns 188 5 = some (.aload_n 0, 1, 0, 0, .null) := by decide +kernel
theorem i_188_6 : aIns 188 6 = some (.getfield 39, 3, 12, 20, .null) := by decide +kernel
theorem i_188_9 : aIns 188 9 = some (.iconst 1, 1, 0, 0, .int (1)) := by decide +kernel
theorem i_188_10 : aIns 188 10 = some (.iaload, 1, 0, 0, .null) := by decide +kernel
theorem i_188_11 : aIns 188 11 = some (.if_icmp .ge 7, 3, 0, 0, .null) := by decide +kernel
theorem i_188_14 : aIns 188 14 = some (.iconst 1, 1, 0, 0, .int (1)) := by decide +kernel
theorem i_188_15 : aIns 188 15 = some (.goto 4, 3, 0, 0, .null) := by decide +kernel
theorem i_188_18 : aIns 188 18 = some (.iconst 0, 1, 0, 0, .int (0)) := by decide +kernel
theorem i_188_19 : aIns 188 19 = some (.ireturn, 1, 1, 0, .null) := by decide +kernel
theorem i_189_0 : aIns 189 0 = some (.iload_n 1, 1, 0, 0, .null) := by decide +kernel
theorem i_189_1 : aIns 189 1 = some (.ifCond .lt 17, 3, 0, 0, .null) := by decide +kernel
theorem i_189_4 : aIns 189 4 = some (.iload_n 1, 1, 0, 0, .null) := by decide +kernel
theorem i_189_5 : aIns 189 5 = some (.aload_n 0, 1, 0, 0, .null) := by decide +kernel
theorem i_189_6 : aIns 189 6 = some (.getfield 39, 3, 12, 20, .null) := by decide +kernel
theorem i_189_9 : aIns 189 9 = some (.iconst 2, 1, 0, 0, .int (2)) := by decide +kernel
theorem i_189_10 : aIns 189 10 = some (.iaload, 1, 0, 0, .null) := by decide +kernel
theorem i_189_11 : aIns 189 11 = some (.if_icmp .ge 7, 3, 0, 0, .null) := by decide +kernel
theorem i_189_14 : aIns 189 14 = some (.iconst 1, 1, 0, 0, .int (1)) := by decide +kernel
theorem i_189_15 : aIns 189 15 = some (.goto 4, 3, 0, 0, .null) := by decide +kernel
theorem i_189_18 : aIns 189 18 = some (.iconst 0, 1, 0, 0, .int (0)) := by decide +kernel
theorem i_189_19 : aIns 189 19 = some (.ireturn, 1, 1, 0, .null) := by decide +kernel
theorem i_190_0 : aIns 190 0 = some (.iload_n 1, 1, 0, 0, .null) := by decide +kernel
theorem i_190_1 : aIns 190 1 = some (.ifCond .lt 17, 3, 0, 0, .null) := by decide +kernel
theorem i_190_4 : aIns 190 4 = some (.iload_n 1, 1, 0, 0, .null) := by decide +kernel
theorem i_190_5 : aIns 190 5 = some (.aload_n 0, 1, 0, 0, .null) := by decide +kernel
theorem i_190_6 : aIns 190 6 = some (.getfield 39, 3, 12, 20, .null) := by decide +kernel
theorem i_190_9 : aIns 190 9 = some (.iconst 3, 1, 0, 0, .int (3)) := by decide +kernel
theorem i_190_10 : aIns 190 10 = some (.iaload, 1, 0, 0, .null) := by decide +kernel
theorem i_190_11 : aIns 190 11 = some (.if_icmp .ge 7, 3, 0, 0, .null) := by decide +kernel
theorem i_190_14 : aIns 190 14 = some (.iconst 1, 1, 0, 0, .int (1)) := by decide +kernel
theorem i_190_15 : aIns 190 15 = some (.goto 4, 3, 0, 0, .null) := by decide +kernel
theorem i_190_18 : aIns 190 18 = some (.iconst 0, 1, 0, 0, .int (0)) := by decide +kernel
theorem i_190_19 : aIns 190 19 = some (.ireturn, 1, 1, 0, .null) := by decide +kernel
theorem i_191_0 : aIns 191 0 = some (.aload_n 0, 1, 0, 0, .null) := by decide +kernel
theorem i_191_1 : aIns 191 1 = some (.getfield 39, 3, 12, 20, .null) := by decide +kernel
theorem i_191_4 : aIns 191 4 = some (.bipush 16, 2, 0, 0, .int (16)) := by decide +kernel
theorem i_191_6 : aIns 191 6 = some (.iconst 5, 1, 0, 0, .int (5)) := by decide +kernel
theorem i_191_7 : aIns 191 7 = some (.iload_n 1, 1, 0, 0, .null) := by decide +kernel
theorem i_191_8 : aIns 191 8 = some (.imul, 1, 0, 0, .null) := by decide +kernel
theorem i_191_9 : aIns 191 9 = some (.iadd, 1, 0, 0, .null) := by decide +kernel
theorem i_191_10 : aIns 191 10 = some (.iload_n 2, 1, 0, 0, .null) := by decide +kernel
theorem i_191_11 : aIns 191 11 = some (.iadd, 1, 0, 0, .null) := by decide +kernel
theorem i_191_12 : aIns 191 12 = some (.iaload, 1, 0, 0, .null) := by decide +kernel
theorem i_191_13 : aIns 191 13 = some (.ireturn, 1, 0, 0, .null) := by decide +kernel
theorem i_192_0 : aIns 192 0 = some (.aload_n 0, 1, 0, 0, .null) := by decide +kernel
theorem i_192_1 : aIns 192 1 = some (.getfield 39, 3, 12, 20, .null) := by decide +kernel
theorem i_192_4 : aIns 192 4 = some (.bipush 80, 2, 0, 0, .int (80)) := by decide +kernel
theorem i_192_6 : aIns 192 6 = some (.iconst 2, 1, 0, 0, .int (2)) := by decide +kernel
theorem i_192_7 : aIns 192 7 = some (.iload_n 1, 1, 0, 0, .null) := by decide +kernel
theorem i_192_8 : aIns 192 8 = some (.imul, 1, 0, 0, .null) := by decide +kernel
theorem i_192_9 : aIns 192 9 = some (.iadd, 1, 0, 0, .null) := by decide +kernel
theorem i_192_10 : aIns 192 10 = some (.iaload, 1, 0, 0, .null) := by decide +kernel
theorem i_192_11 : aIns 192 11 = some (.ireturn, 1, 0, 0, .null) := by decide +kernel
theorem i_193_0 : aIns 193 0 = some (.aload_n 0, 1, 0, 0, .null) := by decide +kernel
theorem i_193_1 : aIns 193 1 = some (.getfield 39, 3, 12, 20, .null) := by decide +kernel
theorem i_193_4 : aIns 193 4 = some (.bipush 80, 2, 0, 0, .int (80)) := by decide +kernel
theorem i_193_6 : aIns 193 6 = some (.iconst 2, 1, 0, 0, .int (2)) := by decide +kernel
theorem i_193_7 : aIns 193 7 = some (.iload_n 1, 1, 0, 0, .null) := by decide +kernel
theorem i_193_8 : aIns 193 8 = some (.imul, 1, 0, 0, .null) := by decide +kernel
theorem i_193_9 : aIns 193 9 = some (.iadd, 1, 0, 0, .null) := by decide +kernel
theorem i_193_10 : aIns 193 10 = some (.iconst 1, 1, 0, 0, .int (1)) := by decide +kernel
theorem i_193_11 : aIns 193 11 = some (.iadd, 1, 0, 0, .null) := by decide +kernel
theorem i_193_12 : aIns 193 12 = some (.iaload, 1, 0, 0, .null) := by decide +kernel
theorem i_193_13 : aIns 193 13 = some (.ireturn, 1, 0, 0, .null) := by decide +kernel
theorem i_194_0 : aIns 194 0 = some (.aload_n 0, 1, 0, 0, .null) := by decide +kernel
theorem i_194_1 : aIns 194 1 = some (.getfield 39, 3, 12, 20, .null) := by decide +kernel
theorem i_194_4 : aIns 194 4 = some (.bipush 120, 2, 0, 0, .int (120)) := by decide +kernel
theorem i_194_6 : aIns 194 6 = some (.iconst 4, 1, 0, 0, .int (4)) := by decide +kernel
theorem i_194_7 : aIns 194 7 = some (.iload_n 1, 1, 0, 0, .null) := by decide +kernel
theorem i_194_8 : aIns 194 8 = some (.imul, 1, 0, 0, .null) := by decide +kernel
theorem i_194_9 : aIns 194 9 = some (.iadd, 1, 0, 0, .null) := by decide +kernel
theorem i_194_10 : aIns 194 10 = some (.iload_n 2, 1, 0, 0, .null) := by decide +kernel
theorem i_194_11 : aIns 194 11 = some (.iadd, 1, 0, 0, .null) := by decide +kernel
theorem i_194_12 : aIns 194 12 = some (.iaload, 1, 0, 0, .null) := by decide +kernel
theorem i_194_13 : aIns 194 13 = some (.ireturn, 1, 0, 0, .null) := by decide +kernel
theorem i_195_0 : aIns 195 0 = some (.iconst 0, 1, 0, 0, .int (0)) := by decide +kernel
theorem i_195_1 : aIns 195 1 = some (.istore_n 2, 1, 0, 0, .null) := by decide +kernel
theorem i_195_2 : aIns 195 2 = some (.iconst 0, 1, 0, 0, .int (0)) := by decide +kernel
theorem i_195_3 : aIns 195 3 = some (.istore_n 3, 1, 0, 0, .null) := by decide +kernel
theorem i_195_4 : aIns 195 4 = some (.iload_n 3, 1, 0, 0, .null) := by decide +kernel
theorem i_195_5 : aIns 195 5 = some (.aload_n 0, 1, 0, 0, .null) := by decide +kernel
theorem i_195_6 : aIns 195 6 = some (.getfield 39, 3, 12, 20, .null) := by decide +kernel
theorem i_195_9 : aIns 195 9 = some (.bipush 10, 2, 0, 0, .int (10)) := by decide +kernel
theorem i_195_11 : aIns 195 11 = some (.iaload, 1, 0, 0, .null) := by decide +kernel
theorem i_195_12 : aIns 195 12 = some (.if_icmp .ge 51, 3, 0, 0, .null) := by decide +kernel
theorem i_195_15 : aIns 195 15 = some (.bipush 108, 2, 0, 0, .int (108)) := by decide +kernel
theorem i_195_17 : aIns 195 17 = some (.iconst 3, 1, 0, 0, .int (3)) := by decide +kernel
theorem i_195_18 : aIns 195 18 = some (.iload_n 3, 1, 0, 0, .null) := by decide +kernel
theorem i_195_19 : aIns 195 19 = some (.imul, 1, 0, 0, .null) := by decide +kernel
theorem i_195_20 : aIns 195 20 = some (.iadd, 1, 0, 0, .null) := by decide +kernel
theorem i_195_21 : aIns 195 21 = some (.istore 4, 2, 0, 0, .null) := by decide +kernel
theorem i_195_23 : aIns 195 23 = some (.iload_n 1, 1, 0, 0, .null) := by decide +kernel
theorem i_195_24 : aIns 195 24 = some (.aload_n 0, 1, 0, 0, .null) := by decide +kernel
theorem i_195_25 : aIns 195 25 = some (.getfield 39, 3, 12, 20, .null) := by decide +kernel
theorem i_195_28 : aIns 195 28 = some (.iload 4, 2, 0, 0, .null) := by decide +kernel
theorem i_195_30 : aIns 195 30 = some (.iaload, 1, 0, 0, .null) := by decide +kernel
theorem i_195_31 : aIns 195 31 = some (.if_icmp .lt 26, 3, 0, 0, .null) := by decide +kernel
theorem i_195_34 : aIns 195 34 = some (.iload_n 1, 1, 0, 0, .null) := by decide +kernel
theorem i_195_35 : aIns 195 35 = some (.aload_n 0, 1, 0, 0, .null) := by decide +kernel
theorem i_195_36 : aIns 195 36 = some (.getfield 39, 3, 12, 20, .null) := by decide +kernel
theorem i_195_39 : aIns 195 39 = some (.iload 4, 2, 0, 0, .null) := by decide +kernel
theorem i_195_41 : aIns 195 41 = some (.iconst 1, 1, 0, 0, .int (1)) := by decide +kernel
theorem i_195_42 : aIns 195 42 = some (.iadd, 1, 0, 0, .null) := by decide +kernel
theorem i_195_43 : aIns 195 43 = some (.iaload, 1, 0, 0, .null) := by decide +kernel
theorem i_195_44 : aIns 195 44 = some (.if_icmp .gt 13, 3, 0, 0, .null) := by decide +kernel
theorem i_195_47 : aIns 195 47 = some (.aload_n 0, 1, 0, 0, .null) := by decide +kernel
theorem i_195_48 : aIns 195 48 = some (.getfield 39, 3, 12, 20, .null) := by decide +kernel
theorem i_195_51 : aIns 195 51 = some (.iload 4, 2, 0, 0, .null) := by decide +kernel
theorem i_195_53 : aIns 195 53 = some (.iconst 2, 1, 0, 0, .int (2)) := by decide +kernel
theorem i_195_54 : aIns 195 54 = some (.iadd, 1, 0, 0, .null) := by decide +kernel
theorem i_195_55 : aIns 195 55 = some (.iaload, 1, 0, 0, .null) := by decide +kernel
theorem i_195_56 : aIns 195 56 = some (.istore_n 2, 1, 0, 0, .null) := by decide +kernel
theorem i_195_57 : aIns 195 57 = some (.iinc 3 1, 3, 0, 0, .null) := by decide +kernel
theorem i_195_60 : aIns 195 60 = some (.goto (-56), 3, 0, 0, .null) := by decide +kernel
theorem i_195_63 : aIns 195 63 = some (.iload_n 2, 1, 0, 0, .null) := by decide +kernel
theorem i_195_64 : aIns 195 64 = some (.ireturn, 1, 0, 0, .null) := by decide +kernel
theorem i_196_0 : aIns 196 0 = some (.iload_n 1, 1, 0, 0, .null) := by decide +kernel
theorem i_196_1 : aIns 196 1 = some (.iconst (-1), 1, 0, 0, .int (-1)) := by decide +kernel
theorem i_196_2 : aIns 196 2 = some (.if_icmp .eq 14, 3, 0, 0, .null) := by decide +kernel
theorem i_196_5 : aIns 196 5 = some (.aload_n 0, 1, 0, 0, .null) := by decide +kernel
theorem i_196_6 : aIns 196 6 = some (.iload_n 1, 1, 0, 0, .null) := by decide +kernel
theorem i_196_7 : aIns 196 7 = some (.invokevirtual 296, 3, 182, 1, .int 12) := by decide +kernel
theorem i_196_10 : aIns 196 10 = some (.ifCond .ne 6, 3, 0, 0, .null) := by decide +kernel
theorem i_196_13 : aIns 196 13 = some (.bipush (-2), 2, 0, 0, .int (-2)) := by decide +kernel
theorem i_196_15 : aIns 196 15 = some (.ireturn, 1, 0, 0, .null) := by decide +kernel
theorem i_196_16 : aIns 196 16 = some (.aload_n 0, 1, 0, 0, .null) := by decide +kernel
theorem i_196_17 : aIns 196 17 = some (.getfield 42, 3, 12, 21, .null) := by decide +kernel
theorem i_196_20 : aIns 196 20 = some (.istore_n 2, 1, 0, 0, .null) := by decide +kernel
theorem i_196_21 : aIns 196 21 = some (.aload_n 0, 1, 0, 0, .null) := by decide +kernel
theorem i_196_22 : aIns 196 22 = some (.iload_n 1, 1, 0, 0, .null) := by decide +kernel
theorem i_196_23 : aIns 196 23 = some (.putfield 42, 3, 12, 21, .null) := by decide +kernel
theorem i_196_26 : aIns 196 26 = some (.iload_n 2, 1, 0, 0, .null) := by decide +kernel
theorem i_196_27 : aIns 196 27 = some (.ireturn, 1, 0, 0, .null) := by decide +kernel
theorem i_197_0 : aIns 197 0 = some (.iconst 0, 1, 0, 0, .int (0)) := by decide +kernel
theorem i_197_1 : aIns 197 1 = some (.istore_n 2, 1, 0, 0, .null) := by decide +kernel
theorem i_197_2 : aIns 197 2 = some (.iload_n 2, 1, 0, 0, .null) := by decide +kernel
theorem i_197_3 : aIns 197 3 = some (.aload_n 0, 1, 0, 0, .null) := by decide +kernel
theorem i_197_4 : aIns 197 4 = some (.getfield 23, 3, 12, 6, .null) := by decide +kernel
theorem i_197_7 : aIns 197 7 = some (.iload_n 1, 1, 0, 0, .null) := by decide +kernel
theorem i_197_8 : aIns 197 8 = some (.iaload, 1, 0, 0, .null) := by decide +kernel
theorem i_197_9 : aIns 197 9 = some (.if_icmp .ge 75, 3, 0, 0, .null) := by decide +kernel
theorem i_197_12 : aIns 197 12 = some (.bipush 48, 2, 0, 0, .int (48)) := by decide +kernel
theorem i_197_14 : aIns 197 14 = some (.iload_n 1, 1, 0, 0, .null) := by decide +kernel
theorem i_197_15 : aIns 197 15 = some (.imul, 1, 0, 0, .null) := by decide +kernel
theorem i_197_16 : aIns 197 16 = some (.iconst 4, 1, 0, 0, .int (4)) := by decide +kernel
theorem i_197_17 : aIns 197 17 = some (.iload_n 2, 1, 0, 0, .null) := by decide +kernel
theorem i_197_18 : aIns 197 18 = some (.imul, 1, 0, 0, .null) := by decide +kernel
theorem i_197_19 : aIns 197 19 = some (.iadd, 1, 0, 0, .null) := by decide +kernel
theorem i_197_20 : aIns 197 20 = some (.istore_n 3, 1, 0, 0, .null) := by decide +kernel
theorem i_197_21 : aIns 197 21 = some (.aload_n 0, 1, 0, 0, .null) := by decide +kernel
theorem i_197_22 : aIns 197 22 = some (.getfield 20, 3, 12, 5, .null) := by decide +kernel
theorem i_197_25 : aIns 197 25 = some (.iload_n 3, 1, 0, 0, .null) := by decide +kernel
theorem i_197_26 : aIns 197 26 = some (.iconst 2, 1, 0, 0, .int (2)) := by decide +kernel
theorem i_197_27 : aIns 197 27 = some (.iadd, 1, 0, 0, .null) := by decide +kernel
theorem i_197_28 : aIns 197 28 = some (.iaload, 1, 0, 0, .null) := by decide +kernel
theorem i_197_29 : aIns 197 29 = some (.ifCond .lt 29, 3, 0, 0, .null) := by decide +kernel
theorem i_197_32 : aIns 197 32 = some (.aload_n 0, 1, 0, 0, .null) := by decide +kernel
theorem i_197_33 : aIns 197 33 = some (.iload_n 1, 1, 0, 0, .null) := by decide +kernel
theorem i_197_34 : aIns 197 34 = some (.aload_n 0, 1, 0, 0, .null) := by decide +kernel
theorem i_197_35 : aIns 197 35 = some (.getfield 20, 3, 12, 5, .null) := by decide +kernel
theorem i_197_38 : aIns 197 38 = some (.iload_n 3, 1, 0, 0, .null) := by decide +kernel
theorem i_197_39 : aIns 197 39 = some (.iconst 2, 1, 0, 0, .int (2)) := by decide +kernel
theorem i_197_40 : aIns 197 40 = some (.iadd, 1, 0, 0, .null) := by decide +kernel
theorem i_197_41 : aIns 197 41 = some (.iaload, 1, 0, 0, .null) := by decide +kernel
theorem i_197_42 : aIns 197 42 = some (.aload_n 0, 1, 0, 0, .null) := by decide +kernel
theorem i_197_43 : aIns 197 43 = some (.getfield 20, 3, 12, 5, .null) := by decide +kernel
theorem i_197_46 : aIns 197 46 = some (.iload_n 3, 1, 0, 0, .null) := by decide +kernel
theorem i_197_47 : aIns 197 47 = some (.iconst 3, 1, 0, 0, .int (3)) := by decide +kernel
theorem i_197_48 : aIns 197 48 = some (.iadd, 1, 0, 0, .null) := by decide +kernel
theorem i_197_49 : aIns 197 49 = some (.iaload, 1, 0, 0, .null) := by decide +kernel
theorem i_197_50 : aIns 197 50 = some (.invokevirtual 299, 3, 186, 3, .int 12) := by decide +kernel
theorem i_197_53 : aIns 197 53 = some (.lconst 1, 1, 0, 0, .long 1) := by decide +kernel
theorem i_197_54 : aIns 197 54 = some (.lcmp, 1, 0, 0, .null) := by decide +kernel
theorem i_197_55 : aIns 197 55 = some (.ifCond .ne 23, 3, 0, 0, .null) := by decide +kernel
theorem i_197_58 : aIns 197 58 = some (.aload_n 0, 1, 0, 0, .null) := by decide +kernel
theorem i_197_59 : aIns 197 59 = some (.iload_n 1, 1, 0, 0, .null) := by decide +kernel
theorem i_197_60 : aIns 197 60 = some (.aload_n 0, 1, 0, 0, .null) := by decide +kernel
theorem i_197_61 : aIns 197 61 = some (.getfield 20, 3, 12, 5, .null) := by decide +kernel
theorem i_197_64 : aIns 197 64 = some (.iload_n 3, 1, 0, 0, .null) := by decide +kernel
theorem i_197_65 : aIns 197 65 = some (.iaload, 1, 0, 0, .null) := by decide +kernel
theorem i_197_66 : aIns 197 66 = some (.aload_n 0, 1, 0, 0, .null) := by decide +kernel
theorem i_197_67 : aIns 197 67 = some (.getfield 20, 3, 12, 5, .null) := by decide +kernel
theorem i_197_70 : aIns 197 70 = some (.iload_n 3, 1, 0, 0, .null) := by decide +kernel
theorem i_197_71 : aIns 197 71 = some (.iconst 1, 1, 0, 0, .int (1)) := by decide +kernel
theorem i_197_72 : aIns 197 72 = some (.iadd, 1, 0, 0, .null) := by decide +kernel
theorem i_197_73 : aIns 197 73 = some (.iaload, 1, 0, 0, .null) := by decide +kernel
theorem i_197_74 : aIns 197 74 = some (.invokevirtual 299, 3, 186, 3, .int 12) := by decide +kernel
theorem i_197_77 : aIns 197 77 = some (.lreturn, 1, 0, 0, .null) := by decide +kernel
theorem i_197_78 : aIns 197 78 = some (.iinc 2 1, 3, 0, 0, .null) := by decide +kernel
theorem i_197_81 : aIns 197 81 = some (.goto (-79), 3, 0, 0, .null) := by decide +kernel
theorem i_197_84 : aIns 197 84 = some (.lconst 0, 1, 0, 0, .long 0) := by decide +kernel
theorem i_197_85 : aIns 197 85 = some (.lreturn, 1, 0, 0, .null) := by decide +kernel
theorem i_198_0 : aIns 198 0 = some (.aload_n 0, 1, 0, 0, .null) := by decide +kernel
theorem i_198_1 : aIns 198 1 = some (.iload_n 3, 1, 0, 0, .null) := by decide +kernel
theorem i_198_2 : aIns 198 2 = some (.invokevirtual 303, 3, 195, 1, .int 12) := by decide +kernel
theorem i_198_5 : aIns 198 5 = some (.istore 5, 2, 0, 0, .null) := by decide +kernel
theorem i_198_7 : aIns 198 7 = some (.iload_n 1, 1, 0, 0, .null) := by decide +kernel
theorem i_198_8 : aIns 198 8 = some (.ifCond .ge 35, 3, 0, 0, .null) := by decide +kernel
theorem i_198_11 : aIns 198 11 = some (.aload_n 0, 1, 0, 0, .null) := by decide +kernel
theorem i_198_12 : aIns 198 12 = some (.iload_n 2, 1, 0, 0, .null) := by decide +kernel
theorem i_198_13 : aIns 198 13 = some (.invokevirtual 306, 3, 192, 1, .int 12) := by decide +kernel
theorem i_198_16 : aIns 198 16 = some (.aload_n 0, 1, 0, 0, .null) := by decide +kernel
theorem i_198_17 : aIns 198 17 = some (.iload_n 2, 1, 0, 0, .null) := by decide +kernel
theorem i_198_18 : aIns 198 18 = some (.invokevirtual 306, 3, 192, 1, .int 12) := by decide +kernel
theorem i_198_21 : aIns 198 21 = some (.iload 5, 2, 0, 0, .null) := by decide +kernel
theorem i_198_23 : aIns 198 23 = some (.imul, 1, 0, 0, .null) := by decide +kernel
theorem i_198_24 : aIns 198 24 = some (.bipush 100, 2, 0, 0, .int (100)) := by decide +kernel
theorem i_198_26 : aIns 198 26 = some (.idiv, 1, 0, 0, .null) := by decide +kernel
theorem i_198_27 : aIns 198 27 = some (.isub, 1, 0, 0, .null) := by decide +kernel
theorem i_198_28 : aIns 198 28 = some (.istore 6, 2, 0, 0, .null) := by decide +kernel
theorem i_198_30 : aIns 198 30 = some (.iload 6, 2, 0, 0, .null) := by decide +kernel
theorem i_198_32 : aIns 198 32 = some (.iconst 1, 1, 0, 0, .int (1)) := by decide +kernel
theorem i_198_33 : aIns 198 33 = some (.if_icmp .ge 7, 3, 0, 0, .null) := by decide +kernel
theorem i_198_36 : aIns 198 36 = some (.iconst 1, 1, 0, 0, .int (1)) := by decide +kernel
theorem i_198_37 : aIns 198 37 = some (.goto 5, 3, 0, 0, .null) := by decide +kernel
theorem i_198_40 : aIns 198 40 = some (.iload 6, 2, 0, 0, .null) := by decide +kernel
theorem i_198_42 : aIns 198 42 = some (.ireturn, 1, 0, 0, .null) := by decide +kernel
theorem i_198_43 : aIns 198 43 = some (.aload_n 0, 1, 0, 0, .null) := by decide +kernel
theorem i_198_44 : aIns 198 44 = some (.getfield 36, 3, 12, 19, .null) := by decide +kernel
theorem i_198_47 : aIns 198 47 = some (.iconst 0, 1, 0, 0, .int (0)) := by decide +kernel
theorem i_198_48 : aIns 198 48 = some (.iload_n 2, 1, 0, 0, .null) := by decide +kernel
theorem i_198_49 : aIns 198 49 = some (.i2l, 1, 0, 0, .null) := by decide +kernel
theorem i_198_50 : aIns 198 50 = some (.lastore, 1, 0, 0, .null) := by decide +kernel
theorem i_198_51 : aIns 198 51 = some (.aload_n 0, 1, 0, 0, .null) := by decide +kernel
theorem i_198_52 : aIns 198 52 = some (.getfield 36, 3, 12, 19, .null) := by decide +kernel
theorem i_198_55 : aIns 198 55 = some (.iconst 1, 1, 0, 0, .int (1)) := by decide +kernel
theorem i_198_56 : aIns 198 56 = some (.aload_n 0, 1, 0, 0, .null) := by decide +kernel
theorem i_198_57 : aIns 198 57 = some (.iload_n 2, 1, 0, 0, .null) := by decide +kernel
theorem i_198_58 : aIns 198 58 = some (.invokevirtual 306, 3, 192, 1, .int 12) := by decide +kernel
theorem i_198_61 : aIns 198 61 = some (.i2l, 1, 0, 0, .null) := by decide +kernel
theorem i_198_62 : aIns 198 62 = some (.lastore, 1, 0, 0, .null) := by decide +kernel
theorem i_198_63 : aIns 198 63 = some (.aload_n 0, 1, 0, 0, .null) := by decide +kernel
theorem i_198_64 : aIns 198 64 = some (.getfield 36, 3, 12, 19, .null) := by decide +kernel
theorem i_198_67 : aIns 198 67 = some (.iconst 2, 1, 0, 0, .int (2)) := by decide +kernel
theorem i_198_68 : aIns 198 68 = some (.iload 5, 2, 0, 0, .null) := by decide +kernel
theorem i_198_70 : aIns 198 70 = some (.i2l, 1, 0, 0, .null) := by decide +kernel
theorem i_198_71 : aIns 198 71 = some (.lastore, 1, 0, 0, .null) := by decide +kernel
theorem i_198_72 : aIns 198 72 = some (.aload_n 0, 1, 0, 0, .null) := by decide +kernel
theorem i_198_73 : aIns 198 73 = some (.getfield 36, 3, 12, 19, .null) := by decide +kernel
theorem i_198_76 : aIns 198 76 = some (.iconst 3, 1, 0, 0, .int (3)) := by decide +kernel
theorem i_198_77 : aIns 198 77 = some (.iload_n 3, 1, 0, 0, .null) := by decide +kernel
theorem i_198_78 : aIns 198 78 = some (.i2l, 1, 0, 0, .null) := by decide +kernel
theorem i_198_79 : aIns 198 79 = some (.lastore, 1, 0, 0, .null) := by decide +kernel
theorem i_198_80 : aIns 198 80 = some (.aload_n 0, 1, 0, 0, .null) := by decide +kernel
theorem i_198_81 : aIns 198 81 = some (.getfield 36, 3, 12, 19, .null) := by decide +kernel
theorem i_198_84 : aIns 198 84 = some (.iconst 4, 1, 0, 0, .int (4)) := by decide +kernel
theorem i_198_85 : aIns 198 85 = some (.iload 4, 2, 0, 0, .null) := by decide +kernel
theorem i_198_87 : aIns 198 87 = some (.i2l, 1, 0, 0, .null) := by decide +kernel
theorem i_198_88 : aIns 198 88 = some (.lastore, 1, 0, 0, .null) := by decide +kernel
theorem i_198_89 : aIns 198 89 = some (.aload_n 0, 1, 0, 0, .null) := by decide +kernel
theorem i_198_90 : aIns 198 90 = some (.getfield 36, 3, 12, 19, .null) := by decide +kernel
theorem i_198_93 : aIns 198 93 = some (.iconst 5, 1, 0, 0, .int (5)) := by decide +kernel
theorem i_198_94 : aIns 198 94 = some (.aload_n 0, 1, 0, 0, .null) := by decide +kernel
theorem i_198_95 : aIns 198 95 = some (.iload_n 2, 1, 0, 0, .null) := by decide +kernel
theorem i_198_96 : aIns 198 96 = some (.iconst 0, 1, 0, 0, .int (0)) := by decide +kernel
theorem i_198_97 : aIns 198 97 = some (.invokevirtual 309, 3, 191, 2, .int 12) := by decide +kernel
theorem i_198_100 : aIns 198 100 = some (.i2l, 1, 0, 0, .null) := by decide +kernel
theorem i_198_101 : aIns 198 101 = some (.lastore, 1, 0, 0, .null) := by decide +kernel
theorem i_198_102 : aIns 198 102 = some (.aload_n 0, 1, 0, 0, .null) := by decide +kernel
theorem i_198_103 : aIns 198 103 = some (.getfield 36, 3, 12, 19, .null) := by decide +kernel
theorem i_198_106 : aIns 198 106 = some (.bipush 6, 2, 0, 0, .int (6)) := by decide +kernel
theorem i_198_108 : aIns 198 108 = some (.aload_n 0, 1, 0, 0, .null) := by decide +kernel
theorem i_198_109 : aIns 198 109 = some (.iload_n 2, 1, 0, 0, .null) := by decide +kernel
theorem i_198_110 : aIns 198 110 = some (.iconst 2, 1, 0, 0, .int (2)) := by decide +kernel
theorem i_198_111 : aIns 198 111 = some (.invokevirtual 309, 3, 191, 2, .int 12) := by decide +kernel
theorem i_198_114 : aIns 198 114 = some (.i2l, 1, 0, 0, .null) := by decide +kernel
theorem i_198_115 : aIns 198 115 = some (.lastore, 1, 0, 0, .null) := by decide +kernel
theorem i_198_116 : aIns 198 116 = some (.aload_n 0, 1, 0, 0, .null) := by decide +kernel
theorem i_198_117 : aIns 198 117 = some (.getfield 36, 3, 12, 19, .null) := by decide +kernel
theorem i_198_120 : aIns 198 120 = some (.bipush 7, 2, 0, 0, .int (7)) := by decide +kernel
theorem i_198_122 : aIns 198 122 = some (.aload_n 0, 1, 0, 0, .null) := by decide +kernel
theorem i_198_123 : aIns 198 123 = some (.iload_n 2, 1, 0, 0, .null) := by decide +kernel
theorem i_198_124 : aIns 198 124 = some (.invokevirtual 313, 3, 193, 1, .int 12) := by decide +kernel
theorem i_198_127 : aIns 198 127 = some (.i2l, 1, 0, 0, .null) := by decide +kernel
theorem i_198_128 : aIns 198 128 = some (.lastore, 1, 0, 0, .null) := by decide +kernel
theorem i_198_129 : aIns 198 129 = some (.aload_n 0, 1, 0, 0, .null) := by decide +kernel
theorem i_198_130 : aIns 198 130 = some (.iload_n 1, 1, 0, 0, .null) := by decide +kernel
theorem i_198_131 : aIns 198 131 = some (.invokevirtual 316, 3, 197, 1, .int 12) := by decide +kernel
theorem i_198_134 : aIns 198 134 = some (.lstore 6, 2, 0, 0, .null) := by decide +kernel
theorem i_198_136 : aIns 198 136 = some (.lload 6, 2, 0, 0, .null) := by decide +kernel
theorem i_198_138 : aIns 198 138 = some (.lconst 1, 1, 0, 0, .long 1) := by decide +kernel
theorem i_198_139 : aIns 198 139 = some (.lcmp, 1, 0, 0, .null) := by decide +kernel
theorem i_198_140 : aIns 198 140 = some (.ifCond .ge 7, 3, 0, 0, .null) := by decide +kernel
theorem i_198_143 : aIns 198 143 = some (.iconst 1, 1, 0, 0, .int (1)) := by decide +kernel
theorem i_198_144 : aIns 198 144 = some (.goto 21, 3, 0, 0, .null) := by decide +kernel
theorem i_198_147 : aIns 198 147 = some (.lload 6, 2, 0, 0, .null) := by decide +kernel
theorem i_198_149 : aIns 198 149 = some (.ldc2_w 320, 3, 0, 0, .long (9999)) := by decide +kernel
theorem i_198_152 : aIns 198 152 = some (.lcmp, 1, 0, 0, .null) := by decide +kernel
theorem i_198_153 : aIns 198 153 = some (.ifCond .le 9, 3, 0, 0, .null) := by decide +kernel
theorem i_198_156 : aIns 198 156 = some (.sipush 9999, 3, 0, 0, .int (9999)) := by decide +kernel
theorem i_198_159 : aIns 198 159 = some (.goto 6, 3, 0, 0, .null) := by decide +kernel
theorem i_198_162 : aIns 198 162 = some (.lload 6, 2, 0, 0, .null) := by decide +kernel
theorem i_198_164 : aIns 198 164 = some (.l2i, 1, 0, 0, .null) := by decide +kernel
theorem i_198_165 : aIns 198 165 = some (.ireturn, 1, 0, 0, .null) := by decide +kernel
def j_177_100 (g : Nat) (x1 : Int32) (S : rS) : Option (Int32 × rS) := some ((1 : Int32), S)
set_option maxHeartbeats 4000000 in
set_option maxRecDepth 100000 in
theorem j_177_100_ok {X : aX} {g d : Nat} {x1 : Int32} {S : rS} {h0 : aH} {zz : Int32 × rS} (hdp : 2 ≤ d) (HS : rm h0 S) (hd : j_177_100 g x1 S = some zz) : aWp X d 177 100 [some (.ref 382), some (.int x1)] [] h0 (fun w h' => w = some (.int zz.1) ∧ rTo h0 zz.2 h') := by
  unfold j_177_100 at hd
  have HH := rTo.rf HS
  obtain ⟨e, rfl⟩ : ∃ e, d = e + 1 := ⟨d - 1, by omega⟩
  refine wp_s 101 [some (.ref 382), some (.int x1)] [.int (1 : Int32)] h0 i_177_100 rfl ?_
  refine wp_s 105 [some (.ref 382), some (.int x1)] [.int (1 : Int32)] h0 i_177_101 rfl ?_
  obtain rfl := Option.some.inj hd
  exact wp_iretZ (z := 0) i_177_105 (by decide) ⟨rfl, HH⟩
def j_177_55 (g : Nat) (s0 : Int32) (S : rS) : Option (Int32 × rS) := (if ¬ s0 = 0 then (j_177_100 g s0 S) else ((d_149 g (7300710 : Int64) S).bind (fun z_2 => (if ¬ z_2.1 = 0 then (j_177_100 g s0 z_2.2) else ((d_149 g (1886352244 : Int64) z_2.2).bind (fun z_8 => (if ¬ z_8.1 = 0 then (j_177_100 g s0 z_8.2) else ((d_149 g (418431069797 : Int64) z_8.2).bind (fun z_14 => (if ¬ z_14.1 = 0 then (j_177_100 g s0 z_14.2) else ((d_149 g (418346264942 : Int64) z_14.2).bind (fun z_20 => (if z_20.1 = 0 then some ((0 : Int32), z_20.2) else (j_177_100 g s0 z_20.2))))))))))))))
set_option maxHeartbeats 4000000 in
set_option maxRecDepth 100000 in
theorem j_177_55_ok {X : aX} {g d : Nat} {s0 : Int32} {S : rS} {h0 : aH} {zz : Int32 × rS} (hdp : 2 ≤ d) (HS : rm h0 S) (hd : j_177_55 g s0 S = some zz) : aWp X d 177 55 [some (.ref 382), none] [.int s0] h0 (fun w h' => w = some (.int zz.1) ∧ rTo h0 zz.2 h') := by
  unfold j_177_55 at hd
  have HH := rTo.rf HS
  obtain ⟨e, rfl⟩ : ∃ e, d = e + 1 := ⟨d - 1, by omega⟩
  refine wp_s 56 [some (.ref 382), some (.int s0)] [] h0 i_177_55 rfl ?_
  refine wp_s 57 [some (.ref 382), some (.int s0)] [.int s0] h0 i_177_56 rfl ?_
  refine wp_if_ne 100 60 rfl rfl i_177_57 (fun c_1 => ?_) (fun c_1 => ?_)
  · rw [if_pos c_1] at hd
    exact aWp.post (aWp.forget (j_177_100_ok hdp HH.1 hd) ((lvS (lvS lvE)))) (fun _ _ hq => ⟨hq.1, HH.tr hq.2⟩)
  · rw [if_neg c_1] at hd
    refine wp_s 61 [some (.ref 382), some (.int s0)] [.ref 382] h0 i_177_60 rfl ?_
    refine wp_s 64 [some (.ref 382), some (.int s0)] [.long (7300710 : Int64), .ref 382] h0 i_177_61 rfl ?_
    obtain ⟨z_2, q_3, hd⟩ := dk_bind hd
    refine wp_callV 67 rfl i_177_64 (by decide) rfl (vs := [.long (7300710 : Int64)]) (rest := []) rfl rfl rfl (HH.1 0 (by decide)) (y := m_149) rfl (Nat.le_of_ble_eq_true rfl) (d_149_ok (d := e) (by omega) HH.1 q_3) ?_
    rintro v_6 h_4 ⟨rfl, H_5⟩
    have H_5 := HH.tr H_5
    refine wp_if_ne 100 70 rfl rfl i_177_67 (fun c_7 => ?_) (fun c_7 => ?_)
    · rw [if_pos c_7] at hd
      exact aWp.post (aWp.forget (j_177_100_ok hdp H_5.1 hd) ((lvS (lvS lvE)))) (fun _ _ hq => ⟨hq.1, H_5.tr hq.2⟩)
    · rw [if_neg c_7] at hd
      refine wp_s 71 [some (.ref 382), some (.int s0)] [.ref 382] h_4 i_177_70 rfl ?_
      refine wp_s 74 [some (.ref 382), some (.int s0)] [.long (1886352244 : Int64), .ref 382] h_4 i_177_71 rfl ?_
      obtain ⟨z_8, q_9, hd⟩ := dk_bind hd
      refine wp_callV 77 rfl i_177_74 (by decide) rfl (vs := [.long (1886352244 : Int64)]) (rest := []) rfl rfl rfl (H_5.1 0 (by decide)) (y := m_149) rfl (Nat.le_of_ble_eq_true rfl) (d_149_ok (d := e) (by omega) H_5.1 q_9) ?_
      rintro v_12 h_10 ⟨rfl, H_11⟩
      have H_11 := H_5.tr H_11
      refine wp_if_ne 100 80 rfl rfl i_177_77 (fun c_13 => ?_) (fun c_13 => ?_)
      · rw [if_pos c_13] at hd
        exact aWp.post (aWp.forget (j_177_100_ok hdp H_11.1 hd) ((lvS (lvS lvE)))) (fun _ _ hq => ⟨hq.1, H_11.tr hq.2⟩)
      · rw [if_neg c_13] at hd
        refine wp_s 81 [some (.ref 382), some (.int s0)] [.ref 382] h_10 i_177_80 rfl ?_
        refine wp_s 84 [some (.ref 382), some (.int s0)] [.long (418431069797 : Int64), .ref 382] h_10 i_177_81 rfl ?_
        obtain ⟨z_14, q_15, hd⟩ := dk_bind hd
        refine wp_callV 87 rfl i_177_84 (by decide) rfl (vs := [.long (418431069797 : Int64)]) (rest := []) rfl rfl rfl (H_11.1 0 (by decide)) (y := m_149) rfl (Nat.le_of_ble_eq_true rfl) (d_149_ok (d := e) (by omega) H_11.1 q_15) ?_
        rintro v_18 h_16 ⟨rfl, H_17⟩
        have H_17 := H_11.tr H_17
        refine wp_if_ne 100 90 rfl rfl i_177_87 (fun c_19 => ?_) (fun c_19 => ?_)
        · rw [if_pos c_19] at hd
          exact aWp.post (aWp.forget (j_177_100_ok hdp H_17.1 hd) ((lvS (lvS lvE)))) (fun _ _ hq => ⟨hq.1, H_17.tr hq.2⟩)
        · rw [if_neg c_19] at hd
          refine wp_s 91 [some (.ref 382), some (.int s0)] [.ref 382] h_16 i_177_90 rfl ?_
          refine wp_s 94 [some (.ref 382), some (.int s0)] [.long (418346264942 : Int64), .ref 382] h_16 i_177_91 rfl ?_
          obtain ⟨z_20, q_21, hd⟩ := dk_bind hd
          refine wp_callV 97 rfl i_177_94 (by decide) rfl (vs := [.long (418346264942 : Int64)]) (rest := []) rfl rfl rfl (H_17.1 0 (by decide)) (y := m_149) rfl (Nat.le_of_ble_eq_true rfl) (d_149_ok (d := e) (by omega) H_17.1 q_21) ?_
          rintro v_24 h_22 ⟨rfl, H_23⟩
          have H_23 := H_17.tr H_23
          refine wp_if_eq 104 100 rfl rfl i_177_97 (fun c_25 => ?_) (fun c_25 => ?_)
          · rw [if_pos c_25] at hd
            refine wp_s 105 [some (.ref 382), some (.int s0)] [.int (0 : Int32)] h_22 i_177_104 rfl ?_
            obtain rfl := Option.some.inj hd
            exact wp_iretZ (z := 0) i_177_105 (by decide) ⟨rfl, H_23⟩
          · rw [if_neg c_25] at hd
            exact aWp.post (aWp.forget (j_177_100_ok hdp H_23.1 hd) ((lvS (lvS lvE)))) (fun _ _ hq => ⟨hq.1, H_23.tr hq.2⟩)
def j_177_50 (g : Nat)  (S : rS) : Option (Int32 × rS) := (j_177_55 g (1 : Int32) S)
set_option maxHeartbeats 4000000 in
set_option maxRecDepth 100000 in
theorem j_177_50_ok {X : aX} {g d : Nat}  {S : rS} {h0 : aH} {zz : Int32 × rS} (hdp : 2 ≤ d) (HS : rm h0 S) (hd : j_177_50 g  S = some zz) : aWp X d 177 50 [some (.ref 382), none] [] h0 (fun w h' => w = some (.int zz.1) ∧ rTo h0 zz.2 h') := by
  unfold j_177_50 at hd
  have HH := rTo.rf HS
  obtain ⟨e, rfl⟩ : ∃ e, d = e + 1 := ⟨d - 1, by omega⟩
  refine wp_s 51 [some (.ref 382), none] [.int (1 : Int32)] h0 i_177_50 rfl ?_
  refine wp_s 55 [some (.ref 382), none] [.int (1 : Int32)] h0 i_177_51 rfl ?_
  exact aWp.post (aWp.forget (j_177_55_ok hdp HH.1 hd) ((lvS (lvN lvE)))) (fun _ _ hq => ⟨hq.1, HH.tr hq.2⟩)
def d_177 (g : Nat)  (S : rS) : Option (Int32 × rS) := ((d_149 g (1936224112 : Int64) S).bind (fun z_1 => (if ¬ z_1.1 = 0 then (j_177_50 g  z_1.2) else ((d_149 g (499967946343 : Int64) z_1.2).bind (fun z_7 => (if ¬ z_7.1 = 0 then (j_177_50 g  z_7.2) else ((d_149 g (2002873972 : Int64) z_7.2).bind (fun z_13 => (if ¬ z_13.1 = 0 then (j_177_50 g  z_13.2) else ((d_149 g (1935764581 : Int64) z_13.2).bind (fun z_19 => (if ¬ z_19.1 = 0 then (j_177_50 g  z_19.2) else ((d_149 g (31636739359862388 : Int64) z_19.2).bind (fun z_25 => (if z_25.1 = 0 then (j_177_55 g (0 : Int32) z_25.2) else (j_177_50 g  z_25.2))))))))))))))))
set_option maxHeartbeats 4000000 in
set_option maxRecDepth 100000 in
theorem d_177_ok {X : aX} {g d : Nat}  {S : rS} {h0 : aH} {zz : Int32 × rS} (hdp : 2 ≤ d) (HS : rm h0 S) (hd : d_177 g  S = some zz) : aWp X d 177 0 (aEntL [.ref 382] 2) [] h0 (fun w h' => w = some (.int zz.1) ∧ rTo h0 zz.2 h') := by
  unfold d_177 at hd
  have HH := rTo.rf HS
  refine wp_lv (l2 := [some (.ref 382), none]) rfl ?_
  obtain ⟨e, rfl⟩ : ∃ e, d = e + 1 := ⟨d - 1, by omega⟩
  refine wp_s 1 [some (.ref 382), none] [.ref 382] h0 i_177_0 rfl ?_
  refine wp_s 4 [some (.ref 382), none] [.long (1936224112 : Int64), .ref 382] h0 i_177_1 rfl ?_
  obtain ⟨z_1, q_2, hd⟩ := dk_bind hd
  refine wp_callV 7 rfl i_177_4 (by decide) rfl (vs := [.long (1936224112 : Int64)]) (rest := []) rfl rfl rfl (HH.1 0 (by decide)) (y := m_149) rfl (Nat.le_of_ble_eq_true rfl) (d_149_ok (d := e) (by omega) HH.1 q_2) ?_
  rintro v_5 h_3 ⟨rfl, H_4⟩
  have H_4 := HH.tr H_4
  refine wp_if_ne 50 10 rfl rfl i_177_7 (fun c_6 => ?_) (fun c_6 => ?_)
  · rw [if_pos c_6] at hd
    exact aWp.post (aWp.forget (j_177_50_ok hdp H_4.1 hd) ((lvS (lvN lvE)))) (fun _ _ hq => ⟨hq.1, H_4.tr hq.2⟩)
  · rw [if_neg c_6] at hd
    refine wp_s 11 [some (.ref 382), none] [.ref 382] h_3 i_177_10 rfl ?_
    refine wp_s 14 [some (.ref 382), none] [.long (499967946343 : Int64), .ref 382] h_3 i_177_11 rfl ?_
    obtain ⟨z_7, q_8, hd⟩ := dk_bind hd
    refine wp_callV 17 rfl i_177_14 (by decide) rfl (vs := [.long (499967946343 : Int64)]) (rest := []) rfl rfl rfl (H_4.1 0 (by decide)) (y := m_149) rfl (Nat.le_of_ble_eq_true rfl) (d_149_ok (d := e) (by omega) H_4.1 q_8) ?_
    rintro v_11 h_9 ⟨rfl, H_10⟩
    have H_10 := H_4.tr H_10
    refine wp_if_ne 50 20 rfl rfl i_177_17 (fun c_12 => ?_) (fun c_12 => ?_)
    · rw [if_pos c_12] at hd
      exact aWp.post (aWp.forget (j_177_50_ok hdp H_10.1 hd) ((lvS (lvN lvE)))) (fun _ _ hq => ⟨hq.1, H_10.tr hq.2⟩)
    · rw [if_neg c_12] at hd
      refine wp_s 21 [some (.ref 382), none] [.ref 382] h_9 i_177_20 rfl ?_
      refine wp_s 24 [some (.ref 382), none] [.long (2002873972 : Int64), .ref 382] h_9 i_177_21 rfl ?_
      obtain ⟨z_13, q_14, hd⟩ := dk_bind hd
      refine wp_callV 27 rfl i_177_24 (by decide) rfl (vs := [.long (2002873972 : Int64)]) (rest := []) rfl rfl rfl (H_10.1 0 (by decide)) (y := m_149) rfl (Nat.le_of_ble_eq_true rfl) (d_149_ok (d := e) (by omega) H_10.1 q_14) ?_
      rintro v_17 h_15 ⟨rfl, H_16⟩
      have H_16 := H_10.tr H_16
      refine wp_if_ne 50 30 rfl rfl i_177_27 (fun c_18 => ?_) (fun c_18 => ?_)
      · rw [if_pos c_18] at hd
        exact aWp.post (aWp.forget (j_177_50_ok hdp H_16.1 hd) ((lvS (lvN lvE)))) (fun _ _ hq => ⟨hq.1, H_16.tr hq.2⟩)
      · rw [if_neg c_18] at hd
        refine wp_s 31 [some (.ref 382), none] [.ref 382] h_15 i_177_30 rfl ?_
        refine wp_s 34 [some (.ref 382), none] [.long (1935764581 : Int64), .ref 382] h_15 i_177_31 rfl ?_
        obtain ⟨z_19, q_20, hd⟩ := dk_bind hd
        refine wp_callV 37 rfl i_177_34 (by decide) rfl (vs := [.long (1935764581 : Int64)]) (rest := []) rfl rfl rfl (H_16.1 0 (by decide)) (y := m_149) rfl (Nat.le_of_ble_eq_true rfl) (d_149_ok (d := e) (by omega) H_16.1 q_20) ?_
        rintro v_23 h_21 ⟨rfl, H_22⟩
        have H_22 := H_16.tr H_22
        refine wp_if_ne 50 40 rfl rfl i_177_37 (fun c_24 => ?_) (fun c_24 => ?_)
        · rw [if_pos c_24] at hd
          exact aWp.post (aWp.forget (j_177_50_ok hdp H_22.1 hd) ((lvS (lvN lvE)))) (fun _ _ hq => ⟨hq.1, H_22.tr hq.2⟩)
        · rw [if_neg c_24] at hd
          refine wp_s 41 [some (.ref 382), none] [.ref 382] h_21 i_177_40 rfl ?_
          refine wp_s 44 [some (.ref 382), none] [.long (31636739359862388 : Int64), .ref 382] h_21 i_177_41 rfl ?_
          obtain ⟨z_25, q_26, hd⟩ := dk_bind hd
          refine wp_callV 47 rfl i_177_44 (by decide) rfl (vs := [.long (31636739359862388 : Int64)]) (rest := []) rfl rfl rfl (H_22.1 0 (by decide)) (y := m_149) rfl (Nat.le_of_ble_eq_true rfl) (d_149_ok (d := e) (by omega) H_22.1 q_26) ?_
          rintro v_29 h_27 ⟨rfl, H_28⟩
          have H_28 := H_22.tr H_28
          refine wp_if_eq 54 50 rfl rfl i_177_47 (fun c_30 => ?_) (fun c_30 => ?_)
          · rw [if_pos c_30] at hd
            refine wp_s 55 [some (.ref 382), none] [.int (0 : Int32)] h_27 i_177_54 rfl ?_
            exact aWp.post (aWp.forget (j_177_55_ok hdp H_28.1 hd) ((lvS (lvN lvE)))) (fun _ _ hq => ⟨hq.1, H_28.tr hq.2⟩)
          · rw [if_neg c_30] at hd
            exact aWp.post (aWp.forget (j_177_50_ok hdp H_28.1 hd) ((lvS (lvN lvE)))) (fun _ _ hq => ⟨hq.1, H_28.tr hq.2⟩)
def j_178_71 (g : Nat) (x1 : Int32) (x2 : Int32) (s0 : Int32) (s1 : Int32) (S : rS) : Option (Int32 × rS) := (if ¬ s1 = s0 then (if x2 = 0 then ((d_167 g  (rF S 14 ((S.1 14) + (1 : Int32)))).bind (fun z_5 => (if z_5.1 = 0 ∨ z_5.1 = 1 then some (z_5.1, z_5.2) else none))) else ((d_176 g x1 (rF S 14 ((S.1 14) + (1 : Int32)))).bind (fun z_11 => (if z_11.1 = 0 ∨ z_11.1 = 1 then some (z_11.1, z_11.2) else none)))) else ((d_145 g (4 : Int32) x1 S).bind (fun z_17 => (if z_17.1 = 0 ∨ z_17.1 = 1 then some (z_17.1, z_17.2) else none))))
set_option maxHeartbeats 4000000 in
set_option maxRecDepth 100000 in
theorem j_178_71_ok {X : aX} {g d : Nat} {x1 : Int32} {x2 : Int32} {s0 : Int32} {s1 : Int32} {S : rS} {h0 : aH} {zz : Int32 × rS} (hdp : 10 ≤ d) (HS : rm h0 S) (hd : j_178_71 g x1 x2 s0 s1 S = some zz) : aWp X d 178 71 [some (.ref 382), some (.int x1), some (.int x2)] [.int s0, .int s1] h0 (fun w h' => w = some (.int zz.1) ∧ rTo h0 zz.2 h') := by
  unfold j_178_71 at hd
  have HH := rTo.rf HS
  obtain ⟨e, rfl⟩ : ∃ e, d = e + 1 := ⟨d - 1, by omega⟩
  refine wp_cmp_ne 81 74 rfl rfl i_178_71 (fun c_1 => ?_) (fun c_1 => ?_)
  · rw [if_pos c_1] at hd
    refine wp_s 82 [some (.ref 382), some (.int x1), some (.int x2)] [.ref 382] h0 i_178_81 rfl ?_
    refine wp_s 83 [some (.ref 382), some (.int x1), some (.int x2)] [.ref 382, .ref 382] h0 i_178_82 rfl ?_
    refine wp_get (v := .int (S.1 14)) 86 rfl i_178_83 (HH.1 0 (by decide)) rfl ?_
    refine wp_s 87 [some (.ref 382), some (.int x1), some (.int x2)] [.int (1 : Int32), .int (S.1 14), .ref 382] h0 i_178_86 rfl ?_
    refine wp_s 88 [some (.ref 382), some (.int x1), some (.int x2)] [.int ((S.1 14) + (1 : Int32)), .ref 382] h0 i_178_87 rfl ?_
    refine rq_F14 91 rfl i_178_88 HH (fun h_2 H_3 => ?_)
    refine wp_s 92 [some (.ref 382), some (.int x1), some (.int x2)] [.int x2] h_2 i_178_91 rfl ?_
    refine wp_if_eq 103 95 rfl rfl i_178_92 (fun c_4 => ?_) (fun c_4 => ?_)
    · rw [if_pos c_4] at hd
      refine wp_s 104 [some (.ref 382), some (.int x1), some (.int x2)] [.ref 382] h_2 i_178_103 rfl ?_
      obtain ⟨z_5, q_6, hd⟩ := dk_bind hd
      refine wp_callV 107 rfl i_178_104 (by decide) rfl (vs := []) (rest := []) rfl rfl rfl (H_3.1 0 (by decide)) (y := m_167) rfl (Nat.le_of_ble_eq_true rfl) (d_167_ok (d := e) (by omega) H_3.1 q_6) ?_
      rintro v_9 h_7 ⟨rfl, H_8⟩
      have H_8 := H_3.tr H_8
      obtain ⟨b_10, hd⟩ := dk_if hd
      obtain rfl := Option.some.inj hd
      exact wp_iretZ (z := 0) i_178_107 b_10 ⟨rfl, H_8⟩
    · rw [if_neg c_4] at hd
      refine wp_s 96 [some (.ref 382), some (.int x1), some (.int x2)] [.ref 382] h_2 i_178_95 rfl ?_
      refine wp_s 97 [some (.ref 382), some (.int x1), some (.int x2)] [.int x1, .ref 382] h_2 i_178_96 rfl ?_
      obtain ⟨z_11, q_12, hd⟩ := dk_bind hd
      refine wp_callV 100 rfl i_178_97 (by decide) rfl (vs := [.int x1]) (rest := []) rfl rfl rfl (H_3.1 0 (by decide)) (y := m_176) rfl (Nat.le_of_ble_eq_true rfl) (d_176_ok (d := e) (by omega) H_3.1 q_12) ?_
      rintro v_15 h_13 ⟨rfl, H_14⟩
      have H_14 := H_3.tr H_14
      refine wp_s 107 [some (.ref 382), some (.int x1), some (.int x2)] [.int z_11.1] h_13 i_178_100 rfl ?_
      obtain ⟨b_16, hd⟩ := dk_if hd
      obtain rfl := Option.some.inj hd
      exact wp_iretZ (z := 0) i_178_107 b_16 ⟨rfl, H_14⟩
  · rw [if_neg c_1] at hd
    refine wp_s 75 [some (.ref 382), some (.int x1), some (.int x2)] [.ref 382] h0 i_178_74 rfl ?_
    refine wp_s 76 [some (.ref 382), some (.int x1), some (.int x2)] [.int (4 : Int32), .ref 382] h0 i_178_75 rfl ?_
    refine wp_s 77 [some (.ref 382), some (.int x1), some (.int x2)] [.int x1, .int (4 : Int32), .ref 382] h0 i_178_76 rfl ?_
    obtain ⟨z_17, q_18, hd⟩ := dk_bind hd
    refine wp_callV 80 rfl i_178_77 (by decide) rfl (vs := [.int (4 : Int32), .int x1]) (rest := []) rfl rfl rfl (HH.1 0 (by decide)) (y := m_145) rfl (Nat.le_of_ble_eq_true rfl) (d_145_ok (d := e) (by omega) HH.1 q_18) ?_
    rintro v_21 h_19 ⟨rfl, H_20⟩
    have H_20 := HH.tr H_20
    obtain ⟨b_22, hd⟩ := dk_if hd
    obtain rfl := Option.some.inj hd
    exact wp_iretZ (z := 0) i_178_80 b_22 ⟨rfl, H_20⟩
def j_178_56 (g : Nat) (x1 : Int32) (x2 : Int32) (S : rS) : Option (Int32 × rS) := (if x2 = 0 then (j_178_71 g x1 x2 (12 : Int32) (S.1 14) S) else (j_178_71 g x1 x2 (40 : Int32) (S.1 14) S))
set_option maxHeartbeats 4000000 in
set_option maxRecDepth 100000 in
theorem j_178_56_ok {X : aX} {g d : Nat} {x1 : Int32} {x2 : Int32} {S : rS} {h0 : aH} {zz : Int32 × rS} (hdp : 10 ≤ d) (HS : rm h0 S) (hd : j_178_56 g x1 x2 S = some zz) : aWp X d 178 56 [some (.ref 382), some (.int x1), some (.int x2)] [] h0 (fun w h' => w = some (.int zz.1) ∧ rTo h0 zz.2 h') := by
  unfold j_178_56 at hd
  have HH := rTo.rf HS
  obtain ⟨e, rfl⟩ : ∃ e, d = e + 1 := ⟨d - 1, by omega⟩
  refine wp_s 57 [some (.ref 382), some (.int x1), some (.int x2)] [.ref 382] h0 i_178_56 rfl ?_
  refine wp_get (v := .int (S.1 14)) 60 rfl i_178_57 (HH.1 0 (by decide)) rfl ?_
  refine wp_s 61 [some (.ref 382), some (.int x1), some (.int x2)] [.int x2, .int (S.1 14)] h0 i_178_60 rfl ?_
  refine wp_if_eq 69 64 rfl rfl i_178_61 (fun c_1 => ?_) (fun c_1 => ?_)
  · rw [if_pos c_1] at hd
    refine wp_s 71 [some (.ref 382), some (.int x1), some (.int x2)] [.int (12 : Int32), .int (S.1 14)] h0 i_178_69 rfl ?_
    exact aWp.post (aWp.forget (j_178_71_ok hdp HH.1 hd) ((lvS (lvS (lvS lvE))))) (fun _ _ hq => ⟨hq.1, HH.tr hq.2⟩)
  · rw [if_neg c_1] at hd
    refine wp_s 66 [some (.ref 382), some (.int x1), some (.int x2)] [.int (40 : Int32), .int (S.1 14)] h0 i_178_64 rfl ?_
    refine wp_s 71 [some (.ref 382), some (.int x1), some (.int x2)] [.int (40 : Int32), .int (S.1 14)] h0 i_178_66 rfl ?_
    exact aWp.post (aWp.forget (j_178_71_ok hdp HH.1 hd) ((lvS (lvS (lvS lvE))))) (fun _ _ hq => ⟨hq.1, HH.tr hq.2⟩)
def j_178_49 (g : Nat) (x1 : Int32) (x2 : Int32) (S : rS) : Option (Int32 × rS) := ((d_145 g (0 : Int32) x1 S).bind (fun z_1 => (if z_1.1 = 0 ∨ z_1.1 = 1 then some (z_1.1, z_1.2) else none)))
set_option maxHeartbeats 4000000 in
set_option maxRecDepth 100000 in
theorem j_178_49_ok {X : aX} {g d : Nat} {x1 : Int32} {x2 : Int32} {S : rS} {h0 : aH} {zz : Int32 × rS} (hdp : 10 ≤ d) (HS : rm h0 S) (hd : j_178_49 g x1 x2 S = some zz) : aWp X d 178 49 [some (.ref 382), some (.int x1), some (.int x2)] [] h0 (fun w h' => w = some (.int zz.1) ∧ rTo h0 zz.2 h') := by
  unfold j_178_49 at hd
  have HH := rTo.rf HS
  obtain ⟨e, rfl⟩ : ∃ e, d = e + 1 := ⟨d - 1, by omega⟩
  refine wp_s 50 [some (.ref 382), some (.int x1), some (.int x2)] [.ref 382] h0 i_178_49 rfl ?_
  refine wp_s 51 [some (.ref 382), some (.int x1), some (.int x2)] [.int (0 : Int32), .ref 382] h0 i_178_50 rfl ?_
  refine wp_s 52 [some (.ref 382), some (.int x1), some (.int x2)] [.int x1, .int (0 : Int32), .ref 382] h0 i_178_51 rfl ?_
  obtain ⟨z_1, q_2, hd⟩ := dk_bind hd
  refine wp_callV 55 rfl i_178_52 (by decide) rfl (vs := [.int (0 : Int32), .int x1]) (rest := []) rfl rfl rfl (HH.1 0 (by decide)) (y := m_145) rfl (Nat.le_of_ble_eq_true rfl) (d_145_ok (d := e) (by omega) HH.1 q_2) ?_
  rintro v_5 h_3 ⟨rfl, H_4⟩
  have H_4 := HH.tr H_4
  obtain ⟨b_6, hd⟩ := dk_if hd
  obtain rfl := Option.some.inj hd
  exact wp_iretZ (z := 0) i_178_55 b_6 ⟨rfl, H_4⟩
def j_178_24 (g : Nat) (x1 : Int32) (s0 : Int32) (S : rS) : Option (Int32 × rS) := (if s0 = 0 then ((d_149 g (482955846501 : Int64) S).bind (fun z_2 => (if ¬ z_2.1 = 0 then (j_178_56 g x1 s0 z_2.2) else (j_178_49 g x1 s0 z_2.2)))) else ((d_177 g  S).bind (fun z_8 => (if ¬ z_8.1 = 0 then (j_178_56 g x1 s0 z_8.2) else (j_178_49 g x1 s0 z_8.2)))))
set_option maxHeartbeats 4000000 in
set_option maxRecDepth 100000 in
theorem j_178_24_ok {X : aX} {g d : Nat} {x1 : Int32} {s0 : Int32} {S : rS} {h0 : aH} {zz : Int32 × rS} (hdp : 10 ≤ d) (HS : rm h0 S) (hd : j_178_24 g x1 s0 S = some zz) : aWp X d 178 24 [some (.ref 382), some (.int x1), none] [.int s0] h0 (fun w h' => w = some (.int zz.1) ∧ rTo h0 zz.2 h') := by
  unfold j_178_24 at hd
  have HH := rTo.rf HS
  obtain ⟨e, rfl⟩ : ∃ e, d = e + 1 := ⟨d - 1, by omega⟩
  refine wp_s 25 [some (.ref 382), some (.int x1), some (.int s0)] [] h0 i_178_24 rfl ?_
  refine wp_s 26 [some (.ref 382), some (.int x1), some (.int s0)] [.int s0] h0 i_178_25 rfl ?_
  refine wp_if_eq 39 29 rfl rfl i_178_26 (fun c_1 => ?_) (fun c_1 => ?_)
  · rw [if_pos c_1] at hd
    refine wp_s 40 [some (.ref 382), some (.int x1), some (.int s0)] [.ref 382] h0 i_178_39 rfl ?_
    refine wp_s 43 [some (.ref 382), some (.int x1), some (.int s0)] [.long (482955846501 : Int64), .ref 382] h0 i_178_40 rfl ?_
    obtain ⟨z_2, q_3, hd⟩ := dk_bind hd
    refine wp_callV 46 rfl i_178_43 (by decide) rfl (vs := [.long (482955846501 : Int64)]) (rest := []) rfl rfl rfl (HH.1 0 (by decide)) (y := m_149) rfl (Nat.le_of_ble_eq_true rfl) (d_149_ok (d := e) (by omega) HH.1 q_3) ?_
    rintro v_6 h_4 ⟨rfl, H_5⟩
    have H_5 := HH.tr H_5
    refine wp_if_ne 56 49 rfl rfl i_178_46 (fun c_7 => ?_) (fun c_7 => ?_)
    · rw [if_pos c_7] at hd
      exact aWp.post (aWp.forget (j_178_56_ok hdp H_5.1 hd) ((lvS (lvS (lvS lvE))))) (fun _ _ hq => ⟨hq.1, H_5.tr hq.2⟩)
    · rw [if_neg c_7] at hd
      exact aWp.post (aWp.forget (j_178_49_ok hdp H_5.1 hd) ((lvS (lvS (lvS lvE))))) (fun _ _ hq => ⟨hq.1, H_5.tr hq.2⟩)
  · rw [if_neg c_1] at hd
    refine wp_s 30 [some (.ref 382), some (.int x1), some (.int s0)] [.ref 382] h0 i_178_29 rfl ?_
    obtain ⟨z_8, q_9, hd⟩ := dk_bind hd
    refine wp_callV 33 rfl i_178_30 (by decide) rfl (vs := []) (rest := []) rfl rfl rfl (HH.1 0 (by decide)) (y := m_177) rfl (Nat.le_of_ble_eq_true rfl) (d_177_ok (d := e) (by omega) HH.1 q_9) ?_
    rintro v_12 h_10 ⟨rfl, H_11⟩
    have H_11 := HH.tr H_11
    refine wp_if_ne 56 36 rfl rfl i_178_33 (fun c_13 => ?_) (fun c_13 => ?_)
    · rw [if_pos c_13] at hd
      exact aWp.post (aWp.forget (j_178_56_ok hdp H_11.1 hd) ((lvS (lvS (lvS lvE))))) (fun _ _ hq => ⟨hq.1, H_11.tr hq.2⟩)
    · rw [if_neg c_13] at hd
      refine wp_s 49 [some (.ref 382), some (.int x1), some (.int s0)] [] h_10 i_178_36 rfl ?_
      exact aWp.post (aWp.forget (j_178_49_ok hdp H_11.1 hd) ((lvS (lvS (lvS lvE))))) (fun _ _ hq => ⟨hq.1, H_11.tr hq.2⟩)
def d_178 (g : Nat)  (S : rS) : Option (Int32 × rS) := ((d_146 g  S).bind (fun z_1 => (if ¬ (z_1.2.1 11) = (6 : Int32) then (j_178_24 g (z_1.2.1 8) (0 : Int32) z_1.2) else (j_178_24 g (z_1.2.1 8) (1 : Int32) z_1.2))))
set_option maxHeartbeats 4000000 in
set_option maxRecDepth 100000 in
theorem d_178_ok {X : aX} {g d : Nat}  {S : rS} {h0 : aH} {zz : Int32 × rS} (hdp : 10 ≤ d) (HS : rm h0 S) (hd : d_178 g  S = some zz) : aWp X d 178 0 (aEntL [.ref 382] 3) [] h0 (fun w h' => w = some (.int zz.1) ∧ rTo h0 zz.2 h') := by
  unfold d_178 at hd
  have HH := rTo.rf HS
  refine wp_lv (l2 := [some (.ref 382), none, none]) rfl ?_
  obtain ⟨e, rfl⟩ : ∃ e, d = e + 1 := ⟨d - 1, by omega⟩
  refine wp_s 1 [some (.ref 382), none, none] [.ref 382] h0 i_178_0 rfl ?_
  obtain ⟨z_1, q_2, hd⟩ := dk_bind hd
  refine wp_callV 4 rfl i_178_1 (by decide) rfl (vs := []) (rest := []) rfl rfl rfl (HH.1 0 (by decide)) (y := m_146) rfl (Nat.le_of_ble_eq_true rfl) (d_146_ok (d := e) (by omega) HH.1 q_2) ?_
  rintro v_5 h_3 ⟨rfl, H_4⟩
  have H_4 := HH.tr H_4
  refine wp_s 5 [some (.ref 382), none, none] [] h_3 i_178_4 rfl ?_
  refine wp_s 6 [some (.ref 382), none, none] [.ref 382] h_3 i_178_5 rfl ?_
  refine wp_get (v := .int (z_1.2.1 8)) 9 rfl i_178_6 (H_4.1 0 (by decide)) rfl ?_
  refine wp_s 10 [some (.ref 382), some (.int (z_1.2.1 8)), none] [] h_3 i_178_9 rfl ?_
  refine wp_s 11 [some (.ref 382), some (.int (z_1.2.1 8)), none] [.ref 382] h_3 i_178_10 rfl ?_
  refine wp_get (v := .int (z_1.2.1 11)) 14 rfl i_178_11 (H_4.1 0 (by decide)) rfl ?_
  refine wp_s 16 [some (.ref 382), some (.int (z_1.2.1 8)), none] [.int (6 : Int32), .int (z_1.2.1 11)] h_3 i_178_14 rfl ?_
  refine wp_cmp_ne 23 19 rfl rfl i_178_16 (fun c_6 => ?_) (fun c_6 => ?_)
  · rw [if_pos c_6] at hd
    refine wp_s 24 [some (.ref 382), some (.int (z_1.2.1 8)), none] [.int (0 : Int32)] h_3 i_178_23 rfl ?_
    exact aWp.post (aWp.forget (j_178_24_ok hdp H_4.1 hd) ((lvS (lvS (lvN lvE))))) (fun _ _ hq => ⟨hq.1, H_4.tr hq.2⟩)
  · rw [if_neg c_6] at hd
    refine wp_s 20 [some (.ref 382), some (.int (z_1.2.1 8)), none] [.int (1 : Int32)] h_3 i_178_19 rfl ?_
    refine wp_s 24 [some (.ref 382), some (.int (z_1.2.1 8)), none] [.int (1 : Int32)] h_3 i_178_20 rfl ?_
    exact aWp.post (aWp.forget (j_178_24_ok hdp H_4.1 hd) ((lvS (lvS (lvN lvE))))) (fun _ _ hq => ⟨hq.1, H_4.tr hq.2⟩)
def l_179 (g n tag : Nat) (x1 : Int32) (S : rS) : Option (Int32 × rS) := match n with
  | 0 => none
  | n + 1 => if tag = 0 then (if x1 = 0 then (l_179 g n 1 x1 S) else ((d_146 g  S).bind (fun z_2 => (if ¬ z_2.1 = (59 : Int32) then (l_179 g n 1 x1 z_2.2) else ((d_178 g  (rF z_2.2 8 ((z_2.2.1 8) + (1 : Int32)))).bind (fun z_10 => (l_179 g n 0 z_10.1 z_10.2))))))) else if tag = 1 then (if x1 = 0 then (l_179 g n 2 x1 S) else ((d_146 g  S).bind (fun z_16 => (if z_16.1 = (-1 : Int32) then (l_179 g n 2 x1 z_16.2) else ((d_145 g (0 : Int32) (z_16.2.1 8) z_16.2).bind (fun z_22 => (l_179 g n 2 x1 z_22.2))))))) else if tag = 2 then (if ¬ (S.1 9) = 0 then some ((0 : Int32), (rF S 1 (0 : Int32))) else some ((1 : Int32), (rF S 1 (0 : Int32)))) else none
set_option maxHeartbeats 4000000 in
set_option maxRecDepth 100000 in
theorem l_179_ok {X : aX} {g d : Nat} (hdp : 11 ≤ d) : ∀ n, (∀ (x1 : Int32) (S : rS) (h0 : aH) (zz : Int32 × rS), rm h0 S → l_179 g n 0 x1 S = some zz → aWp X d 179 35 [some (.ref 382), some (.int x1)] [] h0 (fun w h' => w = some (.int zz.1) ∧ rTo h0 zz.2 h')) ∧ (∀ (x1 : Int32) (S : rS) (h0 : aH) (zz : Int32 × rS), rm h0 S → l_179 g n 1 x1 S = some zz → aWp X d 179 66 [some (.ref 382), some (.int x1)] [] h0 (fun w h' => w = some (.int zz.1) ∧ rTo h0 zz.2 h')) ∧ (∀ (x1 : Int32) (S : rS) (h0 : aH) (zz : Int32 × rS), rm h0 S → l_179 g n 2 x1 S = some zz → aWp X d 179 88 [some (.ref 382), some (.int x1)] [] h0 (fun w h' => w = some (.int zz.1) ∧ rTo h0 zz.2 h')) := by
  intro n
  induction n with
  | zero => exact ⟨fun _ _ _ _ _ hd => by simp [l_179] at hd, fun _ _ _ _ _ hd => by simp [l_179] at hd, fun _ _ _ _ _ hd => by simp [l_179] at hd⟩
  | succ n ih =>
    refine ⟨?_, ?_, ?_⟩
    · intro x1 S h0 zz HS hd
      unfold l_179 at hd
      rw [if_pos rfl] at hd
      have HH := rTo.rf HS
      obtain ⟨e, rfl⟩ : ∃ e, d = e + 1 := ⟨d - 1, by omega⟩
      refine wp_s 36 [some (.ref 382), some (.int x1)] [.int x1] h0 i_179_35 rfl ?_
      refine wp_if_eq 66 39 rfl rfl i_179_36 (fun c_1 => ?_) (fun c_1 => ?_)
      · rw [if_pos c_1] at hd
        exact aWp.post (aWp.forget (ih.2.1 _ _ _ _ HH.1 hd) ((lvS (lvS lvE)))) (fun _ _ hq => ⟨hq.1, HH.tr hq.2⟩)
      · rw [if_neg c_1] at hd
        refine wp_s 40 [some (.ref 382), some (.int x1)] [.ref 382] h0 i_179_39 rfl ?_
        obtain ⟨z_2, q_3, hd⟩ := dk_bind hd
        refine wp_callV 43 rfl i_179_40 (by decide) rfl (vs := []) (rest := []) rfl rfl rfl (HH.1 0 (by decide)) (y := m_146) rfl (Nat.le_of_ble_eq_true rfl) (d_146_ok (d := e) (by omega) HH.1 q_3) ?_
        rintro v_6 h_4 ⟨rfl, H_5⟩
        have H_5 := HH.tr H_5
        refine wp_s 45 [some (.ref 382), some (.int x1)] [.int (59 : Int32), .int z_2.1] h_4 i_179_43 rfl ?_
        refine wp_cmp_ne 66 48 rfl rfl i_179_45 (fun c_7 => ?_) (fun c_7 => ?_)
        · rw [if_pos c_7] at hd
          exact aWp.post (aWp.forget (ih.2.1 _ _ _ _ H_5.1 hd) ((lvS (lvS lvE)))) (fun _ _ hq => ⟨hq.1, H_5.tr hq.2⟩)
        · rw [if_neg c_7] at hd
          refine wp_s 49 [some (.ref 382), some (.int x1)] [.ref 382] h_4 i_179_48 rfl ?_
          refine wp_s 50 [some (.ref 382), some (.int x1)] [.ref 382, .ref 382] h_4 i_179_49 rfl ?_
          refine wp_get (v := .int (z_2.2.1 8)) 53 rfl i_179_50 (H_5.1 0 (by decide)) rfl ?_
          refine wp_s 54 [some (.ref 382), some (.int x1)] [.int (1 : Int32), .int (z_2.2.1 8), .ref 382] h_4 i_179_53 rfl ?_
          refine wp_s 55 [some (.ref 382), some (.int x1)] [.int ((z_2.2.1 8) + (1 : Int32)), .ref 382] h_4 i_179_54 rfl ?_
          refine rq_F8 58 rfl i_179_55 H_5 (fun h_8 H_9 => ?_)
          refine wp_s 59 [some (.ref 382), some (.int x1)] [.ref 382] h_8 i_179_58 rfl ?_
          obtain ⟨z_10, q_11, hd⟩ := dk_bind hd
          refine wp_callV 62 rfl i_179_59 (by decide) rfl (vs := []) (rest := []) rfl rfl rfl (H_9.1 0 (by decide)) (y := m_178) rfl (Nat.le_of_ble_eq_true rfl) (d_178_ok (d := e) (by omega) H_9.1 q_11) ?_
          rintro v_14 h_12 ⟨rfl, H_13⟩
          have H_13 := H_9.tr H_13
          refine wp_s 63 [some (.ref 382), some (.int z_10.1)] [] h_12 i_179_62 rfl ?_
          refine wp_s 35 [some (.ref 382), some (.int z_10.1)] [] h_12 i_179_63 rfl ?_
          exact aWp.post (aWp.forget (ih.1 _ _ _ _ H_13.1 hd) ((lvS (lvS lvE)))) (fun _ _ hq => ⟨hq.1, H_13.tr hq.2⟩)
    · intro x1 S h0 zz HS hd
      unfold l_179 at hd
      rw [if_neg (by decide), if_pos rfl] at hd
      have HH := rTo.rf HS
      obtain ⟨e, rfl⟩ : ∃ e, d = e + 1 := ⟨d - 1, by omega⟩
      refine wp_s 67 [some (.ref 382), some (.int x1)] [.int x1] h0 i_179_66 rfl ?_
      refine wp_if_eq 88 70 rfl rfl i_179_67 (fun c_15 => ?_) (fun c_15 => ?_)
      · rw [if_pos c_15] at hd
        exact aWp.post (aWp.forget (ih.2.2 _ _ _ _ HH.1 hd) ((lvS (lvS lvE)))) (fun _ _ hq => ⟨hq.1, HH.tr hq.2⟩)
      · rw [if_neg c_15] at hd
        refine wp_s 71 [some (.ref 382), some (.int x1)] [.ref 382] h0 i_179_70 rfl ?_
        obtain ⟨z_16, q_17, hd⟩ := dk_bind hd
        refine wp_callV 74 rfl i_179_71 (by decide) rfl (vs := []) (rest := []) rfl rfl rfl (HH.1 0 (by decide)) (y := m_146) rfl (Nat.le_of_ble_eq_true rfl) (d_146_ok (d := e) (by omega) HH.1 q_17) ?_
        rintro v_20 h_18 ⟨rfl, H_19⟩
        have H_19 := HH.tr H_19
        refine wp_s 75 [some (.ref 382), some (.int x1)] [.int (-1 : Int32), .int z_16.1] h_18 i_179_74 rfl ?_
        refine wp_cmp_eq 88 78 rfl rfl i_179_75 (fun c_21 => ?_) (fun c_21 => ?_)
        · rw [if_pos c_21] at hd
          exact aWp.post (aWp.forget (ih.2.2 _ _ _ _ H_19.1 hd) ((lvS (lvS lvE)))) (fun _ _ hq => ⟨hq.1, H_19.tr hq.2⟩)
        · rw [if_neg c_21] at hd
          refine wp_s 79 [some (.ref 382), some (.int x1)] [.ref 382] h_18 i_179_78 rfl ?_
          refine wp_s 80 [some (.ref 382), some (.int x1)] [.int (0 : Int32), .ref 382] h_18 i_179_79 rfl ?_
          refine wp_s 81 [some (.ref 382), some (.int x1)] [.ref 382, .int (0 : Int32), .ref 382] h_18 i_179_80 rfl ?_
          refine wp_get (v := .int (z_16.2.1 8)) 84 rfl i_179_81 (H_19.1 0 (by decide)) rfl ?_
          obtain ⟨z_22, q_23, hd⟩ := dk_bind hd
          refine wp_callV 87 rfl i_179_84 (by decide) rfl (vs := [.int (0 : Int32), .int (z_16.2.1 8)]) (rest := []) rfl rfl rfl (H_19.1 0 (by decide)) (y := m_145) rfl (Nat.le_of_ble_eq_true rfl) (d_145_ok (d := e) (by omega) H_19.1 q_23) ?_
          rintro v_26 h_24 ⟨rfl, H_25⟩
          have H_25 := H_19.tr H_25
          refine wp_s 88 [some (.ref 382), some (.int x1)] [] h_24 i_179_87 rfl ?_
          exact aWp.post (aWp.forget (ih.2.2 _ _ _ _ H_25.1 hd) ((lvS (lvS lvE)))) (fun _ _ hq => ⟨hq.1, H_25.tr hq.2⟩)
    · intro x1 S h0 zz HS hd
      unfold l_179 at hd
      rw [if_neg (by decide), if_neg (by decide), if_pos rfl] at hd
      have HH := rTo.rf HS
      obtain ⟨e, rfl⟩ : ∃ e, d = e + 1 := ⟨d - 1, by omega⟩
      refine wp_s 89 [some (.ref 382), some (.int x1)] [.ref 382] h0 i_179_88 rfl ?_
      refine wp_s 90 [some (.ref 382), some (.int x1)] [.int (0 : Int32), .ref 382] h0 i_179_89 rfl ?_
      refine rq_F1 93 rfl i_179_90 HH (fun h_27 H_28 => ?_)
      refine wp_s 94 [some (.ref 382), some (.int x1)] [.ref 382] h_27 i_179_93 rfl ?_
      refine wp_get (v := .int (S.1 9)) 97 rfl i_179_94 (H_28.1 0 (by decide)) rfl ?_
      refine wp_if_ne 104 100 rfl rfl i_179_97 (fun c_29 => ?_) (fun c_29 => ?_)
      · rw [if_pos c_29] at hd
        refine wp_s 105 [some (.ref 382), some (.int x1)] [.int (0 : Int32)] h_27 i_179_104 rfl ?_
        obtain rfl := Option.some.inj hd
        exact wp_iretZ (z := 0) i_179_105 (by decide) ⟨rfl, H_28⟩
      · rw [if_neg c_29] at hd
        refine wp_s 101 [some (.ref 382), some (.int x1)] [.int (1 : Int32)] h_27 i_179_100 rfl ?_
        refine wp_s 105 [some (.ref 382), some (.int x1)] [.int (1 : Int32)] h_27 i_179_101 rfl ?_
        obtain rfl := Option.some.inj hd
        exact wp_iretZ (z := 0) i_179_105 (by decide) ⟨rfl, H_28⟩
def d_179 (g : Nat)  (S : rS) : Option (Int32 × rS) := (if aIn (S.1 11) 7 = true then ((d_178 g  (rF (rF (rF (rF (rA S 4 (upd (S.2.1 4) (S.1 11).toNatClampNeg (0 : Int32))) 14 (0 : Int32)) 8 (0 : Int32)) 9 (0 : Int32)) 12 (0 : Int32))).bind (fun z_1012 => (l_179 g g 0 z_1012.1 z_1012.2))) else none)
set_option maxHeartbeats 4000000 in
set_option maxRecDepth 100000 in
theorem d_179_ok {X : aX} {g d : Nat}  {S : rS} {h0 : aH} {zz : Int32 × rS} (hdp : 11 ≤ d) (HS : rm h0 S) (hd : d_179 g  S = some zz) : aWp X d 179 0 (aEntL [.ref 382] 2) [] h0 (fun w h' => w = some (.int zz.1) ∧ rTo h0 zz.2 h') := by
  unfold d_179 at hd
  have HH := rTo.rf HS
  refine wp_lv (l2 := [some (.ref 382), none]) rfl ?_
  obtain ⟨e, rfl⟩ : ∃ e, d = e + 1 := ⟨d - 1, by omega⟩
  refine wp_s 1 [some (.ref 382), none] [.ref 382] h0 i_179_0 rfl ?_
  refine wp_get (v := .ref 385) 4 rfl i_179_1 (HH.1 0 (by decide)) rfl ?_
  refine wp_s 5 [some (.ref 382), none] [.ref 382, .ref 385] h0 i_179_4 rfl ?_
  refine wp_get (v := .int (S.1 11)) 8 rfl i_179_5 (HH.1 0 (by decide)) rfl ?_
  refine wp_s 9 [some (.ref 382), none] [.int (0 : Int32), .int (S.1 11), .ref 385] h0 i_179_8 rfl ?_
  obtain ⟨b_1001, hd⟩ := dk_if hd
  refine rq_A4 10 rfl i_179_9 HH b_1001 (fun h_1002 H_1003 => ?_)
  refine wp_s 11 [some (.ref 382), none] [.ref 382] h_1002 i_179_10 rfl ?_
  refine wp_s 12 [some (.ref 382), none] [.int (0 : Int32), .ref 382] h_1002 i_179_11 rfl ?_
  refine rq_F14 15 rfl i_179_12 H_1003 (fun h_1004 H_1005 => ?_)
  refine wp_s 16 [some (.ref 382), none] [.ref 382] h_1004 i_179_15 rfl ?_
  refine wp_s 17 [some (.ref 382), none] [.int (0 : Int32), .ref 382] h_1004 i_179_16 rfl ?_
  refine rq_F8 20 rfl i_179_17 H_1005 (fun h_1006 H_1007 => ?_)
  refine wp_s 21 [some (.ref 382), none] [.ref 382] h_1006 i_179_20 rfl ?_
  refine wp_s 22 [some (.ref 382), none] [.int (0 : Int32), .ref 382] h_1006 i_179_21 rfl ?_
  refine rq_F9 25 rfl i_179_22 H_1007 (fun h_1008 H_1009 => ?_)
  refine wp_s 26 [some (.ref 382), none] [.ref 382] h_1008 i_179_25 rfl ?_
  refine wp_s 27 [some (.ref 382), none] [.int (0 : Int32), .ref 382] h_1008 i_179_26 rfl ?_
  refine rq_F12 30 rfl i_179_27 H_1009 (fun h_1010 H_1011 => ?_)
  refine wp_s 31 [some (.ref 382), none] [.ref 382] h_1010 i_179_30 rfl ?_
  obtain ⟨z_1012, q_1013, hd⟩ := dk_bind hd
  refine wp_callV 34 rfl i_179_31 (by decide) rfl (vs := []) (rest := []) rfl rfl rfl (H_1011.1 0 (by decide)) (y := m_178) rfl (Nat.le_of_ble_eq_true rfl) (d_178_ok (d := e) (by omega) H_1011.1 q_1013) ?_
  rintro v_1016 h_1014 ⟨rfl, H_1015⟩
  have H_1015 := H_1011.tr H_1015
  refine wp_s 35 [some (.ref 382), some (.int z_1012.1)] [] h_1014 i_179_34 rfl ?_
  exact aWp.post (aWp.forget ((l_179_ok hdp g).1 _ _ _ _ H_1015.1 hd) ((lvS (lvS lvE)))) (fun _ _ hq => ⟨hq.1, H_1015.tr hq.2⟩)
def d_180 (g : Nat)  (S : rS) : Option (Int32 × rS) := (if ¬ (S.1 2) = (6 : Int32) then (if aIn (S.1 2) 6 = true then ((d_179 g  (rA (rF S 11 (S.1 2)) 6 (upd (S.2.1 6) (S.1 2).toNatClampNeg (0 : Int32)))).bind (fun z_7 => (if ¬ z_7.1 = 0 then some ((((z_7.2.1 2) + (1 : Int32)) - (1 : Int32)), (rF z_7.2 2 ((z_7.2.1 2) + (1 : Int32)))) else some (((-2 : Int32) - (z_7.2.1 9)), z_7.2)))) else none) else some ((-1 : Int32), S))
set_option maxHeartbeats 4000000 in
set_option maxRecDepth 100000 in
theorem d_180_ok {X : aX} {g d : Nat}  {S : rS} {h0 : aH} {zz : Int32 × rS} (hdp : 12 ≤ d) (HS : rm h0 S) (hd : d_180 g  S = some zz) : aWp X d 180 0 (aEntL [.ref 382] 1) [] h0 (fun w h' => w = some (.int zz.1) ∧ rTo h0 zz.2 h') := by
  unfold d_180 at hd
  have HH := rTo.rf HS
  refine wp_lv (l2 := [some (.ref 382)]) rfl ?_
  obtain ⟨e, rfl⟩ : ∃ e, d = e + 1 := ⟨d - 1, by omega⟩
  refine wp_s 1 [some (.ref 382)] [.ref 382] h0 i_180_0 rfl ?_
  refine wp_get (v := .int (S.1 2)) 4 rfl i_180_1 (HH.1 0 (by decide)) rfl ?_
  refine wp_s 6 [some (.ref 382)] [.int (6 : Int32), .int (S.1 2)] h0 i_180_4 rfl ?_
  refine wp_cmp_ne 11 9 rfl rfl i_180_6 (fun c_1 => ?_) (fun c_1 => ?_)
  · rw [if_pos c_1] at hd
    refine wp_s 12 [some (.ref 382)] [.ref 382] h0 i_180_11 rfl ?_
    refine wp_s 13 [some (.ref 382)] [.ref 382, .ref 382] h0 i_180_12 rfl ?_
    refine wp_get (v := .int (S.1 2)) 16 rfl i_180_13 (HH.1 0 (by decide)) rfl ?_
    refine rq_F11 19 rfl i_180_16 HH (fun h_2 H_3 => ?_)
    refine wp_s 20 [some (.ref 382)] [.ref 382] h_2 i_180_19 rfl ?_
    refine wp_get (v := .ref 387) 23 rfl i_180_20 (H_3.1 0 (by decide)) rfl ?_
    refine wp_s 24 [some (.ref 382)] [.ref 382, .ref 387] h_2 i_180_23 rfl ?_
    refine wp_get (v := .int (S.1 2)) 27 rfl i_180_24 (H_3.1 0 (by decide)) rfl ?_
    refine wp_s 28 [some (.ref 382)] [.int (0 : Int32), .int (S.1 2), .ref 387] h_2 i_180_27 rfl ?_
    obtain ⟨b_4, hd⟩ := dk_if hd
    refine rq_A6 29 rfl i_180_28 H_3 b_4 (fun h_5 H_6 => ?_)
    refine wp_s 30 [some (.ref 382)] [.ref 382] h_5 i_180_29 rfl ?_
    obtain ⟨z_7, q_8, hd⟩ := dk_bind hd
    refine wp_callV 33 rfl i_180_30 (by decide) rfl (vs := []) (rest := []) rfl rfl rfl (H_6.1 0 (by decide)) (y := m_179) rfl (Nat.le_of_ble_eq_true rfl) (d_179_ok (d := e) (by omega) H_6.1 q_8) ?_
    rintro v_11 h_9 ⟨rfl, H_10⟩
    have H_10 := H_6.tr H_10
    refine wp_if_ne 44 36 rfl rfl i_180_33 (fun c_12 => ?_) (fun c_12 => ?_)
    · rw [if_pos c_12] at hd
      refine wp_s 45 [some (.ref 382)] [.ref 382] h_9 i_180_44 rfl ?_
      refine wp_s 46 [some (.ref 382)] [.ref 382, .ref 382] h_9 i_180_45 rfl ?_
      refine wp_get (v := .int (z_7.2.1 2)) 49 rfl i_180_46 (H_10.1 0 (by decide)) rfl ?_
      refine wp_s 50 [some (.ref 382)] [.int (1 : Int32), .int (z_7.2.1 2), .ref 382] h_9 i_180_49 rfl ?_
      refine wp_s 51 [some (.ref 382)] [.int ((z_7.2.1 2) + (1 : Int32)), .ref 382] h_9 i_180_50 rfl ?_
      refine rq_F2 54 rfl i_180_51 H_10 (fun h_13 H_14 => ?_)
      refine wp_s 55 [some (.ref 382)] [.ref 382] h_13 i_180_54 rfl ?_
      refine wp_get (v := .int ((z_7.2.1 2) + (1 : Int32))) 58 rfl i_180_55 (H_14.1 0 (by decide)) rfl ?_
      refine wp_s 59 [some (.ref 382)] [.int (1 : Int32), .int ((z_7.2.1 2) + (1 : Int32))] h_13 i_180_58 rfl ?_
      refine wp_s 60 [some (.ref 382)] [.int (((z_7.2.1 2) + (1 : Int32)) - (1 : Int32))] h_13 i_180_59 rfl ?_
      obtain rfl := Option.some.inj hd
      exact wp_iret i_180_60 ⟨rfl, H_14⟩
    · rw [if_neg c_12] at hd
      refine wp_s 38 [some (.ref 382)] [.int (-2 : Int32)] h_9 i_180_36 rfl ?_
      refine wp_s 39 [some (.ref 382)] [.ref 382, .int (-2 : Int32)] h_9 i_180_38 rfl ?_
      refine wp_get (v := .int (z_7.2.1 9)) 42 rfl i_180_39 (H_10.1 0 (by decide)) rfl ?_
      refine wp_s 43 [some (.ref 382)] [.int ((-2 : Int32) - (z_7.2.1 9))] h_9 i_180_42 rfl ?_
      obtain rfl := Option.some.inj hd
      exact wp_iret i_180_43 ⟨rfl, H_10⟩
  · rw [if_neg c_1] at hd
    refine wp_s 10 [some (.ref 382)] [.int (-1 : Int32)] h0 i_180_9 rfl ?_
    obtain rfl := Option.some.inj hd
    exact wp_iret i_180_10 ⟨rfl, HH⟩
def l_181 (g n tag : Nat) (x1 : Int32) (s0 : Int32) (s1 : Int32) (S : rS) : Option (Int32 × rS) := match n with
  | 0 => none
  | n + 1 => if tag = 0 then (if (80 : Int32) ≤ x1 then ((d_179 g  S).bind (fun z_2 => (if ¬ z_2.1 = 0 then (l_181 g n 1 (0 : Int32) 0 0 z_2.2) else some (((-2 : Int32) - (z_2.2.1 9)), z_2.2)))) else (if aIn x1 140 = true then (l_181 g n 0 (x1 + (1 : Int32)) 0 0 (rA S 7 (upd (S.2.1 7) x1.toNatClampNeg (0 : Int32)))) else none)) else if tag = 1 then (if (181 : Int32) ≤ x1 then (if aIn (1 : Int32) 181 = true then some (((S.2.1 20) (1 : Int32).toNatClampNeg), (rF S 27 (0 : Int32))) else none) else (if (140 : Int32) ≤ x1 then (l_181 g n 2 x1 (0 : Int32) x1 S) else (if aIn x1 140 = true then (l_181 g n 2 x1 ((S.2.1 7) x1.toNatClampNeg) x1 S) else none))) else if tag = 2 then (if aIn s1 181 = true then (l_181 g n 1 (x1 + (1 : Int32)) 0 0 (rA S 20 (upd (S.2.1 20) s1.toNatClampNeg s0))) else none) else none
set_option maxHeartbeats 4000000 in
set_option maxRecDepth 100000 in
theorem l_181_ok {X : aX} {g d : Nat} (hdp : 12 ≤ d) : ∀ n, (∀ (x1 : Int32) (s0 : Int32) (s1 : Int32) (S : rS) (h0 : aH) (zz : Int32 × rS), rm h0 S → l_181 g n 0 x1 s0 s1 S = some zz → aWp X d 181 8 [some (.ref 382), some (.int x1)] [] h0 (fun w h' => w = some (.int zz.1) ∧ rTo h0 zz.2 h')) ∧ (∀ (x1 : Int32) (s0 : Int32) (s1 : Int32) (S : rS) (h0 : aH) (zz : Int32 × rS), rm h0 S → l_181 g n 1 x1 s0 s1 S = some zz → aWp X d 181 44 [some (.ref 382), some (.int x1)] [] h0 (fun w h' => w = some (.int zz.1) ∧ rTo h0 zz.2 h')) ∧ (∀ (x1 : Int32) (s0 : Int32) (s1 : Int32) (S : rS) (h0 : aH) (zz : Int32 × rS), rm h0 S → l_181 g n 2 x1 s0 s1 S = some zz → aWp X d 181 73 [some (.ref 382), some (.int x1)] [.int s0, .int s1, .ref 392] h0 (fun w h' => w = some (.int zz.1) ∧ rTo h0 zz.2 h')) := by
  intro n
  induction n with
  | zero => exact ⟨fun _ _ _ _ _ _ _ hd => by simp [l_181] at hd, fun _ _ _ _ _ _ _ hd => by simp [l_181] at hd, fun _ _ _ _ _ _ _ hd => by simp [l_181] at hd⟩
  | succ n ih =>
    refine ⟨?_, ?_, ?_⟩
    · intro x1 s0 s1 S h0 zz HS hd
      unfold l_181 at hd
      rw [if_pos rfl] at hd
      have HH := rTo.rf HS
      obtain ⟨e, rfl⟩ : ∃ e, d = e + 1 := ⟨d - 1, by omega⟩
      refine wp_s 9 [some (.ref 382), some (.int x1)] [.int x1] h0 i_181_8 rfl ?_
      refine wp_s 11 [some (.ref 382), some (.int x1)] [.int (80 : Int32), .int x1] h0 i_181_9 rfl ?_
      refine wp_cmp_ge 27 14 rfl rfl i_181_11 (fun c_1 => ?_) (fun c_1 => ?_)
      · rw [if_pos c_1] at hd
        refine wp_s 28 [some (.ref 382), some (.int x1)] [.ref 382] h0 i_181_27 rfl ?_
        obtain ⟨z_2, q_3, hd⟩ := dk_bind hd
        refine wp_callV 31 rfl i_181_28 (by decide) rfl (vs := []) (rest := []) rfl rfl rfl (HH.1 0 (by decide)) (y := m_179) rfl (Nat.le_of_ble_eq_true rfl) (d_179_ok (d := e) (by omega) HH.1 q_3) ?_
        rintro v_6 h_4 ⟨rfl, H_5⟩
        have H_5 := HH.tr H_5
        refine wp_if_ne 42 34 rfl rfl i_181_31 (fun c_7 => ?_) (fun c_7 => ?_)
        · rw [if_pos c_7] at hd
          refine wp_s 43 [some (.ref 382), some (.int x1)] [.int (0 : Int32)] h_4 i_181_42 rfl ?_
          refine wp_s 44 [some (.ref 382), some (.int (0 : Int32))] [] h_4 i_181_43 rfl ?_
          exact aWp.post (aWp.forget (ih.2.1 _ _ _ _ _ _ H_5.1 hd) ((lvS (lvS lvE)))) (fun _ _ hq => ⟨hq.1, H_5.tr hq.2⟩)
        · rw [if_neg c_7] at hd
          refine wp_s 36 [some (.ref 382), some (.int x1)] [.int (-2 : Int32)] h_4 i_181_34 rfl ?_
          refine wp_s 37 [some (.ref 382), some (.int x1)] [.ref 382, .int (-2 : Int32)] h_4 i_181_36 rfl ?_
          refine wp_get (v := .int (z_2.2.1 9)) 40 rfl i_181_37 (H_5.1 0 (by decide)) rfl ?_
          refine wp_s 41 [some (.ref 382), some (.int x1)] [.int ((-2 : Int32) - (z_2.2.1 9))] h_4 i_181_40 rfl ?_
          obtain rfl := Option.some.inj hd
          exact wp_iret i_181_41 ⟨rfl, H_5⟩
      · rw [if_neg c_1] at hd
        refine wp_s 15 [some (.ref 382), some (.int x1)] [.ref 382] h0 i_181_14 rfl ?_
        refine wp_get (v := .ref 388) 18 rfl i_181_15 (HH.1 0 (by decide)) rfl ?_
        refine wp_s 19 [some (.ref 382), some (.int x1)] [.int x1, .ref 388] h0 i_181_18 rfl ?_
        refine wp_s 20 [some (.ref 382), some (.int x1)] [.int (0 : Int32), .int x1, .ref 388] h0 i_181_19 rfl ?_
        obtain ⟨b_8, hd⟩ := dk_if hd
        refine rq_A7 21 rfl i_181_20 HH b_8 (fun h_9 H_10 => ?_)
        refine wp_s 24 [some (.ref 382), some (.int (x1 + (1 : Int32)))] [] h_9 i_181_21 rfl ?_
        refine wp_s 8 [some (.ref 382), some (.int (x1 + (1 : Int32)))] [] h_9 i_181_24 rfl ?_
        exact aWp.post (aWp.forget (ih.1 _ _ _ _ _ _ H_10.1 hd) ((lvS (lvS lvE)))) (fun _ _ hq => ⟨hq.1, H_10.tr hq.2⟩)
    · intro x1 s0 s1 S h0 zz HS hd
      unfold l_181 at hd
      rw [if_neg (by decide), if_pos rfl] at hd
      have HH := rTo.rf HS
      obtain ⟨e, rfl⟩ : ∃ e, d = e + 1 := ⟨d - 1, by omega⟩
      refine wp_s 45 [some (.ref 382), some (.int x1)] [.int x1] h0 i_181_44 rfl ?_
      refine wp_s 48 [some (.ref 382), some (.int x1)] [.int (181 : Int32), .int x1] h0 i_181_45 rfl ?_
      refine wp_cmp_ge 80 51 rfl rfl i_181_48 (fun c_11 => ?_) (fun c_11 => ?_)
      · rw [if_pos c_11] at hd
        refine wp_s 81 [some (.ref 382), some (.int x1)] [.ref 382] h0 i_181_80 rfl ?_
        refine wp_s 82 [some (.ref 382), some (.int x1)] [.int (0 : Int32), .ref 382] h0 i_181_81 rfl ?_
        refine rq_F27 85 rfl i_181_82 HH (fun h_12 H_13 => ?_)
        refine wp_s 86 [some (.ref 382), some (.int x1)] [.ref 382] h_12 i_181_85 rfl ?_
        refine wp_get (v := .ref 392) 89 rfl i_181_86 (H_13.1 0 (by decide)) rfl ?_
        refine wp_s 90 [some (.ref 382), some (.int x1)] [.int (1 : Int32), .ref 392] h_12 i_181_89 rfl ?_
        obtain ⟨b_14, hd⟩ := dk_if hd
        refine wp_iald (f := (S.2.1 20)) 91 rfl i_181_90 (H_13.1 10 (by decide)) b_14 ?_
        obtain rfl := Option.some.inj hd
        exact wp_iret i_181_91 ⟨rfl, H_13⟩
      · rw [if_neg c_11] at hd
        refine wp_s 52 [some (.ref 382), some (.int x1)] [.ref 382] h0 i_181_51 rfl ?_
        refine wp_get (v := .ref 392) 55 rfl i_181_52 (HH.1 0 (by decide)) rfl ?_
        refine wp_s 56 [some (.ref 382), some (.int x1)] [.int x1, .ref 392] h0 i_181_55 rfl ?_
        refine wp_s 57 [some (.ref 382), some (.int x1)] [.int x1, .int x1, .ref 392] h0 i_181_56 rfl ?_
        refine wp_s 60 [some (.ref 382), some (.int x1)] [.int (140 : Int32), .int x1, .int x1, .ref 392] h0 i_181_57 rfl ?_
        refine wp_cmp_ge 72 63 rfl rfl i_181_60 (fun c_15 => ?_) (fun c_15 => ?_)
        · rw [if_pos c_15] at hd
          refine wp_s 73 [some (.ref 382), some (.int x1)] [.int (0 : Int32), .int x1, .ref 392] h0 i_181_72 rfl ?_
          exact aWp.post (aWp.forget (ih.2.2 _ _ _ _ _ _ HH.1 hd) ((lvS (lvS lvE)))) (fun _ _ hq => ⟨hq.1, HH.tr hq.2⟩)
        · rw [if_neg c_15] at hd
          refine wp_s 64 [some (.ref 382), some (.int x1)] [.ref 382, .int x1, .ref 392] h0 i_181_63 rfl ?_
          refine wp_get (v := .ref 388) 67 rfl i_181_64 (HH.1 0 (by decide)) rfl ?_
          refine wp_s 68 [some (.ref 382), some (.int x1)] [.int x1, .ref 388, .int x1, .ref 392] h0 i_181_67 rfl ?_
          obtain ⟨b_16, hd⟩ := dk_if hd
          refine wp_iald (f := (S.2.1 7)) 69 rfl i_181_68 (HH.1 6 (by decide)) b_16 ?_
          refine wp_s 73 [some (.ref 382), some (.int x1)] [.int ((S.2.1 7) x1.toNatClampNeg), .int x1, .ref 392] h0 i_181_69 rfl ?_
          exact aWp.post (aWp.forget (ih.2.2 _ _ _ _ _ _ HH.1 hd) ((lvS (lvS lvE)))) (fun _ _ hq => ⟨hq.1, HH.tr hq.2⟩)
    · intro x1 s0 s1 S h0 zz HS hd
      unfold l_181 at hd
      rw [if_neg (by decide), if_neg (by decide), if_pos rfl] at hd
      have HH := rTo.rf HS
      obtain ⟨e, rfl⟩ : ∃ e, d = e + 1 := ⟨d - 1, by omega⟩
      obtain ⟨b_17, hd⟩ := dk_if hd
      refine rq_A20 74 rfl i_181_73 HH b_17 (fun h_18 H_19 => ?_)
      refine wp_s 77 [some (.ref 382), some (.int (x1 + (1 : Int32)))] [] h_18 i_181_74 rfl ?_
      refine wp_s 44 [some (.ref 382), some (.int (x1 + (1 : Int32)))] [] h_18 i_181_77 rfl ?_
      exact aWp.post (aWp.forget (ih.2.1 _ _ _ _ _ _ H_19.1 hd) ((lvS (lvS lvE)))) (fun _ _ hq => ⟨hq.1, H_19.tr hq.2⟩)
def d_181 (g : Nat)  (S : rS) : Option (Int32 × rS) := (l_181 g g 0 (0 : Int32) 0 0 (rF S 11 (6 : Int32)))
set_option maxHeartbeats 4000000 in
set_option maxRecDepth 100000 in
theorem d_181_ok {X : aX} {g d : Nat}  {S : rS} {h0 : aH} {zz : Int32 × rS} (hdp : 12 ≤ d) (HS : rm h0 S) (hd : d_181 g  S = some zz) : aWp X d 181 0 (aEntL [.ref 382] 2) [] h0 (fun w h' => w = some (.int zz.1) ∧ rTo h0 zz.2 h') := by
  unfold d_181 at hd
  have HH := rTo.rf HS
  refine wp_lv (l2 := [some (.ref 382), none]) rfl ?_
  obtain ⟨e, rfl⟩ : ∃ e, d = e + 1 := ⟨d - 1, by omega⟩
  refine wp_s 1 [some (.ref 382), none] [.ref 382] h0 i_181_0 rfl ?_
  refine wp_s 3 [some (.ref 382), none] [.int (6 : Int32), .ref 382] h0 i_181_1 rfl ?_
  refine rq_F11 6 rfl i_181_3 HH (fun h_1001 H_1002 => ?_)
  refine wp_s 7 [some (.ref 382), none] [.int (0 : Int32)] h_1001 i_181_6 rfl ?_
  refine wp_s 8 [some (.ref 382), some (.int (0 : Int32))] [] h_1001 i_181_7 rfl ?_
  exact aWp.post (aWp.forget ((l_181_ok hdp g).1 _ _ _ _ _ _ H_1002.1 hd) ((lvS (lvS lvE)))) (fun _ _ hq => ⟨hq.1, H_1002.tr hq.2⟩)
def d_182 (g : Nat) (x1 : Int32) (S : rS) : Option (Int32 × rS) := (if x1 < 0 then some ((0 : Int32), S) else (if (S.1 2) ≤ x1 then some ((0 : Int32), S) else some ((1 : Int32), S)))
set_option maxHeartbeats 4000000 in
set_option maxRecDepth 100000 in
theorem d_182_ok {X : aX} {g d : Nat} {x1 : Int32} {S : rS} {h0 : aH} {zz : Int32 × rS} (hdp : 0 ≤ d) (HS : rm h0 S) (hd : d_182 g x1 S = some zz) : aWp X d 182 0 (aEntL [.ref 382, .int x1] 2) [] h0 (fun w h' => w = some (.int zz.1) ∧ rTo h0 zz.2 h') := by
  unfold d_182 at hd
  have HH := rTo.rf HS
  refine wp_lv (l2 := [some (.ref 382), some (.int x1)]) rfl ?_
  refine wp_s 1 [some (.ref 382), some (.int x1)] [.int x1] h0 i_182_0 rfl ?_
  refine wp_if_lt 16 4 rfl rfl i_182_1 (fun c_1 => ?_) (fun c_1 => ?_)
  · rw [if_pos c_1] at hd
    refine wp_s 17 [some (.ref 382), some (.int x1)] [.int (0 : Int32)] h0 i_182_16 rfl ?_
    obtain rfl := Option.some.inj hd
    exact wp_iretZ (z := 0) i_182_17 (by decide) ⟨rfl, HH⟩
  · rw [if_neg c_1] at hd
    refine wp_s 5 [some (.ref 382), some (.int x1)] [.int x1] h0 i_182_4 rfl ?_
    refine wp_s 6 [some (.ref 382), some (.int x1)] [.ref 382, .int x1] h0 i_182_5 rfl ?_
    refine wp_get (v := .int (S.1 2)) 9 rfl i_182_6 (HH.1 0 (by decide)) rfl ?_
    refine wp_cmp_ge 16 12 rfl rfl i_182_9 (fun c_2 => ?_) (fun c_2 => ?_)
    · rw [if_pos c_2] at hd
      refine wp_s 17 [some (.ref 382), some (.int x1)] [.int (0 : Int32)] h0 i_182_16 rfl ?_
      obtain rfl := Option.some.inj hd
      exact wp_iretZ (z := 0) i_182_17 (by decide) ⟨rfl, HH⟩
    · rw [if_neg c_2] at hd
      refine wp_s 13 [some (.ref 382), some (.int x1)] [.int (1 : Int32)] h0 i_182_12 rfl ?_
      refine wp_s 17 [some (.ref 382), some (.int x1)] [.int (1 : Int32)] h0 i_182_13 rfl ?_
      obtain rfl := Option.some.inj hd
      exact wp_iretZ (z := 0) i_182_17 (by decide) ⟨rfl, HH⟩
def d_183 (g : Nat) (w1 : Int64) (S : rS) : Option (rS) := (if aIn (S.1 18) 64 = true then some (rF (rK S (vp_updL S.2.2.1 (S.1 18).toNatClampNeg w1)) 18 ((S.1 18) + (1 : Int32))) else none)
set_option maxHeartbeats 4000000 in
set_option maxRecDepth 100000 in
theorem d_183_ok {X : aX} {g d : Nat} {w1 : Int64} {S : rS} {h0 : aH} {zz : rS} (hdp : 0 ≤ d) (HS : rm h0 S) (hd : d_183 g w1 S = some zz) : aWp X d 183 0 (aEntL [.ref 382, .long w1] 3) [] h0 (fun w h' => w = none ∧ rTo h0 zz h') := by
  unfold d_183 at hd
  have HH := rTo.rf HS
  refine wp_lv (l2 := [some (.ref 382), some (.long w1), none]) rfl ?_
  refine wp_s 1 [some (.ref 382), some (.long w1), none] [.ref 382] h0 i_183_0 rfl ?_
  refine wp_get (v := .ref 390) 4 rfl i_183_1 (HH.1 0 (by decide)) rfl ?_
  refine wp_s 5 [some (.ref 382), some (.long w1), none] [.ref 382, .ref 390] h0 i_183_4 rfl ?_
  refine wp_get (v := .int (S.1 18)) 8 rfl i_183_5 (HH.1 0 (by decide)) rfl ?_
  refine wp_s 9 [some (.ref 382), some (.long w1), none] [.long w1, .int (S.1 18), .ref 390] h0 i_183_8 rfl ?_
  obtain ⟨b_1, hd⟩ := dk_if hd
  refine rq_A17 10 rfl i_183_9 HH b_1 (fun h_2 H_3 => ?_)
  refine wp_s 11 [some (.ref 382), some (.long w1), none] [.ref 382] h_2 i_183_10 rfl ?_
  refine wp_s 12 [some (.ref 382), some (.long w1), none] [.ref 382, .ref 382] h_2 i_183_11 rfl ?_
  refine wp_get (v := .int (S.1 18)) 15 rfl i_183_12 (H_3.1 0 (by decide)) rfl ?_
  refine wp_s 16 [some (.ref 382), some (.long w1), none] [.int (1 : Int32), .int (S.1 18), .ref 382] h_2 i_183_15 rfl ?_
  refine wp_s 17 [some (.ref 382), some (.long w1), none] [.int ((S.1 18) + (1 : Int32)), .ref 382] h_2 i_183_16 rfl ?_
  refine rq_F18 20 rfl i_183_17 H_3 (fun h_4 H_5 => ?_)
  obtain rfl := Option.some.inj hd
  exact wp_ret i_183_20 rfl ⟨rfl, H_5⟩
def d_184 (g : Nat)  (S : rS) : Option (Int64 × rS) := (if aIn ((S.1 18) - (1 : Int32)) 64 = true then some ((S.2.2.1 ((S.1 18) - (1 : Int32)).toNatClampNeg), (rF S 18 ((S.1 18) - (1 : Int32)))) else none)
set_option maxHeartbeats 4000000 in
set_option maxRecDepth 100000 in
theorem d_184_ok {X : aX} {g d : Nat}  {S : rS} {h0 : aH} {zz : Int64 × rS} (hdp : 0 ≤ d) (HS : rm h0 S) (hd : d_184 g  S = some zz) : aWp X d 184 0 (aEntL [.ref 382] 1) [] h0 (fun w h' => w = some (.long zz.1) ∧ rTo h0 zz.2 h') := by
  unfold d_184 at hd
  have HH := rTo.rf HS
  refine wp_lv (l2 := [some (.ref 382)]) rfl ?_
  refine wp_s 1 [some (.ref 382)] [.ref 382] h0 i_184_0 rfl ?_
  refine wp_s 2 [some (.ref 382)] [.ref 382, .ref 382] h0 i_184_1 rfl ?_
  refine wp_get (v := .int (S.1 18)) 5 rfl i_184_2 (HH.1 0 (by decide)) rfl ?_
  refine wp_s 6 [some (.ref 382)] [.int (1 : Int32), .int (S.1 18), .ref 382] h0 i_184_5 rfl ?_
  refine wp_s 7 [some (.ref 382)] [.int ((S.1 18) - (1 : Int32)), .ref 382] h0 i_184_6 rfl ?_
  refine rq_F18 10 rfl i_184_7 HH (fun h_1 H_2 => ?_)
  refine wp_s 11 [some (.ref 382)] [.ref 382] h_1 i_184_10 rfl ?_
  refine wp_get (v := .ref 390) 14 rfl i_184_11 (H_2.1 0 (by decide)) rfl ?_
  refine wp_s 15 [some (.ref 382)] [.ref 382, .ref 390] h_1 i_184_14 rfl ?_
  refine wp_get (v := .int ((S.1 18) - (1 : Int32))) 18 rfl i_184_15 (H_2.1 0 (by decide)) rfl ?_
  obtain ⟨b_3, hd⟩ := dk_if hd
  refine wp_lald (f := S.2.2.1) 19 rfl i_184_18 (H_2.1 8 (by decide)) b_3 ?_
  obtain rfl := Option.some.inj hd
  exact wp_ret i_184_19 rfl ⟨rfl, H_2⟩
def d_185 (g : Nat) (x0 : Int32) (w1 : Int64) (w3 : Int64) (S : rS) : Option (Int64 × rS) := (if x0 = (2 : Int32) then some ((w1 + w3), S) else (if x0 = (3 : Int32) then some ((w1 - w3), S) else (if x0 = (4 : Int32) then some ((w1 * w3), S) else (if x0 = (5 : Int32) then (if ¬ (lg_cmp w3 (0 : Int64)) = 0 then (if ¬ w3 = 0 then some ((w1 / w3), S) else none) else some ((0 : Int64), S)) else (if x0 = (6 : Int32) then (if 0 ≤ (lg_cmp w1 w3) then some ((0 : Int64), S) else some ((1 : Int64), S)) else (if x0 = (7 : Int32) then (if 0 < (lg_cmp w1 w3) then some ((0 : Int64), S) else some ((1 : Int64), S)) else (if x0 = (8 : Int32) then (if ¬ (lg_cmp w1 w3) = 0 then some ((0 : Int64), S) else some ((1 : Int64), S)) else (if x0 = (9 : Int32) then (if (lg_cmp w1 w3) < 0 then some ((0 : Int64), S) else some ((1 : Int64), S)) else (if x0 = (10 : Int32) then (if (lg_cmp w1 w3) ≤ 0 then some ((0 : Int64), S) else some ((1 : Int64), S)) else (if x0 = (11 : Int32) then some ((w1 ||| w3), S) else (if x0 = (12 : Int32) then some ((w1 &&& w3), S) else (if x0 = (13 : Int32) then some ((w1 ||| w3), S) else (if x0 = (14 : Int32) then (if ¬ (lg_cmp w3 (0 : Int64)) = 0 then (if ¬ w3 = 0 then some ((w1 - w1 / w3 * w3), S) else none) else some ((0 : Int64), S)) else some ((w1 ||| w3), S))))))))))))))
set_option maxHeartbeats 4000000 in
set_option maxRecDepth 100000 in
theorem d_185_ok {X : aX} {g d : Nat} {x0 : Int32} {w1 : Int64} {w3 : Int64} {S : rS} {h0 : aH} {zz : Int64 × rS} (hdp : 0 ≤ d) (HS : rm h0 S) (hd : d_185 g x0 w1 w3 S = some zz) : aWp X d 185 0 (aEntL [.int x0, .long w1, .long w3] 5) [] h0 (fun w h' => w = some (.long zz.1) ∧ rTo h0 zz.2 h') := by
  unfold d_185 at hd
  have HH := rTo.rf HS
  refine wp_lv (l2 := [some (.int x0), some (.long w1), none, some (.long w3), none]) rfl ?_
  refine wp_s 1 [some (.int x0), some (.long w1), none, some (.long w3), none] [.int x0] h0 i_185_0 rfl ?_
  by_cases c_1 : x0 = (2 : Int32)
  · rw [if_pos c_1] at hd
    refine wp_tswC (j := 0) 68 i_185_1 (by rw [c_1]; decide) (by decide) rfl rfl ?_
    refine wp_s 69 [some (.int x0), some (.long w1), none, some (.long w3), none] [.long w1] h0 i_185_68 rfl ?_
    refine wp_s 70 [some (.int x0), some (.long w1), none, some (.long w3), none] [.long w3, .long w1] h0 i_185_69 rfl ?_
    refine wp_s 71 [some (.int x0), some (.long w1), none, some (.long w3), none] [.long (w1 + w3)] h0 i_185_70 rfl ?_
    obtain rfl := Option.some.inj hd
    exact wp_ret i_185_71 rfl ⟨rfl, HH⟩
  rw [if_neg c_1] at hd
  by_cases c_2 : x0 = (3 : Int32)
  · rw [if_pos c_2] at hd
    refine wp_tswC (j := 1) 72 i_185_1 (by rw [c_2]; decide) (by decide) rfl rfl ?_
    refine wp_s 73 [some (.int x0), some (.long w1), none, some (.long w3), none] [.long w1] h0 i_185_72 rfl ?_
    refine wp_s 74 [some (.int x0), some (.long w1), none, some (.long w3), none] [.long w3, .long w1] h0 i_185_73 rfl ?_
    refine wp_s 75 [some (.int x0), some (.long w1), none, some (.long w3), none] [.long (w1 - w3)] h0 i_185_74 rfl ?_
    obtain rfl := Option.some.inj hd
    exact wp_ret i_185_75 rfl ⟨rfl, HH⟩
  rw [if_neg c_2] at hd
  by_cases c_3 : x0 = (4 : Int32)
  · rw [if_pos c_3] at hd
    refine wp_tswC (j := 2) 76 i_185_1 (by rw [c_3]; decide) (by decide) rfl rfl ?_
    refine wp_s 77 [some (.int x0), some (.long w1), none, some (.long w3), none] [.long w1] h0 i_185_76 rfl ?_
    refine wp_s 78 [some (.int x0), some (.long w1), none, some (.long w3), none] [.long w3, .long w1] h0 i_185_77 rfl ?_
    refine wp_s 79 [some (.int x0), some (.long w1), none, some (.long w3), none] [.long (w1 * w3)] h0 i_185_78 rfl ?_
    obtain rfl := Option.some.inj hd
    exact wp_ret i_185_79 rfl ⟨rfl, HH⟩
  rw [if_neg c_3] at hd
  by_cases c_4 : x0 = (5 : Int32)
  · rw [if_pos c_4] at hd
    refine wp_tswC (j := 3) 80 i_185_1 (by rw [c_4]; decide) (by decide) rfl rfl ?_
    refine wp_s 81 [some (.int x0), some (.long w1), none, some (.long w3), none] [.long w3] h0 i_185_80 rfl ?_
    refine wp_s 82 [some (.int x0), some (.long w1), none, some (.long w3), none] [.long (0 : Int64), .long w3] h0 i_185_81 rfl ?_
    refine wp_s 83 [some (.int x0), some (.long w1), none, some (.long w3), none] [.int (lg_cmp w3 (0 : Int64))] h0 i_185_82 rfl ?_
    refine wp_if_ne 90 86 rfl rfl i_185_83 (fun c_5 => ?_) (fun c_5 => ?_)
    · rw [if_pos c_5] at hd
      refine wp_s 91 [some (.int x0), some (.long w1), none, some (.long w3), none] [.long w1] h0 i_185_90 rfl ?_
      refine wp_s 92 [some (.int x0), some (.long w1), none, some (.long w3), none] [.long w3, .long w1] h0 i_185_91 rfl ?_
      obtain ⟨b_6, hd⟩ := dk_if hd
      refine wp_ldiv 93 rfl i_185_92 b_6 ?_
      obtain rfl := Option.some.inj hd
      exact wp_ret i_185_93 rfl ⟨rfl, HH⟩
    · rw [if_neg c_5] at hd
      refine wp_s 87 [some (.int x0), some (.long w1), none, some (.long w3), none] [.long (0 : Int64)] h0 i_185_86 rfl ?_
      refine wp_s 93 [some (.int x0), some (.long w1), none, some (.long w3), none] [.long (0 : Int64)] h0 i_185_87 rfl ?_
      obtain rfl := Option.some.inj hd
      exact wp_ret i_185_93 rfl ⟨rfl, HH⟩
  rw [if_neg c_4] at hd
  by_cases c_7 : x0 = (6 : Int32)
  · rw [if_pos c_7] at hd
    refine wp_tswC (j := 4) 108 i_185_1 (by rw [c_7]; decide) (by decide) rfl rfl ?_
    refine wp_s 109 [some (.int x0), some (.long w1), none, some (.long w3), none] [.long w1] h0 i_185_108 rfl ?_
    refine wp_s 110 [some (.int x0), some (.long w1), none, some (.long w3), none] [.long w3, .long w1] h0 i_185_109 rfl ?_
    refine wp_s 111 [some (.int x0), some (.long w1), none, some (.long w3), none] [.int (lg_cmp w1 w3)] h0 i_185_110 rfl ?_
    refine wp_if_ge 118 114 rfl rfl i_185_111 (fun c_8 => ?_) (fun c_8 => ?_)
    · rw [if_pos c_8] at hd
      refine wp_s 119 [some (.int x0), some (.long w1), none, some (.long w3), none] [.long (0 : Int64)] h0 i_185_118 rfl ?_
      obtain rfl := Option.some.inj hd
      exact wp_ret i_185_119 rfl ⟨rfl, HH⟩
    · rw [if_neg c_8] at hd
      refine wp_s 115 [some (.int x0), some (.long w1), none, some (.long w3), none] [.long (1 : Int64)] h0 i_185_114 rfl ?_
      refine wp_s 119 [some (.int x0), some (.long w1), none, some (.long w3), none] [.long (1 : Int64)] h0 i_185_115 rfl ?_
      obtain rfl := Option.some.inj hd
      exact wp_ret i_185_119 rfl ⟨rfl, HH⟩
  rw [if_neg c_7] at hd
  by_cases c_9 : x0 = (7 : Int32)
  · rw [if_pos c_9] at hd
    refine wp_tswC (j := 5) 120 i_185_1 (by rw [c_9]; decide) (by decide) rfl rfl ?_
    refine wp_s 121 [some (.int x0), some (.long w1), none, some (.long w3), none] [.long w1] h0 i_185_120 rfl ?_
    refine wp_s 122 [some (.int x0), some (.long w1), none, some (.long w3), none] [.long w3, .long w1] h0 i_185_121 rfl ?_
    refine wp_s 123 [some (.int x0), some (.long w1), none, some (.long w3), none] [.int (lg_cmp w1 w3)] h0 i_185_122 rfl ?_
    refine wp_if_gt 130 126 rfl rfl i_185_123 (fun c_10 => ?_) (fun c_10 => ?_)
    · rw [if_pos c_10] at hd
      refine wp_s 131 [some (.int x0), some (.long w1), none, some (.long w3), none] [.long (0 : Int64)] h0 i_185_130 rfl ?_
      obtain rfl := Option.some.inj hd
      exact wp_ret i_185_131 rfl ⟨rfl, HH⟩
    · rw [if_neg c_10] at hd
      refine wp_s 127 [some (.int x0), some (.long w1), none, some (.long w3), none] [.long (1 : Int64)] h0 i_185_126 rfl ?_
      refine wp_s 131 [some (.int x0), some (.long w1), none, some (.long w3), none] [.long (1 : Int64)] h0 i_185_127 rfl ?_
      obtain rfl := Option.some.inj hd
      exact wp_ret i_185_131 rfl ⟨rfl, HH⟩
  rw [if_neg c_9] at hd
  by_cases c_11 : x0 = (8 : Int32)
  · rw [if_pos c_11] at hd
    refine wp_tswC (j := 6) 132 i_185_1 (by rw [c_11]; decide) (by decide) rfl rfl ?_
    refine wp_s 133 [some (.int x0), some (.long w1), none, some (.long w3), none] [.long w1] h0 i_185_132 rfl ?_
    refine wp_s 134 [some (.int x0), some (.long w1), none, some (.long w3), none] [.long w3, .long w1] h0 i_185_133 rfl ?_
    refine wp_s 135 [some (.int x0), some (.long w1), none, some (.long w3), none] [.int (lg_cmp w1 w3)] h0 i_185_134 rfl ?_
    refine wp_if_ne 142 138 rfl rfl i_185_135 (fun c_12 => ?_) (fun c_12 => ?_)
    · rw [if_pos c_12] at hd
      refine wp_s 143 [some (.int x0), some (.long w1), none, some (.long w3), none] [.long (0 : Int64)] h0 i_185_142 rfl ?_
      obtain rfl := Option.some.inj hd
      exact wp_ret i_185_143 rfl ⟨rfl, HH⟩
    · rw [if_neg c_12] at hd
      refine wp_s 139 [some (.int x0), some (.long w1), none, some (.long w3), none] [.long (1 : Int64)] h0 i_185_138 rfl ?_
      refine wp_s 143 [some (.int x0), some (.long w1), none, some (.long w3), none] [.long (1 : Int64)] h0 i_185_139 rfl ?_
      obtain rfl := Option.some.inj hd
      exact wp_ret i_185_143 rfl ⟨rfl, HH⟩
  rw [if_neg c_11] at hd
  by_cases c_13 : x0 = (9 : Int32)
  · rw [if_pos c_13] at hd
    refine wp_tswC (j := 7) 144 i_185_1 (by rw [c_13]; decide) (by decide) rfl rfl ?_
    refine wp_s 145 [some (.int x0), some (.long w1), none, some (.long w3), none] [.long w1] h0 i_185_144 rfl ?_
    refine wp_s 146 [some (.int x0), some (.long w1), none, some (.long w3), none] [.long w3, .long w1] h0 i_185_145 rfl ?_
    refine wp_s 147 [some (.int x0), some (.long w1), none, some (.long w3), none] [.int (lg_cmp w1 w3)] h0 i_185_146 rfl ?_
    refine wp_if_lt 154 150 rfl rfl i_185_147 (fun c_14 => ?_) (fun c_14 => ?_)
    · rw [if_pos c_14] at hd
      refine wp_s 155 [some (.int x0), some (.long w1), none, some (.long w3), none] [.long (0 : Int64)] h0 i_185_154 rfl ?_
      obtain rfl := Option.some.inj hd
      exact wp_ret i_185_155 rfl ⟨rfl, HH⟩
    · rw [if_neg c_14] at hd
      refine wp_s 151 [some (.int x0), some (.long w1), none, some (.long w3), none] [.long (1 : Int64)] h0 i_185_150 rfl ?_
      refine wp_s 155 [some (.int x0), some (.long w1), none, some (.long w3), none] [.long (1 : Int64)] h0 i_185_151 rfl ?_
      obtain rfl := Option.some.inj hd
      exact wp_ret i_185_155 rfl ⟨rfl, HH⟩
  rw [if_neg c_13] at hd
  by_cases c_15 : x0 = (10 : Int32)
  · rw [if_pos c_15] at hd
    refine wp_tswC (j := 8) 156 i_185_1 (by rw [c_15]; decide) (by decide) rfl rfl ?_
    refine wp_s 157 [some (.int x0), some (.long w1), none, some (.long w3), none] [.long w1] h0 i_185_156 rfl ?_
    refine wp_s 158 [some (.int x0), some (.long w1), none, some (.long w3), none] [.long w3, .long w1] h0 i_185_157 rfl ?_
    refine wp_s 159 [some (.int x0), some (.long w1), none, some (.long w3), none] [.int (lg_cmp w1 w3)] h0 i_185_158 rfl ?_
    refine wp_if_le 166 162 rfl rfl i_185_159 (fun c_16 => ?_) (fun c_16 => ?_)
    · rw [if_pos c_16] at hd
      refine wp_s 167 [some (.int x0), some (.long w1), none, some (.long w3), none] [.long (0 : Int64)] h0 i_185_166 rfl ?_
      obtain rfl := Option.some.inj hd
      exact wp_ret i_185_167 rfl ⟨rfl, HH⟩
    · rw [if_neg c_16] at hd
      refine wp_s 163 [some (.int x0), some (.long w1), none, some (.long w3), none] [.long (1 : Int64)] h0 i_185_162 rfl ?_
      refine wp_s 167 [some (.int x0), some (.long w1), none, some (.long w3), none] [.long (1 : Int64)] h0 i_185_163 rfl ?_
      obtain rfl := Option.some.inj hd
      exact wp_ret i_185_167 rfl ⟨rfl, HH⟩
  rw [if_neg c_15] at hd
  by_cases c_17 : x0 = (11 : Int32)
  · rw [if_pos c_17] at hd
    refine wp_tswC (j := 9) 172 i_185_1 (by rw [c_17]; decide) (by decide) rfl rfl ?_
    refine wp_s 173 [some (.int x0), some (.long w1), none, some (.long w3), none] [.long w1] h0 i_185_172 rfl ?_
    refine wp_s 174 [some (.int x0), some (.long w1), none, some (.long w3), none] [.long w3, .long w1] h0 i_185_173 rfl ?_
    refine wp_s 175 [some (.int x0), some (.long w1), none, some (.long w3), none] [.long (w1 ||| w3)] h0 i_185_174 rfl ?_
    obtain rfl := Option.some.inj hd
    exact wp_ret i_185_175 rfl ⟨rfl, HH⟩
  rw [if_neg c_17] at hd
  by_cases c_18 : x0 = (12 : Int32)
  · rw [if_pos c_18] at hd
    refine wp_tswC (j := 10) 168 i_185_1 (by rw [c_18]; decide) (by decide) rfl rfl ?_
    refine wp_s 169 [some (.int x0), some (.long w1), none, some (.long w3), none] [.long w1] h0 i_185_168 rfl ?_
    refine wp_s 170 [some (.int x0), some (.long w1), none, some (.long w3), none] [.long w3, .long w1] h0 i_185_169 rfl ?_
    refine wp_s 171 [some (.int x0), some (.long w1), none, some (.long w3), none] [.long (w1 &&& w3)] h0 i_185_170 rfl ?_
    obtain rfl := Option.some.inj hd
    exact wp_ret i_185_171 rfl ⟨rfl, HH⟩
  rw [if_neg c_18] at hd
  by_cases c_19 : x0 = (13 : Int32)
  · rw [if_pos c_19] at hd
    refine wp_tswC (j := 11) 172 i_185_1 (by rw [c_19]; decide) (by decide) rfl rfl ?_
    refine wp_s 173 [some (.int x0), some (.long w1), none, some (.long w3), none] [.long w1] h0 i_185_172 rfl ?_
    refine wp_s 174 [some (.int x0), some (.long w1), none, some (.long w3), none] [.long w3, .long w1] h0 i_185_173 rfl ?_
    refine wp_s 175 [some (.int x0), some (.long w1), none, some (.long w3), none] [.long (w1 ||| w3)] h0 i_185_174 rfl ?_
    obtain rfl := Option.some.inj hd
    exact wp_ret i_185_175 rfl ⟨rfl, HH⟩
  rw [if_neg c_19] at hd
  by_cases c_20 : x0 = (14 : Int32)
  · rw [if_pos c_20] at hd
    refine wp_tswC (j := 12) 94 i_185_1 (by rw [c_20]; decide) (by decide) rfl rfl ?_
    refine wp_s 95 [some (.int x0), some (.long w1), none, some (.long w3), none] [.long w3] h0 i_185_94 rfl ?_
    refine wp_s 96 [some (.int x0), some (.long w1), none, some (.long w3), none] [.long (0 : Int64), .long w3] h0 i_185_95 rfl ?_
    refine wp_s 97 [some (.int x0), some (.long w1), none, some (.long w3), none] [.int (lg_cmp w3 (0 : Int64))] h0 i_185_96 rfl ?_
    refine wp_if_ne 104 100 rfl rfl i_185_97 (fun c_21 => ?_) (fun c_21 => ?_)
    · rw [if_pos c_21] at hd
      refine wp_s 105 [some (.int x0), some (.long w1), none, some (.long w3), none] [.long w1] h0 i_185_104 rfl ?_
      refine wp_s 106 [some (.int x0), some (.long w1), none, some (.long w3), none] [.long w3, .long w1] h0 i_185_105 rfl ?_
      obtain ⟨b_22, hd⟩ := dk_if hd
      refine wp_lrem 107 rfl i_185_106 b_22 ?_
      obtain rfl := Option.some.inj hd
      exact wp_ret i_185_107 rfl ⟨rfl, HH⟩
    · rw [if_neg c_21] at hd
      refine wp_s 101 [some (.int x0), some (.long w1), none, some (.long w3), none] [.long (0 : Int64)] h0 i_185_100 rfl ?_
      refine wp_s 107 [some (.int x0), some (.long w1), none, some (.long w3), none] [.long (0 : Int64)] h0 i_185_101 rfl ?_
      obtain rfl := Option.some.inj hd
      exact wp_ret i_185_107 rfl ⟨rfl, HH⟩
  rw [if_neg c_20] at hd
  have o_23 : (x0).toInt < (2 : Int) ∨ (14 : Int) < (x0).toInt := by
    have e_2 := lv_neT c_1 (a := 2) (by decide)
    have e_3 := lv_neT c_2 (a := 3) (by decide)
    have e_4 := lv_neT c_3 (a := 4) (by decide)
    have e_5 := lv_neT c_4 (a := 5) (by decide)
    have e_6 := lv_neT c_7 (a := 6) (by decide)
    have e_7 := lv_neT c_9 (a := 7) (by decide)
    have e_8 := lv_neT c_11 (a := 8) (by decide)
    have e_9 := lv_neT c_13 (a := 9) (by decide)
    have e_10 := lv_neT c_15 (a := 10) (by decide)
    have e_11 := lv_neT c_17 (a := 11) (by decide)
    have e_12 := lv_neT c_18 (a := 12) (by decide)
    have e_13 := lv_neT c_19 (a := 13) (by decide)
    have e_14 := lv_neT c_20 (a := 14) (by decide)
    omega
  refine wp_tswD 172 i_185_1 o_23 rfl ?_
  refine wp_s 173 [some (.int x0), some (.long w1), none, some (.long w3), none] [.long w1] h0 i_185_172 rfl ?_
  refine wp_s 174 [some (.int x0), some (.long w1), none, some (.long w3), none] [.long w3, .long w1] h0 i_185_173 rfl ?_
  refine wp_s 175 [some (.int x0), some (.long w1), none, some (.long w3), none] [.long (w1 ||| w3)] h0 i_185_174 rfl ?_
  obtain rfl := Option.some.inj hd
  exact wp_ret i_185_175 rfl ⟨rfl, HH⟩
def l_186 (g n tag : Nat) (x1 : Int32) (x2 : Int32) (x3 : Int32) (x4 : Int32) (x5 : Int32) (x6 : Int32) (S : rS) : Option (Int64 × rS) := match n with
  | 0 => none
  | n + 1 => if tag = 0 then (if x3 ≤ x4 then ((d_184 g  S).bind (fun z_2 => some (z_2.1, z_2.2))) else (if aIn (((400 : Int32) * x1) + x4) 2400 = true then (if aIn (((400 : Int32) * x1) + x4) 2400 = true then (if ¬ (((S.2.1 3) (((400 : Int32) * x1) + x4).toNatClampNeg) &&& (15 : Int32)) = 0 then (if ¬ (((S.2.1 3) (((400 : Int32) * x1) + x4).toNatClampNeg) &&& (15 : Int32)) = (1 : Int32) then (if ¬ (((S.2.1 3) (((400 : Int32) * x1) + x4).toNatClampNeg) &&& (15 : Int32)) = (11 : Int32) then ((d_184 g  S).bind (fun z_12 => ((d_184 g  z_12.2).bind (fun z_17 => ((d_185 g (((S.2.1 3) (((400 : Int32) * x1) + x4).toNatClampNeg) &&& (15 : Int32)) z_17.1 z_12.1 z_17.2).bind (fun z_22 => ((d_183 g z_22.1 z_22.2).bind (fun z_27 => (l_186 g n 1 x1 x2 x3 x4 (((S.2.1 3) (((400 : Int32) * x1) + x4).toNatClampNeg) &&& (15 : Int32)) (((S.2.1 3) (((400 : Int32) * x1) + x4).toNatClampNeg) >>> ((4 : Int32) &&& 31)) z_27))))))))) else ((d_184 g  S).bind (fun z_32 => ((d_183 g ((1 : Int64) - z_32.1) z_32.2).bind (fun z_37 => (l_186 g n 1 x1 x2 x3 x4 (((S.2.1 3) (((400 : Int32) * x1) + x4).toNatClampNeg) &&& (15 : Int32)) (((S.2.1 3) (((400 : Int32) * x1) + x4).toNatClampNeg) >>> ((4 : Int32) &&& 31)) z_37)))))) else (if aIn (((S.2.1 3) (((400 : Int32) * x1) + x4).toNatClampNeg) >>> ((4 : Int32) &&& 31)) 8 = true then ((d_183 g (S.2.2.2.1 (((S.2.1 3) (((400 : Int32) * x1) + x4).toNatClampNeg) >>> ((4 : Int32) &&& 31)).toNatClampNeg) S).bind (fun z_43 => (l_186 g n 1 x1 x2 x3 x4 (((S.2.1 3) (((400 : Int32) * x1) + x4).toNatClampNeg) &&& (15 : Int32)) (((S.2.1 3) (((400 : Int32) * x1) + x4).toNatClampNeg) >>> ((4 : Int32) &&& 31)) z_43))) else none)) else ((d_183 g ((((S.2.1 3) (((400 : Int32) * x1) + x4).toNatClampNeg) >>> ((4 : Int32) &&& 31)).toInt64) S).bind (fun z_48 => (l_186 g n 1 x1 x2 x3 x4 (((S.2.1 3) (((400 : Int32) * x1) + x4).toNatClampNeg) &&& (15 : Int32)) (((S.2.1 3) (((400 : Int32) * x1) + x4).toNatClampNeg) >>> ((4 : Int32) &&& 31)) z_48)))) else none) else none)) else if tag = 1 then (l_186 g n 0 x1 x2 x3 (x4 + (1 : Int32)) 0 0 S) else none
set_option maxHeartbeats 4000000 in
set_option maxRecDepth 100000 in
theorem l_186_ok {X : aX} {g d : Nat} (hdp : 1 ≤ d) : ∀ n, (∀ (x1 : Int32) (x2 : Int32) (x3 : Int32) (x4 : Int32) (x5 : Int32) (x6 : Int32) (S : rS) (h0 : aH) (zz : Int64 × rS), rm h0 S → l_186 g n 0 x1 x2 x3 x4 x5 x6 S = some zz → aWp X d 186 8 [some (.ref 382), some (.int x1), some (.int x2), some (.int x3), some (.int x4), none, none, none, none, none, none] [] h0 (fun w h' => w = some (.long zz.1) ∧ rTo h0 zz.2 h')) ∧ (∀ (x1 : Int32) (x2 : Int32) (x3 : Int32) (x4 : Int32) (x5 : Int32) (x6 : Int32) (S : rS) (h0 : aH) (zz : Int64 × rS), rm h0 S → l_186 g n 1 x1 x2 x3 x4 x5 x6 S = some zz → aWp X d 186 129 [some (.ref 382), some (.int x1), some (.int x2), some (.int x3), some (.int x4), some (.int x5), some (.int x6), none, none, none, none] [] h0 (fun w h' => w = some (.long zz.1) ∧ rTo h0 zz.2 h')) := by
  intro n
  induction n with
  | zero => exact ⟨fun _ _ _ _ _ _ _ _ _ _ hd => by simp [l_186] at hd, fun _ _ _ _ _ _ _ _ _ _ hd => by simp [l_186] at hd⟩
  | succ n ih =>
    refine ⟨?_, ?_⟩
    · intro x1 x2 x3 x4 x5 x6 S h0 zz HS hd
      unfold l_186 at hd
      rw [if_pos rfl] at hd
      have HH := rTo.rf HS
      obtain ⟨e, rfl⟩ : ∃ e, d = e + 1 := ⟨d - 1, by omega⟩
      refine wp_s 10 [some (.ref 382), some (.int x1), some (.int x2), some (.int x3), some (.int x4), none, none, none, none, none, none] [.int x4] h0 i_186_8 rfl ?_
      refine wp_s 11 [some (.ref 382), some (.int x1), some (.int x2), some (.int x3), some (.int x4), none, none, none, none, none, none] [.int x3, .int x4] h0 i_186_10 rfl ?_
      refine wp_cmp_ge 135 14 rfl rfl i_186_11 (fun c_1 => ?_) (fun c_1 => ?_)
      · rw [if_pos c_1] at hd
        refine wp_s 136 [some (.ref 382), some (.int x1), some (.int x2), some (.int x3), some (.int x4), none, none, none, none, none, none] [.ref 382] h0 i_186_135 rfl ?_
        obtain ⟨z_2, q_3, hd⟩ := dk_bind hd
        refine wp_callV 139 rfl i_186_136 (by decide) rfl (vs := []) (rest := []) rfl rfl rfl (HH.1 0 (by decide)) (y := m_184) rfl (Nat.le_of_ble_eq_true rfl) (d_184_ok (d := e) (by omega) HH.1 q_3) ?_
        rintro v_6 h_4 ⟨rfl, H_5⟩
        have H_5 := HH.tr H_5
        obtain rfl := Option.some.inj hd
        exact wp_ret i_186_139 rfl ⟨rfl, H_5⟩
      · rw [if_neg c_1] at hd
        refine wp_s 15 [some (.ref 382), some (.int x1), some (.int x2), some (.int x3), some (.int x4), none, none, none, none, none, none] [.ref 382] h0 i_186_14 rfl ?_
        refine wp_get (v := .ref 384) 18 rfl i_186_15 (HH.1 0 (by decide)) rfl ?_
        refine wp_s 21 [some (.ref 382), some (.int x1), some (.int x2), some (.int x3), some (.int x4), none, none, none, none, none, none] [.int (400 : Int32), .ref 384] h0 i_186_18 rfl ?_
        refine wp_s 22 [some (.ref 382), some (.int x1), some (.int x2), some (.int x3), some (.int x4), none, none, none, none, none, none] [.int x1, .int (400 : Int32), .ref 384] h0 i_186_21 rfl ?_
        refine wp_s 23 [some (.ref 382), some (.int x1), some (.int x2), some (.int x3), some (.int x4), none, none, none, none, none, none] [.int ((400 : Int32) * x1), .ref 384] h0 i_186_22 rfl ?_
        refine wp_s 25 [some (.ref 382), some (.int x1), some (.int x2), some (.int x3), some (.int x4), none, none, none, none, none, none] [.int x4, .int ((400 : Int32) * x1), .ref 384] h0 i_186_23 rfl ?_
        refine wp_s 26 [some (.ref 382), some (.int x1), some (.int x2), some (.int x3), some (.int x4), none, none, none, none, none, none] [.int (((400 : Int32) * x1) + x4), .ref 384] h0 i_186_25 rfl ?_
        obtain ⟨b_7, hd⟩ := dk_if hd
        refine wp_iald (f := (S.2.1 3)) 27 rfl i_186_26 (HH.1 2 (by decide)) b_7 ?_
        refine wp_s 29 [some (.ref 382), some (.int x1), some (.int x2), some (.int x3), some (.int x4), none, none, none, none, none, none] [.int (15 : Int32), .int ((S.2.1 3) (((400 : Int32) * x1) + x4).toNatClampNeg)] h0 i_186_27 rfl ?_
        refine wp_s 30 [some (.ref 382), some (.int x1), some (.int x2), some (.int x3), some (.int x4), none, none, none, none, none, none] [.int (((S.2.1 3) (((400 : Int32) * x1) + x4).toNatClampNeg) &&& (15 : Int32))] h0 i_186_29 rfl ?_
        refine wp_s 32 [some (.ref 382), some (.int x1), some (.int x2), some (.int x3), some (.int x4), some (.int (((S.2.1 3) (((400 : Int32) * x1) + x4).toNatClampNeg) &&& (15 : Int32))), none, none, none, none, none] [] h0 i_186_30 rfl ?_
        refine wp_s 33 [some (.ref 382), some (.int x1), some (.int x2), some (.int x3), some (.int x4), some (.int (((S.2.1 3) (((400 : Int32) * x1) + x4).toNatClampNeg) &&& (15 : Int32))), none, none, none, none, none] [.ref 382] h0 i_186_32 rfl ?_
        refine wp_get (v := .ref 384) 36 rfl i_186_33 (HH.1 0 (by decide)) rfl ?_
        refine wp_s 39 [some (.ref 382), some (.int x1), some (.int x2), some (.int x3), some (.int x4), some (.int (((S.2.1 3) (((400 : Int32) * x1) + x4).toNatClampNeg) &&& (15 : Int32))), none, none, none, none, none] [.int (400 : Int32), .ref 384] h0 i_186_36 rfl ?_
        refine wp_s 40 [some (.ref 382), some (.int x1), some (.int x2), some (.int x3), some (.int x4), some (.int (((S.2.1 3) (((400 : Int32) * x1) + x4).toNatClampNeg) &&& (15 : Int32))), none, none, none, none, none] [.int x1, .int (400 : Int32), .ref 384] h0 i_186_39 rfl ?_
        refine wp_s 41 [some (.ref 382), some (.int x1), some (.int x2), some (.int x3), some (.int x4), some (.int (((S.2.1 3) (((400 : Int32) * x1) + x4).toNatClampNeg) &&& (15 : Int32))), none, none, none, none, none] [.int ((400 : Int32) * x1), .ref 384] h0 i_186_40 rfl ?_
        refine wp_s 43 [some (.ref 382), some (.int x1), some (.int x2), some (.int x3), some (.int x4), some (.int (((S.2.1 3) (((400 : Int32) * x1) + x4).toNatClampNeg) &&& (15 : Int32))), none, none, none, none, none] [.int x4, .int ((400 : Int32) * x1), .ref 384] h0 i_186_41 rfl ?_
        refine wp_s 44 [some (.ref 382), some (.int x1), some (.int x2), some (.int x3), some (.int x4), some (.int (((S.2.1 3) (((400 : Int32) * x1) + x4).toNatClampNeg) &&& (15 : Int32))), none, none, none, none, none] [.int (((400 : Int32) * x1) + x4), .ref 384] h0 i_186_43 rfl ?_
        obtain ⟨b_8, hd⟩ := dk_if hd
        refine wp_iald (f := (S.2.1 3)) 45 rfl i_186_44 (HH.1 2 (by decide)) b_8 ?_
        refine wp_s 46 [some (.ref 382), some (.int x1), some (.int x2), some (.int x3), some (.int x4), some (.int (((S.2.1 3) (((400 : Int32) * x1) + x4).toNatClampNeg) &&& (15 : Int32))), none, none, none, none, none] [.int (4 : Int32), .int ((S.2.1 3) (((400 : Int32) * x1) + x4).toNatClampNeg)] h0 i_186_45 rfl ?_
        refine wp_s 47 [some (.ref 382), some (.int x1), some (.int x2), some (.int x3), some (.int x4), some (.int (((S.2.1 3) (((400 : Int32) * x1) + x4).toNatClampNeg) &&& (15 : Int32))), none, none, none, none, none] [.int (((S.2.1 3) (((400 : Int32) * x1) + x4).toNatClampNeg) >>> ((4 : Int32) &&& 31))] h0 i_186_46 rfl ?_
        refine wp_s 49 [some (.ref 382), some (.int x1), some (.int x2), some (.int x3), some (.int x4), some (.int (((S.2.1 3) (((400 : Int32) * x1) + x4).toNatClampNeg) &&& (15 : Int32))), some (.int (((S.2.1 3) (((400 : Int32) * x1) + x4).toNatClampNeg) >>> ((4 : Int32) &&& 31))), none, none, none, none] [] h0 i_186_47 rfl ?_
        refine wp_s 51 [some (.ref 382), some (.int x1), some (.int x2), some (.int x3), some (.int x4), some (.int (((S.2.1 3) (((400 : Int32) * x1) + x4).toNatClampNeg) &&& (15 : Int32))), some (.int (((S.2.1 3) (((400 : Int32) * x1) + x4).toNatClampNeg) >>> ((4 : Int32) &&& 31))), none, none, none, none] [.int (((S.2.1 3) (((400 : Int32) * x1) + x4).toNatClampNeg) &&& (15 : Int32))] h0 i_186_49 rfl ?_
        refine wp_if_ne 64 54 rfl rfl i_186_51 (fun c_9 => ?_) (fun c_9 => ?_)
        · rw [if_pos c_9] at hd
          refine wp_s 66 [some (.ref 382), some (.int x1), some (.int x2), some (.int x3), some (.int x4), some (.int (((S.2.1 3) (((400 : Int32) * x1) + x4).toNatClampNeg) &&& (15 : Int32))), some (.int (((S.2.1 3) (((400 : Int32) * x1) + x4).toNatClampNeg) >>> ((4 : Int32) &&& 31))), none, none, none, none] [.int (((S.2.1 3) (((400 : Int32) * x1) + x4).toNatClampNeg) &&& (15 : Int32))] h0 i_186_64 rfl ?_
          refine wp_s 67 [some (.ref 382), some (.int x1), some (.int x2), some (.int x3), some (.int x4), some (.int (((S.2.1 3) (((400 : Int32) * x1) + x4).toNatClampNeg) &&& (15 : Int32))), some (.int (((S.2.1 3) (((400 : Int32) * x1) + x4).toNatClampNeg) >>> ((4 : Int32) &&& 31))), none, none, none, none] [.int (1 : Int32), .int (((S.2.1 3) (((400 : Int32) * x1) + x4).toNatClampNeg) &&& (15 : Int32))] h0 i_186_66 rfl ?_
          refine wp_cmp_ne 84 70 rfl rfl i_186_67 (fun c_10 => ?_) (fun c_10 => ?_)
          · rw [if_pos c_10] at hd
            refine wp_s 86 [some (.ref 382), some (.int x1), some (.int x2), some (.int x3), some (.int x4), some (.int (((S.2.1 3) (((400 : Int32) * x1) + x4).toNatClampNeg) &&& (15 : Int32))), some (.int (((S.2.1 3) (((400 : Int32) * x1) + x4).toNatClampNeg) >>> ((4 : Int32) &&& 31))), none, none, none, none] [.int (((S.2.1 3) (((400 : Int32) * x1) + x4).toNatClampNeg) &&& (15 : Int32))] h0 i_186_84 rfl ?_
            refine wp_s 88 [some (.ref 382), some (.int x1), some (.int x2), some (.int x3), some (.int x4), some (.int (((S.2.1 3) (((400 : Int32) * x1) + x4).toNatClampNeg) &&& (15 : Int32))), some (.int (((S.2.1 3) (((400 : Int32) * x1) + x4).toNatClampNeg) >>> ((4 : Int32) &&& 31))), none, none, none, none] [.int (11 : Int32), .int (((S.2.1 3) (((400 : Int32) * x1) + x4).toNatClampNeg) &&& (15 : Int32))] h0 i_186_86 rfl ?_
            refine wp_cmp_ne 104 91 rfl rfl i_186_88 (fun c_11 => ?_) (fun c_11 => ?_)
            · rw [if_pos c_11] at hd
              refine wp_s 105 [some (.ref 382), some (.int x1), some (.int x2), some (.int x3), some (.int x4), some (.int (((S.2.1 3) (((400 : Int32) * x1) + x4).toNatClampNeg) &&& (15 : Int32))), some (.int (((S.2.1 3) (((400 : Int32) * x1) + x4).toNatClampNeg) >>> ((4 : Int32) &&& 31))), none, none, none, none] [.ref 382] h0 i_186_104 rfl ?_
              obtain ⟨z_12, q_13, hd⟩ := dk_bind hd
              refine wp_callV 108 rfl i_186_105 (by decide) rfl (vs := []) (rest := []) rfl rfl rfl (HH.1 0 (by decide)) (y := m_184) rfl (Nat.le_of_ble_eq_true rfl) (d_184_ok (d := e) (by omega) HH.1 q_13) ?_
              rintro v_16 h_14 ⟨rfl, H_15⟩
              have H_15 := HH.tr H_15
              refine wp_s 110 [some (.ref 382), some (.int x1), some (.int x2), some (.int x3), some (.int x4), some (.int (((S.2.1 3) (((400 : Int32) * x1) + x4).toNatClampNeg) &&& (15 : Int32))), some (.int (((S.2.1 3) (((400 : Int32) * x1) + x4).toNatClampNeg) >>> ((4 : Int32) &&& 31))), some (.long z_12.1), none, none, none] [] h_14 i_186_108 rfl ?_
              refine wp_s 111 [some (.ref 382), some (.int x1), some (.int x2), some (.int x3), some (.int x4), some (.int (((S.2.1 3) (((400 : Int32) * x1) + x4).toNatClampNeg) &&& (15 : Int32))), some (.int (((S.2.1 3) (((400 : Int32) * x1) + x4).toNatClampNeg) >>> ((4 : Int32) &&& 31))), some (.long z_12.1), none, none, none] [.ref 382] h_14 i_186_110 rfl ?_
              obtain ⟨z_17, q_18, hd⟩ := dk_bind hd
              refine wp_callV 114 rfl i_186_111 (by decide) rfl (vs := []) (rest := []) rfl rfl rfl (H_15.1 0 (by decide)) (y := m_184) rfl (Nat.le_of_ble_eq_true rfl) (d_184_ok (d := e) (by omega) H_15.1 q_18) ?_
              rintro v_21 h_19 ⟨rfl, H_20⟩
              have H_20 := H_15.tr H_20
              refine wp_s 116 [some (.ref 382), some (.int x1), some (.int x2), some (.int x3), some (.int x4), some (.int (((S.2.1 3) (((400 : Int32) * x1) + x4).toNatClampNeg) &&& (15 : Int32))), some (.int (((S.2.1 3) (((400 : Int32) * x1) + x4).toNatClampNeg) >>> ((4 : Int32) &&& 31))), some (.long z_12.1), none, some (.long z_17.1), none] [] h_19 i_186_114 rfl ?_
              refine wp_s 117 [some (.ref 382), some (.int x1), some (.int x2), some (.int x3), some (.int x4), some (.int (((S.2.1 3) (((400 : Int32) * x1) + x4).toNatClampNeg) &&& (15 : Int32))), some (.int (((S.2.1 3) (((400 : Int32) * x1) + x4).toNatClampNeg) >>> ((4 : Int32) &&& 31))), some (.long z_12.1), none, some (.long z_17.1), none] [.ref 382] h_19 i_186_116 rfl ?_
              refine wp_s 119 [some (.ref 382), some (.int x1), some (.int x2), some (.int x3), some (.int x4), some (.int (((S.2.1 3) (((400 : Int32) * x1) + x4).toNatClampNeg) &&& (15 : Int32))), some (.int (((S.2.1 3) (((400 : Int32) * x1) + x4).toNatClampNeg) >>> ((4 : Int32) &&& 31))), some (.long z_12.1), none, some (.long z_17.1), none] [.int (((S.2.1 3) (((400 : Int32) * x1) + x4).toNatClampNeg) &&& (15 : Int32)), .ref 382] h_19 i_186_117 rfl ?_
              refine wp_s 121 [some (.ref 382), some (.int x1), some (.int x2), some (.int x3), some (.int x4), some (.int (((S.2.1 3) (((400 : Int32) * x1) + x4).toNatClampNeg) &&& (15 : Int32))), some (.int (((S.2.1 3) (((400 : Int32) * x1) + x4).toNatClampNeg) >>> ((4 : Int32) &&& 31))), some (.long z_12.1), none, some (.long z_17.1), none] [.long z_17.1, .int (((S.2.1 3) (((400 : Int32) * x1) + x4).toNatClampNeg) &&& (15 : Int32)), .ref 382] h_19 i_186_119 rfl ?_
              refine wp_s 123 [some (.ref 382), some (.int x1), some (.int x2), some (.int x3), some (.int x4), some (.int (((S.2.1 3) (((400 : Int32) * x1) + x4).toNatClampNeg) &&& (15 : Int32))), some (.int (((S.2.1 3) (((400 : Int32) * x1) + x4).toNatClampNeg) >>> ((4 : Int32) &&& 31))), some (.long z_12.1), none, some (.long z_17.1), none] [.long z_12.1, .long z_17.1, .int (((S.2.1 3) (((400 : Int32) * x1) + x4).toNatClampNeg) &&& (15 : Int32)), .ref 382] h_19 i_186_121 rfl ?_
              obtain ⟨z_22, q_23, hd⟩ := dk_bind hd
              refine wp_callS 126 rfl i_186_123 (by decide) (vs := [.int (((S.2.1 3) (((400 : Int32) * x1) + x4).toNatClampNeg) &&& (15 : Int32)), .long z_17.1, .long z_12.1]) (rest := [.ref 382]) rfl rfl rfl (y := m_185) rfl (Nat.le_of_ble_eq_true rfl) (d_185_ok (d := e) (by omega) H_20.1 q_23) ?_
              rintro v_26 h_24 ⟨rfl, H_25⟩
              have H_25 := H_20.tr H_25
              obtain ⟨z_27, q_28, hd⟩ := dk_bind hd
              refine wp_callV 129 rfl i_186_126 (by decide) rfl (vs := [.long z_22.1]) (rest := []) rfl rfl rfl (H_25.1 0 (by decide)) (y := m_183) rfl (Nat.le_of_ble_eq_true rfl) (d_183_ok (d := e) (by omega) H_25.1 q_28) ?_
              rintro v_31 h_29 ⟨rfl, H_30⟩
              have H_30 := H_25.tr H_30
              exact aWp.post (aWp.forget (ih.2 _ _ _ _ _ _ _ _ _ H_30.1 hd) ((lvS (lvS (lvS (lvS (lvS (lvS (lvS (lvN (lvN (lvN (lvN lvE))))))))))))) (fun _ _ hq => ⟨hq.1, H_30.tr hq.2⟩)
            · rw [if_neg c_11] at hd
              refine wp_s 92 [some (.ref 382), some (.int x1), some (.int x2), some (.int x3), some (.int x4), some (.int (((S.2.1 3) (((400 : Int32) * x1) + x4).toNatClampNeg) &&& (15 : Int32))), some (.int (((S.2.1 3) (((400 : Int32) * x1) + x4).toNatClampNeg) >>> ((4 : Int32) &&& 31))), none, none, none, none] [.ref 382] h0 i_186_91 rfl ?_
              refine wp_s 93 [some (.ref 382), some (.int x1), some (.int x2), some (.int x3), some (.int x4), some (.int (((S.2.1 3) (((400 : Int32) * x1) + x4).toNatClampNeg) &&& (15 : Int32))), some (.int (((S.2.1 3) (((400 : Int32) * x1) + x4).toNatClampNeg) >>> ((4 : Int32) &&& 31))), none, none, none, none] [.long (1 : Int64), .ref 382] h0 i_186_92 rfl ?_
              refine wp_s 94 [some (.ref 382), some (.int x1), some (.int x2), some (.int x3), some (.int x4), some (.int (((S.2.1 3) (((400 : Int32) * x1) + x4).toNatClampNeg) &&& (15 : Int32))), some (.int (((S.2.1 3) (((400 : Int32) * x1) + x4).toNatClampNeg) >>> ((4 : Int32) &&& 31))), none, none, none, none] [.ref 382, .long (1 : Int64), .ref 382] h0 i_186_93 rfl ?_
              obtain ⟨z_32, q_33, hd⟩ := dk_bind hd
              refine wp_callV 97 rfl i_186_94 (by decide) rfl (vs := []) (rest := [.long (1 : Int64), .ref 382]) rfl rfl rfl (HH.1 0 (by decide)) (y := m_184) rfl (Nat.le_of_ble_eq_true rfl) (d_184_ok (d := e) (by omega) HH.1 q_33) ?_
              rintro v_36 h_34 ⟨rfl, H_35⟩
              have H_35 := HH.tr H_35
              refine wp_s 98 [some (.ref 382), some (.int x1), some (.int x2), some (.int x3), some (.int x4), some (.int (((S.2.1 3) (((400 : Int32) * x1) + x4).toNatClampNeg) &&& (15 : Int32))), some (.int (((S.2.1 3) (((400 : Int32) * x1) + x4).toNatClampNeg) >>> ((4 : Int32) &&& 31))), none, none, none, none] [.long ((1 : Int64) - z_32.1), .ref 382] h_34 i_186_97 rfl ?_
              obtain ⟨z_37, q_38, hd⟩ := dk_bind hd
              refine wp_callV 101 rfl i_186_98 (by decide) rfl (vs := [.long ((1 : Int64) - z_32.1)]) (rest := []) rfl rfl rfl (H_35.1 0 (by decide)) (y := m_183) rfl (Nat.le_of_ble_eq_true rfl) (d_183_ok (d := e) (by omega) H_35.1 q_38) ?_
              rintro v_41 h_39 ⟨rfl, H_40⟩
              have H_40 := H_35.tr H_40
              refine wp_s 129 [some (.ref 382), some (.int x1), some (.int x2), some (.int x3), some (.int x4), some (.int (((S.2.1 3) (((400 : Int32) * x1) + x4).toNatClampNeg) &&& (15 : Int32))), some (.int (((S.2.1 3) (((400 : Int32) * x1) + x4).toNatClampNeg) >>> ((4 : Int32) &&& 31))), none, none, none, none] [] h_39 i_186_101 rfl ?_
              exact aWp.post (aWp.forget (ih.2 _ _ _ _ _ _ _ _ _ H_40.1 hd) ((lvS (lvS (lvS (lvS (lvS (lvS (lvS (lvN (lvN (lvN (lvN lvE))))))))))))) (fun _ _ hq => ⟨hq.1, H_40.tr hq.2⟩)
          · rw [if_neg c_10] at hd
            refine wp_s 71 [some (.ref 382), some (.int x1), some (.int x2), some (.int x3), some (.int x4), some (.int (((S.2.1 3) (((400 : Int32) * x1) + x4).toNatClampNeg) &&& (15 : Int32))), some (.int (((S.2.1 3) (((400 : Int32) * x1) + x4).toNatClampNeg) >>> ((4 : Int32) &&& 31))), none, none, none, none] [.ref 382] h0 i_186_70 rfl ?_
            refine wp_s 72 [some (.ref 382), some (.int x1), some (.int x2), some (.int x3), some (.int x4), some (.int (((S.2.1 3) (((400 : Int32) * x1) + x4).toNatClampNeg) &&& (15 : Int32))), some (.int (((S.2.1 3) (((400 : Int32) * x1) + x4).toNatClampNeg) >>> ((4 : Int32) &&& 31))), none, none, none, none] [.ref 382, .ref 382] h0 i_186_71 rfl ?_
            refine wp_get (v := .ref 391) 75 rfl i_186_72 (HH.1 0 (by decide)) rfl ?_
            refine wp_s 77 [some (.ref 382), some (.int x1), some (.int x2), some (.int x3), some (.int x4), some (.int (((S.2.1 3) (((400 : Int32) * x1) + x4).toNatClampNeg) &&& (15 : Int32))), some (.int (((S.2.1 3) (((400 : Int32) * x1) + x4).toNatClampNeg) >>> ((4 : Int32) &&& 31))), none, none, none, none] [.int (((S.2.1 3) (((400 : Int32) * x1) + x4).toNatClampNeg) >>> ((4 : Int32) &&& 31)), .ref 391, .ref 382] h0 i_186_75 rfl ?_
            obtain ⟨b_42, hd⟩ := dk_if hd
            refine wp_lald (f := S.2.2.2.1) 78 rfl i_186_77 (HH.1 9 (by decide)) b_42 ?_
            obtain ⟨z_43, q_44, hd⟩ := dk_bind hd
            refine wp_callV 81 rfl i_186_78 (by decide) rfl (vs := [.long (S.2.2.2.1 (((S.2.1 3) (((400 : Int32) * x1) + x4).toNatClampNeg) >>> ((4 : Int32) &&& 31)).toNatClampNeg)]) (rest := []) rfl rfl rfl (HH.1 0 (by decide)) (y := m_183) rfl (Nat.le_of_ble_eq_true rfl) (d_183_ok (d := e) (by omega) HH.1 q_44) ?_
            rintro v_47 h_45 ⟨rfl, H_46⟩
            have H_46 := HH.tr H_46
            refine wp_s 129 [some (.ref 382), some (.int x1), some (.int x2), some (.int x3), some (.int x4), some (.int (((S.2.1 3) (((400 : Int32) * x1) + x4).toNatClampNeg) &&& (15 : Int32))), some (.int (((S.2.1 3) (((400 : Int32) * x1) + x4).toNatClampNeg) >>> ((4 : Int32) &&& 31))), none, none, none, none] [] h_45 i_186_81 rfl ?_
            exact aWp.post (aWp.forget (ih.2 _ _ _ _ _ _ _ _ _ H_46.1 hd) ((lvS (lvS (lvS (lvS (lvS (lvS (lvS (lvN (lvN (lvN (lvN lvE))))))))))))) (fun _ _ hq => ⟨hq.1, H_46.tr hq.2⟩)
        · rw [if_neg c_9] at hd
          refine wp_s 55 [some (.ref 382), some (.int x1), some (.int x2), some (.int x3), some (.int x4), some (.int (((S.2.1 3) (((400 : Int32) * x1) + x4).toNatClampNeg) &&& (15 : Int32))), some (.int (((S.2.1 3) (((400 : Int32) * x1) + x4).toNatClampNeg) >>> ((4 : Int32) &&& 31))), none, none, none, none] [.ref 382] h0 i_186_54 rfl ?_
          refine wp_s 57 [some (.ref 382), some (.int x1), some (.int x2), some (.int x3), some (.int x4), some (.int (((S.2.1 3) (((400 : Int32) * x1) + x4).toNatClampNeg) &&& (15 : Int32))), some (.int (((S.2.1 3) (((400 : Int32) * x1) + x4).toNatClampNeg) >>> ((4 : Int32) &&& 31))), none, none, none, none] [.int (((S.2.1 3) (((400 : Int32) * x1) + x4).toNatClampNeg) >>> ((4 : Int32) &&& 31)), .ref 382] h0 i_186_55 rfl ?_
          refine wp_s 58 [some (.ref 382), some (.int x1), some (.int x2), some (.int x3), some (.int x4), some (.int (((S.2.1 3) (((400 : Int32) * x1) + x4).toNatClampNeg) &&& (15 : Int32))), some (.int (((S.2.1 3) (((400 : Int32) * x1) + x4).toNatClampNeg) >>> ((4 : Int32) &&& 31))), none, none, none, none] [.long ((((S.2.1 3) (((400 : Int32) * x1) + x4).toNatClampNeg) >>> ((4 : Int32) &&& 31)).toInt64), .ref 382] h0 i_186_57 rfl ?_
          obtain ⟨z_48, q_49, hd⟩ := dk_bind hd
          refine wp_callV 61 rfl i_186_58 (by decide) rfl (vs := [.long ((((S.2.1 3) (((400 : Int32) * x1) + x4).toNatClampNeg) >>> ((4 : Int32) &&& 31)).toInt64)]) (rest := []) rfl rfl rfl (HH.1 0 (by decide)) (y := m_183) rfl (Nat.le_of_ble_eq_true rfl) (d_183_ok (d := e) (by omega) HH.1 q_49) ?_
          rintro v_52 h_50 ⟨rfl, H_51⟩
          have H_51 := HH.tr H_51
          refine wp_s 129 [some (.ref 382), some (.int x1), some (.int x2), some (.int x3), some (.int x4), some (.int (((S.2.1 3) (((400 : Int32) * x1) + x4).toNatClampNeg) &&& (15 : Int32))), some (.int (((S.2.1 3) (((400 : Int32) * x1) + x4).toNatClampNeg) >>> ((4 : Int32) &&& 31))), none, none, none, none] [] h_50 i_186_61 rfl ?_
          exact aWp.post (aWp.forget (ih.2 _ _ _ _ _ _ _ _ _ H_51.1 hd) ((lvS (lvS (lvS (lvS (lvS (lvS (lvS (lvN (lvN (lvN (lvN lvE))))))))))))) (fun _ _ hq => ⟨hq.1, H_51.tr hq.2⟩)
    · intro x1 x2 x3 x4 x5 x6 S h0 zz HS hd
      unfold l_186 at hd
      rw [if_neg (by decide), if_pos rfl] at hd
      have HH := rTo.rf HS
      obtain ⟨e, rfl⟩ : ∃ e, d = e + 1 := ⟨d - 1, by omega⟩
      refine wp_s 132 [some (.ref 382), some (.int x1), some (.int x2), some (.int x3), some (.int (x4 + (1 : Int32))), some (.int x5), some (.int x6), none, none, none, none] [] h0 i_186_129 rfl ?_
      refine wp_s 8 [some (.ref 382), some (.int x1), some (.int x2), some (.int x3), some (.int (x4 + (1 : Int32))), some (.int x5), some (.int x6), none, none, none, none] [] h0 i_186_132 rfl ?_
      exact aWp.post (aWp.forget (ih.1 _ _ _ _ _ _ _ _ _ HH.1 hd) ((lvS (lvS (lvS (lvS (lvS (lvN (lvN (lvN (lvN (lvN (lvN lvE))))))))))))) (fun _ _ hq => ⟨hq.1, HH.tr hq.2⟩)
def d_186 (g : Nat) (x1 : Int32) (x2 : Int32) (x3 : Int32) (S : rS) : Option (Int64 × rS) := (l_186 g g 0 x1 x2 x3 x2 0 0 (rF S 18 (0 : Int32)))
set_option maxHeartbeats 4000000 in
set_option maxRecDepth 100000 in
theorem d_186_ok {X : aX} {g d : Nat} {x1 : Int32} {x2 : Int32} {x3 : Int32} {S : rS} {h0 : aH} {zz : Int64 × rS} (hdp : 1 ≤ d) (HS : rm h0 S) (hd : d_186 g x1 x2 x3 S = some zz) : aWp X d 186 0 (aEntL [.ref 382, .int x1, .int x2, .int x3] 11) [] h0 (fun w h' => w = some (.long zz.1) ∧ rTo h0 zz.2 h') := by
  unfold d_186 at hd
  have HH := rTo.rf HS
  refine wp_lv (l2 := [some (.ref 382), some (.int x1), some (.int x2), some (.int x3), none, none, none, none, none, none, none]) rfl ?_
  obtain ⟨e, rfl⟩ : ∃ e, d = e + 1 := ⟨d - 1, by omega⟩
  refine wp_s 1 [some (.ref 382), some (.int x1), some (.int x2), some (.int x3), none, none, none, none, none, none, none] [.ref 382] h0 i_186_0 rfl ?_
  refine wp_s 2 [some (.ref 382), some (.int x1), some (.int x2), some (.int x3), none, none, none, none, none, none, none] [.int (0 : Int32), .ref 382] h0 i_186_1 rfl ?_
  refine rq_F18 5 rfl i_186_2 HH (fun h_1001 H_1002 => ?_)
  refine wp_s 6 [some (.ref 382), some (.int x1), some (.int x2), some (.int x3), none, none, none, none, none, none, none] [.int x2] h_1001 i_186_5 rfl ?_
  refine wp_s 8 [some (.ref 382), some (.int x1), some (.int x2), some (.int x3), some (.int x2), none, none, none, none, none, none] [] h_1001 i_186_6 rfl ?_
  exact aWp.post (aWp.forget ((l_186_ok hdp g).1 _ _ _ _ _ _ _ _ _ H_1002.1 hd) ((lvS (lvS (lvS (lvS (lvS (lvN (lvN (lvN (lvN (lvN (lvN lvE))))))))))))) (fun _ _ hq => ⟨hq.1, H_1002.tr hq.2⟩)
def d_187 (g : Nat)  (S : rS) : Option (Int32 × rS) := (if aIn (0 : Int32) 181 = true then (if ¬ ((S.2.1 20) (0 : Int32).toNatClampNeg) = (1 : Int32) then some ((0 : Int32), S) else some ((1 : Int32), S)) else none)
set_option maxHeartbeats 4000000 in
set_option maxRecDepth 100000 in
theorem d_187_ok {X : aX} {g d : Nat}  {S : rS} {h0 : aH} {zz : Int32 × rS} (hdp : 0 ≤ d) (HS : rm h0 S) (hd : d_187 g  S = some zz) : aWp X d 187 0 (aEntL [.ref 382] 1) [] h0 (fun w h' => w = some (.int zz.1) ∧ rTo h0 zz.2 h') := by
  unfold d_187 at hd
  have HH := rTo.rf HS
  refine wp_lv (l2 := [some (.ref 382)]) rfl ?_
  refine wp_s 1 [some (.ref 382)] [.ref 382] h0 i_187_0 rfl ?_
  refine wp_get (v := .ref 392) 4 rfl i_187_1 (HH.1 0 (by decide)) rfl ?_
  refine wp_s 5 [some (.ref 382)] [.int (0 : Int32), .ref 392] h0 i_187_4 rfl ?_
  obtain ⟨b_1, hd⟩ := dk_if hd
  refine wp_iald (f := (S.2.1 20)) 6 rfl i_187_5 (HH.1 10 (by decide)) b_1 ?_
  refine wp_s 7 [some (.ref 382)] [.int (1 : Int32), .int ((S.2.1 20) (0 : Int32).toNatClampNeg)] h0 i_187_6 rfl ?_
  refine wp_cmp_ne 14 10 rfl rfl i_187_7 (fun c_2 => ?_) (fun c_2 => ?_)
  · rw [if_pos c_2] at hd
    refine wp_s 15 [some (.ref 382)] [.int (0 : Int32)] h0 i_187_14 rfl ?_
    obtain rfl := Option.some.inj hd
    exact wp_iretZ (z := 0) i_187_15 (by decide) ⟨rfl, HH⟩
  · rw [if_neg c_2] at hd
    refine wp_s 11 [some (.ref 382)] [.int (1 : Int32)] h0 i_187_10 rfl ?_
    refine wp_s 15 [some (.ref 382)] [.int (1 : Int32)] h0 i_187_11 rfl ?_
    obtain rfl := Option.some.inj hd
    exact wp_iretZ (z := 0) i_187_15 (by decide) ⟨rfl, HH⟩
def d_188 (g : Nat) (x1 : Int32) (S : rS) : Option (Int32 × rS) := (if x1 < 0 then some ((0 : Int32), S) else (if aIn (1 : Int32) 181 = true then (if ((S.2.1 20) (1 : Int32).toNatClampNeg) ≤ x1 then some ((0 : Int32), S) else some ((1 : Int32), S)) else none))
set_option maxHeartbeats 4000000 in
set_option maxRecDepth 100000 in
theorem d_188_ok {X : aX} {g d : Nat} {x1 : Int32} {S : rS} {h0 : aH} {zz : Int32 × rS} (hdp : 0 ≤ d) (HS : rm h0 S) (hd : d_188 g x1 S = some zz) : aWp X d 188 0 (aEntL [.ref 382, .int x1] 2) [] h0 (fun w h' => w = some (.int zz.1) ∧ rTo h0 zz.2 h') := by
  unfold d_188 at hd
  have HH := rTo.rf HS
  refine wp_lv (l2 := [some (.ref 382), some (.int x1)]) rfl ?_
  refine wp_s 1 [some (.ref 382), some (.int x1)] [.int x1] h0 i_188_0 rfl ?_
  refine wp_if_lt 18 4 rfl rfl i_188_1 (fun c_1 => ?_) (fun c_1 => ?_)
  · rw [if_pos c_1] at hd
    refine wp_s 19 [some (.ref 382), some (.int x1)] [.int (0 : Int32)] h0 i_188_18 rfl ?_
    obtain rfl := Option.some.inj hd
    exact wp_iretZ (z := 0) i_188_19 (by decide) ⟨rfl, HH⟩
  · rw [if_neg c_1] at hd
    refine wp_s 5 [some (.ref 382), some (.int x1)] [.int x1] h0 i_188_4 rfl ?_
    refine wp_s 6 [some (.ref 382), some (.int x1)] [.ref 382, .int x1] h0 i_188_5 rfl ?_
    refine wp_get (v := .ref 392) 9 rfl i_188_6 (HH.1 0 (by decide)) rfl ?_
    refine wp_s 10 [some (.ref 382), some (.int x1)] [.int (1 : Int32), .ref 392, .int x1] h0 i_188_9 rfl ?_
    obtain ⟨b_2, hd⟩ := dk_if hd
    refine wp_iald (f := (S.2.1 20)) 11 rfl i_188_10 (HH.1 10 (by decide)) b_2 ?_
    refine wp_cmp_ge 18 14 rfl rfl i_188_11 (fun c_3 => ?_) (fun c_3 => ?_)
    · rw [if_pos c_3] at hd
      refine wp_s 19 [some (.ref 382), some (.int x1)] [.int (0 : Int32)] h0 i_188_18 rfl ?_
      obtain rfl := Option.some.inj hd
      exact wp_iretZ (z := 0) i_188_19 (by decide) ⟨rfl, HH⟩
    · rw [if_neg c_3] at hd
      refine wp_s 15 [some (.ref 382), some (.int x1)] [.int (1 : Int32)] h0 i_188_14 rfl ?_
      refine wp_s 19 [some (.ref 382), some (.int x1)] [.int (1 : Int32)] h0 i_188_15 rfl ?_
      obtain rfl := Option.some.inj hd
      exact wp_iretZ (z := 0) i_188_19 (by decide) ⟨rfl, HH⟩
def d_189 (g : Nat) (x1 : Int32) (S : rS) : Option (Int32 × rS) := (if x1 < 0 then some ((0 : Int32), S) else (if aIn (2 : Int32) 181 = true then (if ((S.2.1 20) (2 : Int32).toNatClampNeg) ≤ x1 then some ((0 : Int32), S) else some ((1 : Int32), S)) else none))
set_option maxHeartbeats 4000000 in
set_option maxRecDepth 100000 in
theorem d_189_ok {X : aX} {g d : Nat} {x1 : Int32} {S : rS} {h0 : aH} {zz : Int32 × rS} (hdp : 0 ≤ d) (HS : rm h0 S) (hd : d_189 g x1 S = some zz) : aWp X d 189 0 (aEntL [.ref 382, .int x1] 2) [] h0 (fun w h' => w = some (.int zz.1) ∧ rTo h0 zz.2 h') := by
  unfold d_189 at hd
  have HH := rTo.rf HS
  refine wp_lv (l2 := [some (.ref 382), some (.int x1)]) rfl ?_
  refine wp_s 1 [some (.ref 382), some (.int x1)] [.int x1] h0 i_189_0 rfl ?_
  refine wp_if_lt 18 4 rfl rfl i_189_1 (fun c_1 => ?_) (fun c_1 => ?_)
  · rw [if_pos c_1] at hd
    refine wp_s 19 [some (.ref 382), some (.int x1)] [.int (0 : Int32)] h0 i_189_18 rfl ?_
    obtain rfl := Option.some.inj hd
    exact wp_iretZ (z := 0) i_189_19 (by decide) ⟨rfl, HH⟩
  · rw [if_neg c_1] at hd
    refine wp_s 5 [some (.ref 382), some (.int x1)] [.int x1] h0 i_189_4 rfl ?_
    refine wp_s 6 [some (.ref 382), some (.int x1)] [.ref 382, .int x1] h0 i_189_5 rfl ?_
    refine wp_get (v := .ref 392) 9 rfl i_189_6 (HH.1 0 (by decide)) rfl ?_
    refine wp_s 10 [some (.ref 382), some (.int x1)] [.int (2 : Int32), .ref 392, .int x1] h0 i_189_9 rfl ?_
    obtain ⟨b_2, hd⟩ := dk_if hd
    refine wp_iald (f := (S.2.1 20)) 11 rfl i_189_10 (HH.1 10 (by decide)) b_2 ?_
    refine wp_cmp_ge 18 14 rfl rfl i_189_11 (fun c_3 => ?_) (fun c_3 => ?_)
    · rw [if_pos c_3] at hd
      refine wp_s 19 [some (.ref 382), some (.int x1)] [.int (0 : Int32)] h0 i_189_18 rfl ?_
      obtain rfl := Option.some.inj hd
      exact wp_iretZ (z := 0) i_189_19 (by decide) ⟨rfl, HH⟩
    · rw [if_neg c_3] at hd
      refine wp_s 15 [some (.ref 382), some (.int x1)] [.int (1 : Int32)] h0 i_189_14 rfl ?_
      refine wp_s 19 [some (.ref 382), some (.int x1)] [.int (1 : Int32)] h0 i_189_15 rfl ?_
      obtain rfl := Option.some.inj hd
      exact wp_iretZ (z := 0) i_189_19 (by decide) ⟨rfl, HH⟩
def d_190 (g : Nat) (x1 : Int32) (S : rS) : Option (Int32 × rS) := (if x1 < 0 then some ((0 : Int32), S) else (if aIn (3 : Int32) 181 = true then (if ((S.2.1 20) (3 : Int32).toNatClampNeg) ≤ x1 then some ((0 : Int32), S) else some ((1 : Int32), S)) else none))
set_option maxHeartbeats 4000000 in
set_option maxRecDepth 100000 in
theorem d_190_ok {X : aX} {g d : Nat} {x1 : Int32} {S : rS} {h0 : aH} {zz : Int32 × rS} (hdp : 0 ≤ d) (HS : rm h0 S) (hd : d_190 g x1 S = some zz) : aWp X d 190 0 (aEntL [.ref 382, .int x1] 2) [] h0 (fun w h' => w = some (.int zz.1) ∧ rTo h0 zz.2 h') := by
  unfold d_190 at hd
  have HH := rTo.rf HS
  refine wp_lv (l2 := [some (.ref 382), some (.int x1)]) rfl ?_
  refine wp_s 1 [some (.ref 382), some (.int x1)] [.int x1] h0 i_190_0 rfl ?_
  refine wp_if_lt 18 4 rfl rfl i_190_1 (fun c_1 => ?_) (fun c_1 => ?_)
  · rw [if_pos c_1] at hd
    refine wp_s 19 [some (.ref 382), some (.int x1)] [.int (0 : Int32)] h0 i_190_18 rfl ?_
    obtain rfl := Option.some.inj hd
    exact wp_iretZ (z := 0) i_190_19 (by decide) ⟨rfl, HH⟩
  · rw [if_neg c_1] at hd
    refine wp_s 5 [some (.ref 382), some (.int x1)] [.int x1] h0 i_190_4 rfl ?_
    refine wp_s 6 [some (.ref 382), some (.int x1)] [.ref 382, .int x1] h0 i_190_5 rfl ?_
    refine wp_get (v := .ref 392) 9 rfl i_190_6 (HH.1 0 (by decide)) rfl ?_
    refine wp_s 10 [some (.ref 382), some (.int x1)] [.int (3 : Int32), .ref 392, .int x1] h0 i_190_9 rfl ?_
    obtain ⟨b_2, hd⟩ := dk_if hd
    refine wp_iald (f := (S.2.1 20)) 11 rfl i_190_10 (HH.1 10 (by decide)) b_2 ?_
    refine wp_cmp_ge 18 14 rfl rfl i_190_11 (fun c_3 => ?_) (fun c_3 => ?_)
    · rw [if_pos c_3] at hd
      refine wp_s 19 [some (.ref 382), some (.int x1)] [.int (0 : Int32)] h0 i_190_18 rfl ?_
      obtain rfl := Option.some.inj hd
      exact wp_iretZ (z := 0) i_190_19 (by decide) ⟨rfl, HH⟩
    · rw [if_neg c_3] at hd
      refine wp_s 15 [some (.ref 382), some (.int x1)] [.int (1 : Int32)] h0 i_190_14 rfl ?_
      refine wp_s 19 [some (.ref 382), some (.int x1)] [.int (1 : Int32)] h0 i_190_15 rfl ?_
      obtain rfl := Option.some.inj hd
      exact wp_iretZ (z := 0) i_190_19 (by decide) ⟨rfl, HH⟩
def d_191 (g : Nat) (x1 : Int32) (x2 : Int32) (S : rS) : Option (Int32 × rS) := (if aIn (((16 : Int32) + ((5 : Int32) * x1)) + x2) 181 = true then some (((S.2.1 20) (((16 : Int32) + ((5 : Int32) * x1)) + x2).toNatClampNeg), S) else none)
set_option maxHeartbeats 4000000 in
set_option maxRecDepth 100000 in
theorem d_191_ok {X : aX} {g d : Nat} {x1 : Int32} {x2 : Int32} {S : rS} {h0 : aH} {zz : Int32 × rS} (hdp : 0 ≤ d) (HS : rm h0 S) (hd : d_191 g x1 x2 S = some zz) : aWp X d 191 0 (aEntL [.ref 382, .int x1, .int x2] 3) [] h0 (fun w h' => w = some (.int zz.1) ∧ rTo h0 zz.2 h') := by
  unfold d_191 at hd
  have HH := rTo.rf HS
  refine wp_lv (l2 := [some (.ref 382), some (.int x1), some (.int x2)]) rfl ?_
  refine wp_s 1 [some (.ref 382), some (.int x1), some (.int x2)] [.ref 382] h0 i_191_0 rfl ?_
  refine wp_get (v := .ref 392) 4 rfl i_191_1 (HH.1 0 (by decide)) rfl ?_
  refine wp_s 6 [some (.ref 382), some (.int x1), some (.int x2)] [.int (16 : Int32), .ref 392] h0 i_191_4 rfl ?_
  refine wp_s 7 [some (.ref 382), some (.int x1), some (.int x2)] [.int (5 : Int32), .int (16 : Int32), .ref 392] h0 i_191_6 rfl ?_
  refine wp_s 8 [some (.ref 382), some (.int x1), some (.int x2)] [.int x1, .int (5 : Int32), .int (16 : Int32), .ref 392] h0 i_191_7 rfl ?_
  refine wp_s 9 [some (.ref 382), some (.int x1), some (.int x2)] [.int ((5 : Int32) * x1), .int (16 : Int32), .ref 392] h0 i_191_8 rfl ?_
  refine wp_s 10 [some (.ref 382), some (.int x1), some (.int x2)] [.int ((16 : Int32) + ((5 : Int32) * x1)), .ref 392] h0 i_191_9 rfl ?_
  refine wp_s 11 [some (.ref 382), some (.int x1), some (.int x2)] [.int x2, .int ((16 : Int32) + ((5 : Int32) * x1)), .ref 392] h0 i_191_10 rfl ?_
  refine wp_s 12 [some (.ref 382), some (.int x1), some (.int x2)] [.int (((16 : Int32) + ((5 : Int32) * x1)) + x2), .ref 392] h0 i_191_11 rfl ?_
  obtain ⟨b_1, hd⟩ := dk_if hd
  refine wp_iald (f := (S.2.1 20)) 13 rfl i_191_12 (HH.1 10 (by decide)) b_1 ?_
  obtain rfl := Option.some.inj hd
  exact wp_iret i_191_13 ⟨rfl, HH⟩
def d_192 (g : Nat) (x1 : Int32) (S : rS) : Option (Int32 × rS) := (if aIn ((80 : Int32) + ((2 : Int32) * x1)) 181 = true then some (((S.2.1 20) ((80 : Int32) + ((2 : Int32) * x1)).toNatClampNeg), S) else none)
set_option maxHeartbeats 4000000 in
set_option maxRecDepth 100000 in
theorem d_192_ok {X : aX} {g d : Nat} {x1 : Int32} {S : rS} {h0 : aH} {zz : Int32 × rS} (hdp : 0 ≤ d) (HS : rm h0 S) (hd : d_192 g x1 S = some zz) : aWp X d 192 0 (aEntL [.ref 382, .int x1] 2) [] h0 (fun w h' => w = some (.int zz.1) ∧ rTo h0 zz.2 h') := by
  unfold d_192 at hd
  have HH := rTo.rf HS
  refine wp_lv (l2 := [some (.ref 382), some (.int x1)]) rfl ?_
  refine wp_s 1 [some (.ref 382), some (.int x1)] [.ref 382] h0 i_192_0 rfl ?_
  refine wp_get (v := .ref 392) 4 rfl i_192_1 (HH.1 0 (by decide)) rfl ?_
  refine wp_s 6 [some (.ref 382), some (.int x1)] [.int (80 : Int32), .ref 392] h0 i_192_4 rfl ?_
  refine wp_s 7 [some (.ref 382), some (.int x1)] [.int (2 : Int32), .int (80 : Int32), .ref 392] h0 i_192_6 rfl ?_
  refine wp_s 8 [some (.ref 382), some (.int x1)] [.int x1, .int (2 : Int32), .int (80 : Int32), .ref 392] h0 i_192_7 rfl ?_
  refine wp_s 9 [some (.ref 382), some (.int x1)] [.int ((2 : Int32) * x1), .int (80 : Int32), .ref 392] h0 i_192_8 rfl ?_
  refine wp_s 10 [some (.ref 382), some (.int x1)] [.int ((80 : Int32) + ((2 : Int32) * x1)), .ref 392] h0 i_192_9 rfl ?_
  obtain ⟨b_1, hd⟩ := dk_if hd
  refine wp_iald (f := (S.2.1 20)) 11 rfl i_192_10 (HH.1 10 (by decide)) b_1 ?_
  obtain rfl := Option.some.inj hd
  exact wp_iret i_192_11 ⟨rfl, HH⟩
def d_193 (g : Nat) (x1 : Int32) (S : rS) : Option (Int32 × rS) := (if aIn (((80 : Int32) + ((2 : Int32) * x1)) + (1 : Int32)) 181 = true then some (((S.2.1 20) (((80 : Int32) + ((2 : Int32) * x1)) + (1 : Int32)).toNatClampNeg), S) else none)
set_option maxHeartbeats 4000000 in
set_option maxRecDepth 100000 in
theorem d_193_ok {X : aX} {g d : Nat} {x1 : Int32} {S : rS} {h0 : aH} {zz : Int32 × rS} (hdp : 0 ≤ d) (HS : rm h0 S) (hd : d_193 g x1 S = some zz) : aWp X d 193 0 (aEntL [.ref 382, .int x1] 2) [] h0 (fun w h' => w = some (.int zz.1) ∧ rTo h0 zz.2 h') := by
  unfold d_193 at hd
  have HH := rTo.rf HS
  refine wp_lv (l2 := [some (.ref 382), some (.int x1)]) rfl ?_
  refine wp_s 1 [some (.ref 382), some (.int x1)] [.ref 382] h0 i_193_0 rfl ?_
  refine wp_get (v := .ref 392) 4 rfl i_193_1 (HH.1 0 (by decide)) rfl ?_
  refine wp_s 6 [some (.ref 382), some (.int x1)] [.int (80 : Int32), .ref 392] h0 i_193_4 rfl ?_
  refine wp_s 7 [some (.ref 382), some (.int x1)] [.int (2 : Int32), .int (80 : Int32), .ref 392] h0 i_193_6 rfl ?_
  refine wp_s 8 [some (.ref 382), some (.int x1)] [.int x1, .int (2 : Int32), .int (80 : Int32), .ref 392] h0 i_193_7 rfl ?_
  refine wp_s 9 [some (.ref 382), some (.int x1)] [.int ((2 : Int32) * x1), .int (80 : Int32), .ref 392] h0 i_193_8 rfl ?_
  refine wp_s 10 [some (.ref 382), some (.int x1)] [.int ((80 : Int32) + ((2 : Int32) * x1)), .ref 392] h0 i_193_9 rfl ?_
  refine wp_s 11 [some (.ref 382), some (.int x1)] [.int (1 : Int32), .int ((80 : Int32) + ((2 : Int32) * x1)), .ref 392] h0 i_193_10 rfl ?_
  refine wp_s 12 [some (.ref 382), some (.int x1)] [.int (((80 : Int32) + ((2 : Int32) * x1)) + (1 : Int32)), .ref 392] h0 i_193_11 rfl ?_
  obtain ⟨b_1, hd⟩ := dk_if hd
  refine wp_iald (f := (S.2.1 20)) 13 rfl i_193_12 (HH.1 10 (by decide)) b_1 ?_
  obtain rfl := Option.some.inj hd
  exact wp_iret i_193_13 ⟨rfl, HH⟩
def d_194 (g : Nat) (x1 : Int32) (x2 : Int32) (S : rS) : Option (Int32 × rS) := (if aIn (((120 : Int32) + ((4 : Int32) * x1)) + x2) 181 = true then some (((S.2.1 20) (((120 : Int32) + ((4 : Int32) * x1)) + x2).toNatClampNeg), S) else none)
set_option maxHeartbeats 4000000 in
set_option maxRecDepth 100000 in
theorem d_194_ok {X : aX} {g d : Nat} {x1 : Int32} {x2 : Int32} {S : rS} {h0 : aH} {zz : Int32 × rS} (hdp : 0 ≤ d) (HS : rm h0 S) (hd : d_194 g x1 x2 S = some zz) : aWp X d 194 0 (aEntL [.ref 382, .int x1, .int x2] 3) [] h0 (fun w h' => w = some (.int zz.1) ∧ rTo h0 zz.2 h') := by
  unfold d_194 at hd
  have HH := rTo.rf HS
  refine wp_lv (l2 := [some (.ref 382), some (.int x1), some (.int x2)]) rfl ?_
  refine wp_s 1 [some (.ref 382), some (.int x1), some (.int x2)] [.ref 382] h0 i_194_0 rfl ?_
  refine wp_get (v := .ref 392) 4 rfl i_194_1 (HH.1 0 (by decide)) rfl ?_
  refine wp_s 6 [some (.ref 382), some (.int x1), some (.int x2)] [.int (120 : Int32), .ref 392] h0 i_194_4 rfl ?_
  refine wp_s 7 [some (.ref 382), some (.int x1), some (.int x2)] [.int (4 : Int32), .int (120 : Int32), .ref 392] h0 i_194_6 rfl ?_
  refine wp_s 8 [some (.ref 382), some (.int x1), some (.int x2)] [.int x1, .int (4 : Int32), .int (120 : Int32), .ref 392] h0 i_194_7 rfl ?_
  refine wp_s 9 [some (.ref 382), some (.int x1), some (.int x2)] [.int ((4 : Int32) * x1), .int (120 : Int32), .ref 392] h0 i_194_8 rfl ?_
  refine wp_s 10 [some (.ref 382), some (.int x1), some (.int x2)] [.int ((120 : Int32) + ((4 : Int32) * x1)), .ref 392] h0 i_194_9 rfl ?_
  refine wp_s 11 [some (.ref 382), some (.int x1), some (.int x2)] [.int x2, .int ((120 : Int32) + ((4 : Int32) * x1)), .ref 392] h0 i_194_10 rfl ?_
  refine wp_s 12 [some (.ref 382), some (.int x1), some (.int x2)] [.int (((120 : Int32) + ((4 : Int32) * x1)) + x2), .ref 392] h0 i_194_11 rfl ?_
  obtain ⟨b_1, hd⟩ := dk_if hd
  refine wp_iald (f := (S.2.1 20)) 13 rfl i_194_12 (HH.1 10 (by decide)) b_1 ?_
  obtain rfl := Option.some.inj hd
  exact wp_iret i_194_13 ⟨rfl, HH⟩
def l_195 (g n tag : Nat) (x1 : Int32) (x2 : Int32) (x3 : Int32) (x4 : Int32) (S : rS) : Option (Int32 × rS) := match n with
  | 0 => none
  | n + 1 => if tag = 0 then (if aIn (10 : Int32) 181 = true then (if ((S.2.1 20) (10 : Int32).toNatClampNeg) ≤ x3 then some (x2, S) else (if aIn ((108 : Int32) + ((3 : Int32) * x3)) 181 = true then (if x1 < ((S.2.1 20) ((108 : Int32) + ((3 : Int32) * x3)).toNatClampNeg) then (l_195 g n 1 x1 x2 x3 ((108 : Int32) + ((3 : Int32) * x3)) S) else (if aIn (((108 : Int32) + ((3 : Int32) * x3)) + (1 : Int32)) 181 = true then (if ((S.2.1 20) (((108 : Int32) + ((3 : Int32) * x3)) + (1 : Int32)).toNatClampNeg) < x1 then (l_195 g n 1 x1 x2 x3 ((108 : Int32) + ((3 : Int32) * x3)) S) else (if aIn (((108 : Int32) + ((3 : Int32) * x3)) + (2 : Int32)) 181 = true then (l_195 g n 1 x1 ((S.2.1 20) (((108 : Int32) + ((3 : Int32) * x3)) + (2 : Int32)).toNatClampNeg) x3 ((108 : Int32) + ((3 : Int32) * x3)) S) else none)) else none)) else none)) else none) else if tag = 1 then (l_195 g n 0 x1 x2 (x3 + (1 : Int32)) 0 S) else none
set_option maxHeartbeats 4000000 in
set_option maxRecDepth 100000 in
theorem l_195_ok {X : aX} {g d : Nat} (hdp : 0 ≤ d) : ∀ n, (∀ (x1 : Int32) (x2 : Int32) (x3 : Int32) (x4 : Int32) (S : rS) (h0 : aH) (zz : Int32 × rS), rm h0 S → l_195 g n 0 x1 x2 x3 x4 S = some zz → aWp X d 195 4 [some (.ref 382), some (.int x1), some (.int x2), some (.int x3), none] [] h0 (fun w h' => w = some (.int zz.1) ∧ rTo h0 zz.2 h')) ∧ (∀ (x1 : Int32) (x2 : Int32) (x3 : Int32) (x4 : Int32) (S : rS) (h0 : aH) (zz : Int32 × rS), rm h0 S → l_195 g n 1 x1 x2 x3 x4 S = some zz → aWp X d 195 57 [some (.ref 382), some (.int x1), some (.int x2), some (.int x3), some (.int x4)] [] h0 (fun w h' => w = some (.int zz.1) ∧ rTo h0 zz.2 h')) := by
  intro n
  induction n with
  | zero => exact ⟨fun _ _ _ _ _ _ _ _ hd => by simp [l_195] at hd, fun _ _ _ _ _ _ _ _ hd => by simp [l_195] at hd⟩
  | succ n ih =>
    refine ⟨?_, ?_⟩
    · intro x1 x2 x3 x4 S h0 zz HS hd
      unfold l_195 at hd
      rw [if_pos rfl] at hd
      have HH := rTo.rf HS
      refine wp_s 5 [some (.ref 382), some (.int x1), some (.int x2), some (.int x3), none] [.int x3] h0 i_195_4 rfl ?_
      refine wp_s 6 [some (.ref 382), some (.int x1), some (.int x2), some (.int x3), none] [.ref 382, .int x3] h0 i_195_5 rfl ?_
      refine wp_get (v := .ref 392) 9 rfl i_195_6 (HH.1 0 (by decide)) rfl ?_
      refine wp_s 11 [some (.ref 382), some (.int x1), some (.int x2), some (.int x3), none] [.int (10 : Int32), .ref 392, .int x3] h0 i_195_9 rfl ?_
      obtain ⟨b_1, hd⟩ := dk_if hd
      refine wp_iald (f := (S.2.1 20)) 12 rfl i_195_11 (HH.1 10 (by decide)) b_1 ?_
      refine wp_cmp_ge 63 15 rfl rfl i_195_12 (fun c_2 => ?_) (fun c_2 => ?_)
      · rw [if_pos c_2] at hd
        refine wp_s 64 [some (.ref 382), some (.int x1), some (.int x2), some (.int x3), none] [.int x2] h0 i_195_63 rfl ?_
        obtain rfl := Option.some.inj hd
        exact wp_iret i_195_64 ⟨rfl, HH⟩
      · rw [if_neg c_2] at hd
        refine wp_s 17 [some (.ref 382), some (.int x1), some (.int x2), some (.int x3), none] [.int (108 : Int32)] h0 i_195_15 rfl ?_
        refine wp_s 18 [some (.ref 382), some (.int x1), some (.int x2), some (.int x3), none] [.int (3 : Int32), .int (108 : Int32)] h0 i_195_17 rfl ?_
        refine wp_s 19 [some (.ref 382), some (.int x1), some (.int x2), some (.int x3), none] [.int x3, .int (3 : Int32), .int (108 : Int32)] h0 i_195_18 rfl ?_
        refine wp_s 20 [some (.ref 382), some (.int x1), some (.int x2), some (.int x3), none] [.int ((3 : Int32) * x3), .int (108 : Int32)] h0 i_195_19 rfl ?_
        refine wp_s 21 [some (.ref 382), some (.int x1), some (.int x2), some (.int x3), none] [.int ((108 : Int32) + ((3 : Int32) * x3))] h0 i_195_20 rfl ?_
        refine wp_s 23 [some (.ref 382), some (.int x1), some (.int x2), some (.int x3), some (.int ((108 : Int32) + ((3 : Int32) * x3)))] [] h0 i_195_21 rfl ?_
        refine wp_s 24 [some (.ref 382), some (.int x1), some (.int x2), some (.int x3), some (.int ((108 : Int32) + ((3 : Int32) * x3)))] [.int x1] h0 i_195_23 rfl ?_
        refine wp_s 25 [some (.ref 382), some (.int x1), some (.int x2), some (.int x3), some (.int ((108 : Int32) + ((3 : Int32) * x3)))] [.ref 382, .int x1] h0 i_195_24 rfl ?_
        refine wp_get (v := .ref 392) 28 rfl i_195_25 (HH.1 0 (by decide)) rfl ?_
        refine wp_s 30 [some (.ref 382), some (.int x1), some (.int x2), some (.int x3), some (.int ((108 : Int32) + ((3 : Int32) * x3)))] [.int ((108 : Int32) + ((3 : Int32) * x3)), .ref 392, .int x1] h0 i_195_28 rfl ?_
        obtain ⟨b_3, hd⟩ := dk_if hd
        refine wp_iald (f := (S.2.1 20)) 31 rfl i_195_30 (HH.1 10 (by decide)) b_3 ?_
        refine wp_cmp_lt 57 34 rfl rfl i_195_31 (fun c_4 => ?_) (fun c_4 => ?_)
        · rw [if_pos c_4] at hd
          exact aWp.post (aWp.forget (ih.2 _ _ _ _ _ _ _ HH.1 hd) ((lvS (lvS (lvS (lvS (lvS lvE))))))) (fun _ _ hq => ⟨hq.1, HH.tr hq.2⟩)
        · rw [if_neg c_4] at hd
          refine wp_s 35 [some (.ref 382), some (.int x1), some (.int x2), some (.int x3), some (.int ((108 : Int32) + ((3 : Int32) * x3)))] [.int x1] h0 i_195_34 rfl ?_
          refine wp_s 36 [some (.ref 382), some (.int x1), some (.int x2), some (.int x3), some (.int ((108 : Int32) + ((3 : Int32) * x3)))] [.ref 382, .int x1] h0 i_195_35 rfl ?_
          refine wp_get (v := .ref 392) 39 rfl i_195_36 (HH.1 0 (by decide)) rfl ?_
          refine wp_s 41 [some (.ref 382), some (.int x1), some (.int x2), some (.int x3), some (.int ((108 : Int32) + ((3 : Int32) * x3)))] [.int ((108 : Int32) + ((3 : Int32) * x3)), .ref 392, .int x1] h0 i_195_39 rfl ?_
          refine wp_s 42 [some (.ref 382), some (.int x1), some (.int x2), some (.int x3), some (.int ((108 : Int32) + ((3 : Int32) * x3)))] [.int (1 : Int32), .int ((108 : Int32) + ((3 : Int32) * x3)), .ref 392, .int x1] h0 i_195_41 rfl ?_
          refine wp_s 43 [some (.ref 382), some (.int x1), some (.int x2), some (.int x3), some (.int ((108 : Int32) + ((3 : Int32) * x3)))] [.int (((108 : Int32) + ((3 : Int32) * x3)) + (1 : Int32)), .ref 392, .int x1] h0 i_195_42 rfl ?_
          obtain ⟨b_5, hd⟩ := dk_if hd
          refine wp_iald (f := (S.2.1 20)) 44 rfl i_195_43 (HH.1 10 (by decide)) b_5 ?_
          refine wp_cmp_gt 57 47 rfl rfl i_195_44 (fun c_6 => ?_) (fun c_6 => ?_)
          · rw [if_pos c_6] at hd
            exact aWp.post (aWp.forget (ih.2 _ _ _ _ _ _ _ HH.1 hd) ((lvS (lvS (lvS (lvS (lvS lvE))))))) (fun _ _ hq => ⟨hq.1, HH.tr hq.2⟩)
          · rw [if_neg c_6] at hd
            refine wp_s 48 [some (.ref 382), some (.int x1), some (.int x2), some (.int x3), some (.int ((108 : Int32) + ((3 : Int32) * x3)))] [.ref 382] h0 i_195_47 rfl ?_
            refine wp_get (v := .ref 392) 51 rfl i_195_48 (HH.1 0 (by decide)) rfl ?_
            refine wp_s 53 [some (.ref 382), some (.int x1), some (.int x2), some (.int x3), some (.int ((108 : Int32) + ((3 : Int32) * x3)))] [.int ((108 : Int32) + ((3 : Int32) * x3)), .ref 392] h0 i_195_51 rfl ?_
            refine wp_s 54 [some (.ref 382), some (.int x1), some (.int x2), some (.int x3), some (.int ((108 : Int32) + ((3 : Int32) * x3)))] [.int (2 : Int32), .int ((108 : Int32) + ((3 : Int32) * x3)), .ref 392] h0 i_195_53 rfl ?_
            refine wp_s 55 [some (.ref 382), some (.int x1), some (.int x2), some (.int x3), some (.int ((108 : Int32) + ((3 : Int32) * x3)))] [.int (((108 : Int32) + ((3 : Int32) * x3)) + (2 : Int32)), .ref 392] h0 i_195_54 rfl ?_
            obtain ⟨b_7, hd⟩ := dk_if hd
            refine wp_iald (f := (S.2.1 20)) 56 rfl i_195_55 (HH.1 10 (by decide)) b_7 ?_
            refine wp_s 57 [some (.ref 382), some (.int x1), some (.int ((S.2.1 20) (((108 : Int32) + ((3 : Int32) * x3)) + (2 : Int32)).toNatClampNeg)), some (.int x3), some (.int ((108 : Int32) + ((3 : Int32) * x3)))] [] h0 i_195_56 rfl ?_
            exact aWp.post (aWp.forget (ih.2 _ _ _ _ _ _ _ HH.1 hd) ((lvS (lvS (lvS (lvS (lvS lvE))))))) (fun _ _ hq => ⟨hq.1, HH.tr hq.2⟩)
    · intro x1 x2 x3 x4 S h0 zz HS hd
      unfold l_195 at hd
      rw [if_neg (by decide), if_pos rfl] at hd
      have HH := rTo.rf HS
      refine wp_s 60 [some (.ref 382), some (.int x1), some (.int x2), some (.int (x3 + (1 : Int32))), some (.int x4)] [] h0 i_195_57 rfl ?_
      refine wp_s 4 [some (.ref 382), some (.int x1), some (.int x2), some (.int (x3 + (1 : Int32))), some (.int x4)] [] h0 i_195_60 rfl ?_
      exact aWp.post (aWp.forget (ih.1 _ _ _ _ _ _ _ HH.1 hd) ((lvS (lvS (lvS (lvS (lvN lvE))))))) (fun _ _ hq => ⟨hq.1, HH.tr hq.2⟩)
def d_195 (g : Nat) (x1 : Int32) (S : rS) : Option (Int32 × rS) := (l_195 g g 0 x1 (0 : Int32) (0 : Int32) 0 S)
set_option maxHeartbeats 4000000 in
set_option maxRecDepth 100000 in
theorem d_195_ok {X : aX} {g d : Nat} {x1 : Int32} {S : rS} {h0 : aH} {zz : Int32 × rS} (hdp : 0 ≤ d) (HS : rm h0 S) (hd : d_195 g x1 S = some zz) : aWp X d 195 0 (aEntL [.ref 382, .int x1] 5) [] h0 (fun w h' => w = some (.int zz.1) ∧ rTo h0 zz.2 h') := by
  unfold d_195 at hd
  have HH := rTo.rf HS
  refine wp_lv (l2 := [some (.ref 382), some (.int x1), none, none, none]) rfl ?_
  refine wp_s 1 [some (.ref 382), some (.int x1), none, none, none] [.int (0 : Int32)] h0 i_195_0 rfl ?_
  refine wp_s 2 [some (.ref 382), some (.int x1), some (.int (0 : Int32)), none, none] [] h0 i_195_1 rfl ?_
  refine wp_s 3 [some (.ref 382), some (.int x1), some (.int (0 : Int32)), none, none] [.int (0 : Int32)] h0 i_195_2 rfl ?_
  refine wp_s 4 [some (.ref 382), some (.int x1), some (.int (0 : Int32)), some (.int (0 : Int32)), none] [] h0 i_195_3 rfl ?_
  exact aWp.post (aWp.forget ((l_195_ok hdp g).1 _ _ _ _ _ _ _ HH.1 hd) ((lvS (lvS (lvS (lvS (lvN lvE))))))) (fun _ _ hq => ⟨hq.1, HH.tr hq.2⟩)
def j_196_16 (g : Nat) (x1 : Int32) (S : rS) : Option (Int32 × rS) := some ((S.1 21), (rF S 21 x1))
set_option maxHeartbeats 4000000 in
set_option maxRecDepth 100000 in
theorem j_196_16_ok {X : aX} {g d : Nat} {x1 : Int32} {S : rS} {h0 : aH} {zz : Int32 × rS} (hdp : 1 ≤ d) (HS : rm h0 S) (hd : j_196_16 g x1 S = some zz) : aWp X d 196 16 [some (.ref 382), some (.int x1), none] [] h0 (fun w h' => w = some (.int zz.1) ∧ rTo h0 zz.2 h') := by
  unfold j_196_16 at hd
  have HH := rTo.rf HS
  obtain ⟨e, rfl⟩ : ∃ e, d = e + 1 := ⟨d - 1, by omega⟩
  refine wp_s 17 [some (.ref 382), some (.int x1), none] [.ref 382] h0 i_196_16 rfl ?_
  refine wp_get (v := .int (S.1 21)) 20 rfl i_196_17 (HH.1 0 (by decide)) rfl ?_
  refine wp_s 21 [some (.ref 382), some (.int x1), some (.int (S.1 21))] [] h0 i_196_20 rfl ?_
  refine wp_s 22 [some (.ref 382), some (.int x1), some (.int (S.1 21))] [.ref 382] h0 i_196_21 rfl ?_
  refine wp_s 23 [some (.ref 382), some (.int x1), some (.int (S.1 21))] [.int x1, .ref 382] h0 i_196_22 rfl ?_
  refine rq_F21 26 rfl i_196_23 HH (fun h_1 H_2 => ?_)
  refine wp_s 27 [some (.ref 382), some (.int x1), some (.int (S.1 21))] [.int (S.1 21)] h_1 i_196_26 rfl ?_
  obtain rfl := Option.some.inj hd
  exact wp_iret i_196_27 ⟨rfl, H_2⟩
def d_196 (g : Nat) (x1 : Int32) (S : rS) : Option (Int32 × rS) := (if x1 = (-1 : Int32) then (j_196_16 g x1 S) else ((d_182 g x1 S).bind (fun z_2 => (if ¬ z_2.1 = 0 then (j_196_16 g x1 z_2.2) else some ((-2 : Int32), z_2.2)))))
set_option maxHeartbeats 4000000 in
set_option maxRecDepth 100000 in
theorem d_196_ok {X : aX} {g d : Nat} {x1 : Int32} {S : rS} {h0 : aH} {zz : Int32 × rS} (hdp : 1 ≤ d) (HS : rm h0 S) (hd : d_196 g x1 S = some zz) : aWp X d 196 0 (aEntL [.ref 382, .int x1] 3) [] h0 (fun w h' => w = some (.int zz.1) ∧ rTo h0 zz.2 h') := by
  unfold d_196 at hd
  have HH := rTo.rf HS
  refine wp_lv (l2 := [some (.ref 382), some (.int x1), none]) rfl ?_
  obtain ⟨e, rfl⟩ : ∃ e, d = e + 1 := ⟨d - 1, by omega⟩
  refine wp_s 1 [some (.ref 382), some (.int x1), none] [.int x1] h0 i_196_0 rfl ?_
  refine wp_s 2 [some (.ref 382), some (.int x1), none] [.int (-1 : Int32), .int x1] h0 i_196_1 rfl ?_
  refine wp_cmp_eq 16 5 rfl rfl i_196_2 (fun c_1 => ?_) (fun c_1 => ?_)
  · rw [if_pos c_1] at hd
    exact aWp.post (aWp.forget (j_196_16_ok hdp HH.1 hd) ((lvS (lvS (lvN lvE))))) (fun _ _ hq => ⟨hq.1, HH.tr hq.2⟩)
  · rw [if_neg c_1] at hd
    refine wp_s 6 [some (.ref 382), some (.int x1), none] [.ref 382] h0 i_196_5 rfl ?_
    refine wp_s 7 [some (.ref 382), some (.int x1), none] [.int x1, .ref 382] h0 i_196_6 rfl ?_
    obtain ⟨z_2, q_3, hd⟩ := dk_bind hd
    refine wp_callV 10 rfl i_196_7 (by decide) rfl (vs := [.int x1]) (rest := []) rfl rfl rfl (HH.1 0 (by decide)) (y := m_182) rfl (Nat.le_of_ble_eq_true rfl) (d_182_ok (d := e) (by omega) HH.1 q_3) ?_
    rintro v_6 h_4 ⟨rfl, H_5⟩
    have H_5 := HH.tr H_5
    refine wp_if_ne 16 13 rfl rfl i_196_10 (fun c_7 => ?_) (fun c_7 => ?_)
    · rw [if_pos c_7] at hd
      exact aWp.post (aWp.forget (j_196_16_ok hdp H_5.1 hd) ((lvS (lvS (lvN lvE))))) (fun _ _ hq => ⟨hq.1, H_5.tr hq.2⟩)
    · rw [if_neg c_7] at hd
      refine wp_s 15 [some (.ref 382), some (.int x1), none] [.int (-2 : Int32)] h_4 i_196_13 rfl ?_
      obtain rfl := Option.some.inj hd
      exact wp_iret i_196_15 ⟨rfl, H_5⟩
def l_197 (g n tag : Nat) (x1 : Int32) (x2 : Int32) (x3 : Int32) (S : rS) : Option (Int64 × rS) := match n with
  | 0 => none
  | n + 1 => if tag = 0 then (if aIn x1 6 = true then (if ((S.2.1 6) x1.toNatClampNeg) ≤ x2 then some ((0 : Int64), S) else (if aIn ((((48 : Int32) * x1) + ((4 : Int32) * x2)) + (2 : Int32)) 288 = true then (if ((S.2.1 5) ((((48 : Int32) * x1) + ((4 : Int32) * x2)) + (2 : Int32)).toNatClampNeg) < 0 then (l_197 g n 1 x1 x2 (((48 : Int32) * x1) + ((4 : Int32) * x2)) S) else (if aIn ((((48 : Int32) * x1) + ((4 : Int32) * x2)) + (2 : Int32)) 288 = true then (if aIn ((((48 : Int32) * x1) + ((4 : Int32) * x2)) + (3 : Int32)) 288 = true then ((d_186 g x1 ((S.2.1 5) ((((48 : Int32) * x1) + ((4 : Int32) * x2)) + (2 : Int32)).toNatClampNeg) ((S.2.1 5) ((((48 : Int32) * x1) + ((4 : Int32) * x2)) + (3 : Int32)).toNatClampNeg) S).bind (fun z_7 => (if ¬ (lg_cmp z_7.1 (1 : Int64)) = 0 then (l_197 g n 0 x1 (x2 + (1 : Int32)) 0 z_7.2) else (l_197 g n 1 x1 x2 (((48 : Int32) * x1) + ((4 : Int32) * x2)) z_7.2)))) else none) else none)) else none)) else none) else if tag = 1 then (if aIn x3 288 = true then (if aIn (x3 + (1 : Int32)) 288 = true then ((d_186 g x1 ((S.2.1 5) x3.toNatClampNeg) ((S.2.1 5) (x3 + (1 : Int32)).toNatClampNeg) S).bind (fun z_15 => some (z_15.1, z_15.2))) else none) else none) else none
set_option maxHeartbeats 4000000 in
set_option maxRecDepth 100000 in
theorem l_197_ok {X : aX} {g d : Nat} (hdp : 2 ≤ d) : ∀ n, (∀ (x1 : Int32) (x2 : Int32) (x3 : Int32) (S : rS) (h0 : aH) (zz : Int64 × rS), rm h0 S → l_197 g n 0 x1 x2 x3 S = some zz → aWp X d 197 2 [some (.ref 382), some (.int x1), some (.int x2), none] [] h0 (fun w h' => w = some (.long zz.1) ∧ rTo h0 zz.2 h')) ∧ (∀ (x1 : Int32) (x2 : Int32) (x3 : Int32) (S : rS) (h0 : aH) (zz : Int64 × rS), rm h0 S → l_197 g n 1 x1 x2 x3 S = some zz → aWp X d 197 58 [some (.ref 382), some (.int x1), some (.int x2), some (.int x3)] [] h0 (fun w h' => w = some (.long zz.1) ∧ rTo h0 zz.2 h')) := by
  intro n
  induction n with
  | zero => exact ⟨fun _ _ _ _ _ _ _ hd => by simp [l_197] at hd, fun _ _ _ _ _ _ _ hd => by simp [l_197] at hd⟩
  | succ n ih =>
    refine ⟨?_, ?_⟩
    · intro x1 x2 x3 S h0 zz HS hd
      unfold l_197 at hd
      rw [if_pos rfl] at hd
      have HH := rTo.rf HS
      obtain ⟨e, rfl⟩ : ∃ e, d = e + 1 := ⟨d - 1, by omega⟩
      refine wp_s 3 [some (.ref 382), some (.int x1), some (.int x2), none] [.int x2] h0 i_197_2 rfl ?_
      refine wp_s 4 [some (.ref 382), some (.int x1), some (.int x2), none] [.ref 382, .int x2] h0 i_197_3 rfl ?_
      refine wp_get (v := .ref 387) 7 rfl i_197_4 (HH.1 0 (by decide)) rfl ?_
      refine wp_s 8 [some (.ref 382), some (.int x1), some (.int x2), none] [.int x1, .ref 387, .int x2] h0 i_197_7 rfl ?_
      obtain ⟨b_1, hd⟩ := dk_if hd
      refine wp_iald (f := (S.2.1 6)) 9 rfl i_197_8 (HH.1 5 (by decide)) b_1 ?_
      refine wp_cmp_ge 84 12 rfl rfl i_197_9 (fun c_2 => ?_) (fun c_2 => ?_)
      · rw [if_pos c_2] at hd
        refine wp_s 85 [some (.ref 382), some (.int x1), some (.int x2), none] [.long (0 : Int64)] h0 i_197_84 rfl ?_
        obtain rfl := Option.some.inj hd
        exact wp_ret i_197_85 rfl ⟨rfl, HH⟩
      · rw [if_neg c_2] at hd
        refine wp_s 14 [some (.ref 382), some (.int x1), some (.int x2), none] [.int (48 : Int32)] h0 i_197_12 rfl ?_
        refine wp_s 15 [some (.ref 382), some (.int x1), some (.int x2), none] [.int x1, .int (48 : Int32)] h0 i_197_14 rfl ?_
        refine wp_s 16 [some (.ref 382), some (.int x1), some (.int x2), none] [.int ((48 : Int32) * x1)] h0 i_197_15 rfl ?_
        refine wp_s 17 [some (.ref 382), some (.int x1), some (.int x2), none] [.int (4 : Int32), .int ((48 : Int32) * x1)] h0 i_197_16 rfl ?_
        refine wp_s 18 [some (.ref 382), some (.int x1), some (.int x2), none] [.int x2, .int (4 : Int32), .int ((48 : Int32) * x1)] h0 i_197_17 rfl ?_
        refine wp_s 19 [some (.ref 382), some (.int x1), some (.int x2), none] [.int ((4 : Int32) * x2), .int ((48 : Int32) * x1)] h0 i_197_18 rfl ?_
        refine wp_s 20 [some (.ref 382), some (.int x1), some (.int x2), none] [.int (((48 : Int32) * x1) + ((4 : Int32) * x2))] h0 i_197_19 rfl ?_
        refine wp_s 21 [some (.ref 382), some (.int x1), some (.int x2), some (.int (((48 : Int32) * x1) + ((4 : Int32) * x2)))] [] h0 i_197_20 rfl ?_
        refine wp_s 22 [some (.ref 382), some (.int x1), some (.int x2), some (.int (((48 : Int32) * x1) + ((4 : Int32) * x2)))] [.ref 382] h0 i_197_21 rfl ?_
        refine wp_get (v := .ref 386) 25 rfl i_197_22 (HH.1 0 (by decide)) rfl ?_
        refine wp_s 26 [some (.ref 382), some (.int x1), some (.int x2), some (.int (((48 : Int32) * x1) + ((4 : Int32) * x2)))] [.int (((48 : Int32) * x1) + ((4 : Int32) * x2)), .ref 386] h0 i_197_25 rfl ?_
        refine wp_s 27 [some (.ref 382), some (.int x1), some (.int x2), some (.int (((48 : Int32) * x1) + ((4 : Int32) * x2)))] [.int (2 : Int32), .int (((48 : Int32) * x1) + ((4 : Int32) * x2)), .ref 386] h0 i_197_26 rfl ?_
        refine wp_s 28 [some (.ref 382), some (.int x1), some (.int x2), some (.int (((48 : Int32) * x1) + ((4 : Int32) * x2)))] [.int ((((48 : Int32) * x1) + ((4 : Int32) * x2)) + (2 : Int32)), .ref 386] h0 i_197_27 rfl ?_
        obtain ⟨b_3, hd⟩ := dk_if hd
        refine wp_iald (f := (S.2.1 5)) 29 rfl i_197_28 (HH.1 4 (by decide)) b_3 ?_
        refine wp_if_lt 58 32 rfl rfl i_197_29 (fun c_4 => ?_) (fun c_4 => ?_)
        · rw [if_pos c_4] at hd
          exact aWp.post (aWp.forget (ih.2 _ _ _ _ _ _ HH.1 hd) ((lvS (lvS (lvS (lvS lvE)))))) (fun _ _ hq => ⟨hq.1, HH.tr hq.2⟩)
        · rw [if_neg c_4] at hd
          refine wp_s 33 [some (.ref 382), some (.int x1), some (.int x2), some (.int (((48 : Int32) * x1) + ((4 : Int32) * x2)))] [.ref 382] h0 i_197_32 rfl ?_
          refine wp_s 34 [some (.ref 382), some (.int x1), some (.int x2), some (.int (((48 : Int32) * x1) + ((4 : Int32) * x2)))] [.int x1, .ref 382] h0 i_197_33 rfl ?_
          refine wp_s 35 [some (.ref 382), some (.int x1), some (.int x2), some (.int (((48 : Int32) * x1) + ((4 : Int32) * x2)))] [.ref 382, .int x1, .ref 382] h0 i_197_34 rfl ?_
          refine wp_get (v := .ref 386) 38 rfl i_197_35 (HH.1 0 (by decide)) rfl ?_
          refine wp_s 39 [some (.ref 382), some (.int x1), some (.int x2), some (.int (((48 : Int32) * x1) + ((4 : Int32) * x2)))] [.int (((48 : Int32) * x1) + ((4 : Int32) * x2)), .ref 386, .int x1, .ref 382] h0 i_197_38 rfl ?_
          refine wp_s 40 [some (.ref 382), some (.int x1), some (.int x2), some (.int (((48 : Int32) * x1) + ((4 : Int32) * x2)))] [.int (2 : Int32), .int (((48 : Int32) * x1) + ((4 : Int32) * x2)), .ref 386, .int x1, .ref 382] h0 i_197_39 rfl ?_
          refine wp_s 41 [some (.ref 382), some (.int x1), some (.int x2), some (.int (((48 : Int32) * x1) + ((4 : Int32) * x2)))] [.int ((((48 : Int32) * x1) + ((4 : Int32) * x2)) + (2 : Int32)), .ref 386, .int x1, .ref 382] h0 i_197_40 rfl ?_
          obtain ⟨b_5, hd⟩ := dk_if hd
          refine wp_iald (f := (S.2.1 5)) 42 rfl i_197_41 (HH.1 4 (by decide)) b_5 ?_
          refine wp_s 43 [some (.ref 382), some (.int x1), some (.int x2), some (.int (((48 : Int32) * x1) + ((4 : Int32) * x2)))] [.ref 382, .int ((S.2.1 5) ((((48 : Int32) * x1) + ((4 : Int32) * x2)) + (2 : Int32)).toNatClampNeg), .int x1, .ref 382] h0 i_197_42 rfl ?_
          refine wp_get (v := .ref 386) 46 rfl i_197_43 (HH.1 0 (by decide)) rfl ?_
          refine wp_s 47 [some (.ref 382), some (.int x1), some (.int x2), some (.int (((48 : Int32) * x1) + ((4 : Int32) * x2)))] [.int (((48 : Int32) * x1) + ((4 : Int32) * x2)), .ref 386, .int ((S.2.1 5) ((((48 : Int32) * x1) + ((4 : Int32) * x2)) + (2 : Int32)).toNatClampNeg), .int x1, .ref 382] h0 i_197_46 rfl ?_
          refine wp_s 48 [some (.ref 382), some (.int x1), some (.int x2), some (.int (((48 : Int32) * x1) + ((4 : Int32) * x2)))] [.int (3 : Int32), .int (((48 : Int32) * x1) + ((4 : Int32) * x2)), .ref 386, .int ((S.2.1 5) ((((48 : Int32) * x1) + ((4 : Int32) * x2)) + (2 : Int32)).toNatClampNeg), .int x1, .ref 382] h0 i_197_47 rfl ?_
          refine wp_s 49 [some (.ref 382), some (.int x1), some (.int x2), some (.int (((48 : Int32) * x1) + ((4 : Int32) * x2)))] [.int ((((48 : Int32) * x1) + ((4 : Int32) * x2)) + (3 : Int32)), .ref 386, .int ((S.2.1 5) ((((48 : Int32) * x1) + ((4 : Int32) * x2)) + (2 : Int32)).toNatClampNeg), .int x1, .ref 382] h0 i_197_48 rfl ?_
          obtain ⟨b_6, hd⟩ := dk_if hd
          refine wp_iald (f := (S.2.1 5)) 50 rfl i_197_49 (HH.1 4 (by decide)) b_6 ?_
          obtain ⟨z_7, q_8, hd⟩ := dk_bind hd
          refine wp_callV 53 rfl i_197_50 (by decide) rfl (vs := [.int x1, .int ((S.2.1 5) ((((48 : Int32) * x1) + ((4 : Int32) * x2)) + (2 : Int32)).toNatClampNeg), .int ((S.2.1 5) ((((48 : Int32) * x1) + ((4 : Int32) * x2)) + (3 : Int32)).toNatClampNeg)]) (rest := []) rfl rfl rfl (HH.1 0 (by decide)) (y := m_186) rfl (Nat.le_of_ble_eq_true rfl) (d_186_ok (d := e) (by omega) HH.1 q_8) ?_
          rintro v_11 h_9 ⟨rfl, H_10⟩
          have H_10 := HH.tr H_10
          refine wp_s 54 [some (.ref 382), some (.int x1), some (.int x2), some (.int (((48 : Int32) * x1) + ((4 : Int32) * x2)))] [.long (1 : Int64), .long z_7.1] h_9 i_197_53 rfl ?_
          refine wp_s 55 [some (.ref 382), some (.int x1), some (.int x2), some (.int (((48 : Int32) * x1) + ((4 : Int32) * x2)))] [.int (lg_cmp z_7.1 (1 : Int64))] h_9 i_197_54 rfl ?_
          refine wp_if_ne 78 58 rfl rfl i_197_55 (fun c_12 => ?_) (fun c_12 => ?_)
          · rw [if_pos c_12] at hd
            refine wp_s 81 [some (.ref 382), some (.int x1), some (.int (x2 + (1 : Int32))), some (.int (((48 : Int32) * x1) + ((4 : Int32) * x2)))] [] h_9 i_197_78 rfl ?_
            refine wp_s 2 [some (.ref 382), some (.int x1), some (.int (x2 + (1 : Int32))), some (.int (((48 : Int32) * x1) + ((4 : Int32) * x2)))] [] h_9 i_197_81 rfl ?_
            exact aWp.post (aWp.forget (ih.1 _ _ _ _ _ _ H_10.1 hd) ((lvS (lvS (lvS (lvN lvE)))))) (fun _ _ hq => ⟨hq.1, H_10.tr hq.2⟩)
          · rw [if_neg c_12] at hd
            exact aWp.post (aWp.forget (ih.2 _ _ _ _ _ _ H_10.1 hd) ((lvS (lvS (lvS (lvS lvE)))))) (fun _ _ hq => ⟨hq.1, H_10.tr hq.2⟩)
    · intro x1 x2 x3 S h0 zz HS hd
      unfold l_197 at hd
      rw [if_neg (by decide), if_pos rfl] at hd
      have HH := rTo.rf HS
      obtain ⟨e, rfl⟩ : ∃ e, d = e + 1 := ⟨d - 1, by omega⟩
      refine wp_s 59 [some (.ref 382), some (.int x1), some (.int x2), some (.int x3)] [.ref 382] h0 i_197_58 rfl ?_
      refine wp_s 60 [some (.ref 382), some (.int x1), some (.int x2), some (.int x3)] [.int x1, .ref 382] h0 i_197_59 rfl ?_
      refine wp_s 61 [some (.ref 382), some (.int x1), some (.int x2), some (.int x3)] [.ref 382, .int x1, .ref 382] h0 i_197_60 rfl ?_
      refine wp_get (v := .ref 386) 64 rfl i_197_61 (HH.1 0 (by decide)) rfl ?_
      refine wp_s 65 [some (.ref 382), some (.int x1), some (.int x2), some (.int x3)] [.int x3, .ref 386, .int x1, .ref 382] h0 i_197_64 rfl ?_
      obtain ⟨b_13, hd⟩ := dk_if hd
      refine wp_iald (f := (S.2.1 5)) 66 rfl i_197_65 (HH.1 4 (by decide)) b_13 ?_
      refine wp_s 67 [some (.ref 382), some (.int x1), some (.int x2), some (.int x3)] [.ref 382, .int ((S.2.1 5) x3.toNatClampNeg), .int x1, .ref 382] h0 i_197_66 rfl ?_
      refine wp_get (v := .ref 386) 70 rfl i_197_67 (HH.1 0 (by decide)) rfl ?_
      refine wp_s 71 [some (.ref 382), some (.int x1), some (.int x2), some (.int x3)] [.int x3, .ref 386, .int ((S.2.1 5) x3.toNatClampNeg), .int x1, .ref 382] h0 i_197_70 rfl ?_
      refine wp_s 72 [some (.ref 382), some (.int x1), some (.int x2), some (.int x3)] [.int (1 : Int32), .int x3, .ref 386, .int ((S.2.1 5) x3.toNatClampNeg), .int x1, .ref 382] h0 i_197_71 rfl ?_
      refine wp_s 73 [some (.ref 382), some (.int x1), some (.int x2), some (.int x3)] [.int (x3 + (1 : Int32)), .ref 386, .int ((S.2.1 5) x3.toNatClampNeg), .int x1, .ref 382] h0 i_197_72 rfl ?_
      obtain ⟨b_14, hd⟩ := dk_if hd
      refine wp_iald (f := (S.2.1 5)) 74 rfl i_197_73 (HH.1 4 (by decide)) b_14 ?_
      obtain ⟨z_15, q_16, hd⟩ := dk_bind hd
      refine wp_callV 77 rfl i_197_74 (by decide) rfl (vs := [.int x1, .int ((S.2.1 5) x3.toNatClampNeg), .int ((S.2.1 5) (x3 + (1 : Int32)).toNatClampNeg)]) (rest := []) rfl rfl rfl (HH.1 0 (by decide)) (y := m_186) rfl (Nat.le_of_ble_eq_true rfl) (d_186_ok (d := e) (by omega) HH.1 q_16) ?_
      rintro v_19 h_17 ⟨rfl, H_18⟩
      have H_18 := HH.tr H_18
      obtain rfl := Option.some.inj hd
      exact wp_ret i_197_77 rfl ⟨rfl, H_18⟩
def d_197 (g : Nat) (x1 : Int32) (S : rS) : Option (Int64 × rS) := (l_197 g g 0 x1 (0 : Int32) 0 S)
set_option maxHeartbeats 4000000 in
set_option maxRecDepth 100000 in
theorem d_197_ok {X : aX} {g d : Nat} {x1 : Int32} {S : rS} {h0 : aH} {zz : Int64 × rS} (hdp : 2 ≤ d) (HS : rm h0 S) (hd : d_197 g x1 S = some zz) : aWp X d 197 0 (aEntL [.ref 382, .int x1] 4) [] h0 (fun w h' => w = some (.long zz.1) ∧ rTo h0 zz.2 h') := by
  unfold d_197 at hd
  have HH := rTo.rf HS
  refine wp_lv (l2 := [some (.ref 382), some (.int x1), none, none]) rfl ?_
  obtain ⟨e, rfl⟩ : ∃ e, d = e + 1 := ⟨d - 1, by omega⟩
  refine wp_s 1 [some (.ref 382), some (.int x1), none, none] [.int (0 : Int32)] h0 i_197_0 rfl ?_
  refine wp_s 2 [some (.ref 382), some (.int x1), some (.int (0 : Int32)), none] [] h0 i_197_1 rfl ?_
  exact aWp.post (aWp.forget ((l_197_ok hdp g).1 _ _ _ _ _ _ HH.1 hd) ((lvS (lvS (lvS (lvN lvE)))))) (fun _ _ hq => ⟨hq.1, HH.tr hq.2⟩)
def d_198 (g : Nat) (x1 : Int32) (x2 : Int32) (x3 : Int32) (x4 : Int32) (S : rS) : Option (Int32 × rS) := ((d_195 g x3 S).bind (fun z_1 => (if 0 ≤ x1 then (if aIn (0 : Int32) 8 = true then ((d_192 g x2 (rW z_1.2 (vp_updL z_1.2.2.2.2.1 (0 : Int32).toNatClampNeg (x2.toInt64)))).bind (fun z_10 => (if aIn (1 : Int32) 8 = true then (if aIn (2 : Int32) 8 = true then (if aIn (3 : Int32) 8 = true then (if aIn (4 : Int32) 8 = true then ((d_191 g x2 (0 : Int32) (rW (rW (rW (rW z_10.2 (vp_updL z_10.2.2.2.2.1 (1 : Int32).toNatClampNeg (z_10.1.toInt64))) (vp_updL (vp_updL z_10.2.2.2.2.1 (1 : Int32).toNatClampNeg (z_10.1.toInt64)) (2 : Int32).toNatClampNeg (z_1.1.toInt64))) (vp_updL (vp_updL (vp_updL z_10.2.2.2.2.1 (1 : Int32).toNatClampNeg (z_10.1.toInt64)) (2 : Int32).toNatClampNeg (z_1.1.toInt64)) (3 : Int32).toNatClampNeg (x3.toInt64))) (vp_updL (vp_updL (vp_updL (vp_updL z_10.2.2.2.2.1 (1 : Int32).toNatClampNeg (z_10.1.toInt64)) (2 : Int32).toNatClampNeg (z_1.1.toInt64)) (3 : Int32).toNatClampNeg (x3.toInt64)) (4 : Int32).toNatClampNeg (x4.toInt64)))).bind (fun z_27 => (if aIn (5 : Int32) 8 = true then ((d_191 g x2 (2 : Int32) (rW z_27.2 (vp_updL z_27.2.2.2.2.1 (5 : Int32).toNatClampNeg (z_27.1.toInt64)))).bind (fun z_35 => (if aIn (6 : Int32) 8 = true then ((d_193 g x2 (rW z_35.2 (vp_updL z_35.2.2.2.2.1 (6 : Int32).toNatClampNeg (z_35.1.toInt64)))).bind (fun z_43 => (if aIn (7 : Int32) 8 = true then ((d_197 g x1 (rW z_43.2 (vp_updL z_43.2.2.2.2.1 (7 : Int32).toNatClampNeg (z_43.1.toInt64)))).bind (fun z_51 => (if 0 ≤ (lg_cmp z_51.1 (1 : Int64)) then (if (lg_cmp z_51.1 (9999 : Int64)) ≤ 0 then some ((z_51.1.toInt32), z_51.2) else some ((9999 : Int32), z_51.2)) else some ((1 : Int32), z_51.2)))) else none))) else none))) else none))) else none) else none) else none) else none))) else none) else ((d_192 g x2 z_1.2).bind (fun z_58 => ((d_192 g x2 z_58.2).bind (fun z_63 => (if ¬ (100 : Int32) = 0 then (if (1 : Int32) ≤ (z_58.1 - ((z_63.1 * z_1.1) / (100 : Int32))) then some ((z_58.1 - ((z_63.1 * z_1.1) / (100 : Int32))), z_63.2) else some ((1 : Int32), z_63.2)) else none))))))))
set_option maxHeartbeats 4000000 in
set_option maxRecDepth 100000 in
theorem d_198_ok {X : aX} {g d : Nat} {x1 : Int32} {x2 : Int32} {x3 : Int32} {x4 : Int32} {S : rS} {h0 : aH} {zz : Int32 × rS} (hdp : 3 ≤ d) (HS : rm h0 S) (hd : d_198 g x1 x2 x3 x4 S = some zz) : aWp X d 198 0 (aEntL [.ref 382, .int x1, .int x2, .int x3, .int x4] 8) [] h0 (fun w h' => w = some (.int zz.1) ∧ rTo h0 zz.2 h') := by
  unfold d_198 at hd
  have HH := rTo.rf HS
  refine wp_lv (l2 := [some (.ref 382), some (.int x1), some (.int x2), some (.int x3), some (.int x4), none, none, none]) rfl ?_
  obtain ⟨e, rfl⟩ : ∃ e, d = e + 1 := ⟨d - 1, by omega⟩
  refine wp_s 1 [some (.ref 382), some (.int x1), some (.int x2), some (.int x3), some (.int x4), none, none, none] [.ref 382] h0 i_198_0 rfl ?_
  refine wp_s 2 [some (.ref 382), some (.int x1), some (.int x2), some (.int x3), some (.int x4), none, none, none] [.int x3, .ref 382] h0 i_198_1 rfl ?_
  obtain ⟨z_1, q_2, hd⟩ := dk_bind hd
  refine wp_callV 5 rfl i_198_2 (by decide) rfl (vs := [.int x3]) (rest := []) rfl rfl rfl (HH.1 0 (by decide)) (y := m_195) rfl (Nat.le_of_ble_eq_true rfl) (d_195_ok (d := e) (by omega) HH.1 q_2) ?_
  rintro v_5 h_3 ⟨rfl, H_4⟩
  have H_4 := HH.tr H_4
  refine wp_s 7 [some (.ref 382), some (.int x1), some (.int x2), some (.int x3), some (.int x4), some (.int z_1.1), none, none] [] h_3 i_198_5 rfl ?_
  refine wp_s 8 [some (.ref 382), some (.int x1), some (.int x2), some (.int x3), some (.int x4), some (.int z_1.1), none, none] [.int x1] h_3 i_198_7 rfl ?_
  refine wp_if_ge 43 11 rfl rfl i_198_8 (fun c_6 => ?_) (fun c_6 => ?_)
  · rw [if_pos c_6] at hd
    refine wp_s 44 [some (.ref 382), some (.int x1), some (.int x2), some (.int x3), some (.int x4), some (.int z_1.1), none, none] [.ref 382] h_3 i_198_43 rfl ?_
    refine wp_get (v := .ref 391) 47 rfl i_198_44 (H_4.1 0 (by decide)) rfl ?_
    refine wp_s 48 [some (.ref 382), some (.int x1), some (.int x2), some (.int x3), some (.int x4), some (.int z_1.1), none, none] [.int (0 : Int32), .ref 391] h_3 i_198_47 rfl ?_
    refine wp_s 49 [some (.ref 382), some (.int x1), some (.int x2), some (.int x3), some (.int x4), some (.int z_1.1), none, none] [.int x2, .int (0 : Int32), .ref 391] h_3 i_198_48 rfl ?_
    refine wp_s 50 [some (.ref 382), some (.int x1), some (.int x2), some (.int x3), some (.int x4), some (.int z_1.1), none, none] [.long (x2.toInt64), .int (0 : Int32), .ref 391] h_3 i_198_49 rfl ?_
    obtain ⟨b_7, hd⟩ := dk_if hd
    refine rq_A19 51 rfl i_198_50 H_4 b_7 (fun h_8 H_9 => ?_)
    refine wp_s 52 [some (.ref 382), some (.int x1), some (.int x2), some (.int x3), some (.int x4), some (.int z_1.1), none, none] [.ref 382] h_8 i_198_51 rfl ?_
    refine wp_get (v := .ref 391) 55 rfl i_198_52 (H_9.1 0 (by decide)) rfl ?_
    refine wp_s 56 [some (.ref 382), some (.int x1), some (.int x2), some (.int x3), some (.int x4), some (.int z_1.1), none, none] [.int (1 : Int32), .ref 391] h_8 i_198_55 rfl ?_
    refine wp_s 57 [some (.ref 382), some (.int x1), some (.int x2), some (.int x3), some (.int x4), some (.int z_1.1), none, none] [.ref 382, .int (1 : Int32), .ref 391] h_8 i_198_56 rfl ?_
    refine wp_s 58 [some (.ref 382), some (.int x1), some (.int x2), some (.int x3), some (.int x4), some (.int z_1.1), none, none] [.int x2, .ref 382, .int (1 : Int32), .ref 391] h_8 i_198_57 rfl ?_
    obtain ⟨z_10, q_11, hd⟩ := dk_bind hd
    refine wp_callV 61 rfl i_198_58 (by decide) rfl (vs := [.int x2]) (rest := [.int (1 : Int32), .ref 391]) rfl rfl rfl (H_9.1 0 (by decide)) (y := m_192) rfl (Nat.le_of_ble_eq_true rfl) (d_192_ok (d := e) (by omega) H_9.1 q_11) ?_
    rintro v_14 h_12 ⟨rfl, H_13⟩
    have H_13 := H_9.tr H_13
    refine wp_s 62 [some (.ref 382), some (.int x1), some (.int x2), some (.int x3), some (.int x4), some (.int z_1.1), none, none] [.long (z_10.1.toInt64), .int (1 : Int32), .ref 391] h_12 i_198_61 rfl ?_
    obtain ⟨b_15, hd⟩ := dk_if hd
    refine rq_A19 63 rfl i_198_62 H_13 b_15 (fun h_16 H_17 => ?_)
    refine wp_s 64 [some (.ref 382), some (.int x1), some (.int x2), some (.int x3), some (.int x4), some (.int z_1.1), none, none] [.ref 382] h_16 i_198_63 rfl ?_
    refine wp_get (v := .ref 391) 67 rfl i_198_64 (H_17.1 0 (by decide)) rfl ?_
    refine wp_s 68 [some (.ref 382), some (.int x1), some (.int x2), some (.int x3), some (.int x4), some (.int z_1.1), none, none] [.int (2 : Int32), .ref 391] h_16 i_198_67 rfl ?_
    refine wp_s 70 [some (.ref 382), some (.int x1), some (.int x2), some (.int x3), some (.int x4), some (.int z_1.1), none, none] [.int z_1.1, .int (2 : Int32), .ref 391] h_16 i_198_68 rfl ?_
    refine wp_s 71 [some (.ref 382), some (.int x1), some (.int x2), some (.int x3), some (.int x4), some (.int z_1.1), none, none] [.long (z_1.1.toInt64), .int (2 : Int32), .ref 391] h_16 i_198_70 rfl ?_
    obtain ⟨b_18, hd⟩ := dk_if hd
    refine rq_A19 72 rfl i_198_71 H_17 b_18 (fun h_19 H_20 => ?_)
    refine wp_s 73 [some (.ref 382), some (.int x1), some (.int x2), some (.int x3), some (.int x4), some (.int z_1.1), none, none] [.ref 382] h_19 i_198_72 rfl ?_
    refine wp_get (v := .ref 391) 76 rfl i_198_73 (H_20.1 0 (by decide)) rfl ?_
    refine wp_s 77 [some (.ref 382), some (.int x1), some (.int x2), some (.int x3), some (.int x4), some (.int z_1.1), none, none] [.int (3 : Int32), .ref 391] h_19 i_198_76 rfl ?_
    refine wp_s 78 [some (.ref 382), some (.int x1), some (.int x2), some (.int x3), some (.int x4), some (.int z_1.1), none, none] [.int x3, .int (3 : Int32), .ref 391] h_19 i_198_77 rfl ?_
    refine wp_s 79 [some (.ref 382), some (.int x1), some (.int x2), some (.int x3), some (.int x4), some (.int z_1.1), none, none] [.long (x3.toInt64), .int (3 : Int32), .ref 391] h_19 i_198_78 rfl ?_
    obtain ⟨b_21, hd⟩ := dk_if hd
    refine rq_A19 80 rfl i_198_79 H_20 b_21 (fun h_22 H_23 => ?_)
    refine wp_s 81 [some (.ref 382), some (.int x1), some (.int x2), some (.int x3), some (.int x4), some (.int z_1.1), none, none] [.ref 382] h_22 i_198_80 rfl ?_
    refine wp_get (v := .ref 391) 84 rfl i_198_81 (H_23.1 0 (by decide)) rfl ?_
    refine wp_s 85 [some (.ref 382), some (.int x1), some (.int x2), some (.int x3), some (.int x4), some (.int z_1.1), none, none] [.int (4 : Int32), .ref 391] h_22 i_198_84 rfl ?_
    refine wp_s 87 [some (.ref 382), some (.int x1), some (.int x2), some (.int x3), some (.int x4), some (.int z_1.1), none, none] [.int x4, .int (4 : Int32), .ref 391] h_22 i_198_85 rfl ?_
    refine wp_s 88 [some (.ref 382), some (.int x1), some (.int x2), some (.int x3), some (.int x4), some (.int z_1.1), none, none] [.long (x4.toInt64), .int (4 : Int32), .ref 391] h_22 i_198_87 rfl ?_
    obtain ⟨b_24, hd⟩ := dk_if hd
    refine rq_A19 89 rfl i_198_88 H_23 b_24 (fun h_25 H_26 => ?_)
    refine wp_s 90 [some (.ref 382), some (.int x1), some (.int x2), some (.int x3), some (.int x4), some (.int z_1.1), none, none] [.ref 382] h_25 i_198_89 rfl ?_
    refine wp_get (v := .ref 391) 93 rfl i_198_90 (H_26.1 0 (by decide)) rfl ?_
    refine wp_s 94 [some (.ref 382), some (.int x1), some (.int x2), some (.int x3), some (.int x4), some (.int z_1.1), none, none] [.int (5 : Int32), .ref 391] h_25 i_198_93 rfl ?_
    refine wp_s 95 [some (.ref 382), some (.int x1), some (.int x2), some (.int x3), some (.int x4), some (.int z_1.1), none, none] [.ref 382, .int (5 : Int32), .ref 391] h_25 i_198_94 rfl ?_
    refine wp_s 96 [some (.ref 382), some (.int x1), some (.int x2), some (.int x3), some (.int x4), some (.int z_1.1), none, none] [.int x2, .ref 382, .int (5 : Int32), .ref 391] h_25 i_198_95 rfl ?_
    refine wp_s 97 [some (.ref 382), some (.int x1), some (.int x2), some (.int x3), some (.int x4), some (.int z_1.1), none, none] [.int (0 : Int32), .int x2, .ref 382, .int (5 : Int32), .ref 391] h_25 i_198_96 rfl ?_
    obtain ⟨z_27, q_28, hd⟩ := dk_bind hd
    refine wp_callV 100 rfl i_198_97 (by decide) rfl (vs := [.int x2, .int (0 : Int32)]) (rest := [.int (5 : Int32), .ref 391]) rfl rfl rfl (H_26.1 0 (by decide)) (y := m_191) rfl (Nat.le_of_ble_eq_true rfl) (d_191_ok (d := e) (by omega) H_26.1 q_28) ?_
    rintro v_31 h_29 ⟨rfl, H_30⟩
    have H_30 := H_26.tr H_30
    refine wp_s 101 [some (.ref 382), some (.int x1), some (.int x2), some (.int x3), some (.int x4), some (.int z_1.1), none, none] [.long (z_27.1.toInt64), .int (5 : Int32), .ref 391] h_29 i_198_100 rfl ?_
    obtain ⟨b_32, hd⟩ := dk_if hd
    refine rq_A19 102 rfl i_198_101 H_30 b_32 (fun h_33 H_34 => ?_)
    refine wp_s 103 [some (.ref 382), some (.int x1), some (.int x2), some (.int x3), some (.int x4), some (.int z_1.1), none, none] [.ref 382] h_33 i_198_102 rfl ?_
    refine wp_get (v := .ref 391) 106 rfl i_198_103 (H_34.1 0 (by decide)) rfl ?_
    refine wp_s 108 [some (.ref 382), some (.int x1), some (.int x2), some (.int x3), some (.int x4), some (.int z_1.1), none, none] [.int (6 : Int32), .ref 391] h_33 i_198_106 rfl ?_
    refine wp_s 109 [some (.ref 382), some (.int x1), some (.int x2), some (.int x3), some (.int x4), some (.int z_1.1), none, none] [.ref 382, .int (6 : Int32), .ref 391] h_33 i_198_108 rfl ?_
    refine wp_s 110 [some (.ref 382), some (.int x1), some (.int x2), some (.int x3), some (.int x4), some (.int z_1.1), none, none] [.int x2, .ref 382, .int (6 : Int32), .ref 391] h_33 i_198_109 rfl ?_
    refine wp_s 111 [some (.ref 382), some (.int x1), some (.int x2), some (.int x3), some (.int x4), some (.int z_1.1), none, none] [.int (2 : Int32), .int x2, .ref 382, .int (6 : Int32), .ref 391] h_33 i_198_110 rfl ?_
    obtain ⟨z_35, q_36, hd⟩ := dk_bind hd
    refine wp_callV 114 rfl i_198_111 (by decide) rfl (vs := [.int x2, .int (2 : Int32)]) (rest := [.int (6 : Int32), .ref 391]) rfl rfl rfl (H_34.1 0 (by decide)) (y := m_191) rfl (Nat.le_of_ble_eq_true rfl) (d_191_ok (d := e) (by omega) H_34.1 q_36) ?_
    rintro v_39 h_37 ⟨rfl, H_38⟩
    have H_38 := H_34.tr H_38
    refine wp_s 115 [some (.ref 382), some (.int x1), some (.int x2), some (.int x3), some (.int x4), some (.int z_1.1), none, none] [.long (z_35.1.toInt64), .int (6 : Int32), .ref 391] h_37 i_198_114 rfl ?_
    obtain ⟨b_40, hd⟩ := dk_if hd
    refine rq_A19 116 rfl i_198_115 H_38 b_40 (fun h_41 H_42 => ?_)
    refine wp_s 117 [some (.ref 382), some (.int x1), some (.int x2), some (.int x3), some (.int x4), some (.int z_1.1), none, none] [.ref 382] h_41 i_198_116 rfl ?_
    refine wp_get (v := .ref 391) 120 rfl i_198_117 (H_42.1 0 (by decide)) rfl ?_
    refine wp_s 122 [some (.ref 382), some (.int x1), some (.int x2), some (.int x3), some (.int x4), some (.int z_1.1), none, none] [.int (7 : Int32), .ref 391] h_41 i_198_120 rfl ?_
    refine wp_s 123 [some (.ref 382), some (.int x1), some (.int x2), some (.int x3), some (.int x4), some (.int z_1.1), none, none] [.ref 382, .int (7 : Int32), .ref 391] h_41 i_198_122 rfl ?_
    refine wp_s 124 [some (.ref 382), some (.int x1), some (.int x2), some (.int x3), some (.int x4), some (.int z_1.1), none, none] [.int x2, .ref 382, .int (7 : Int32), .ref 391] h_41 i_198_123 rfl ?_
    obtain ⟨z_43, q_44, hd⟩ := dk_bind hd
    refine wp_callV 127 rfl i_198_124 (by decide) rfl (vs := [.int x2]) (rest := [.int (7 : Int32), .ref 391]) rfl rfl rfl (H_42.1 0 (by decide)) (y := m_193) rfl (Nat.le_of_ble_eq_true rfl) (d_193_ok (d := e) (by omega) H_42.1 q_44) ?_
    rintro v_47 h_45 ⟨rfl, H_46⟩
    have H_46 := H_42.tr H_46
    refine wp_s 128 [some (.ref 382), some (.int x1), some (.int x2), some (.int x3), some (.int x4), some (.int z_1.1), none, none] [.long (z_43.1.toInt64), .int (7 : Int32), .ref 391] h_45 i_198_127 rfl ?_
    obtain ⟨b_48, hd⟩ := dk_if hd
    refine rq_A19 129 rfl i_198_128 H_46 b_48 (fun h_49 H_50 => ?_)
    refine wp_s 130 [some (.ref 382), some (.int x1), some (.int x2), some (.int x3), some (.int x4), some (.int z_1.1), none, none] [.ref 382] h_49 i_198_129 rfl ?_
    refine wp_s 131 [some (.ref 382), some (.int x1), some (.int x2), some (.int x3), some (.int x4), some (.int z_1.1), none, none] [.int x1, .ref 382] h_49 i_198_130 rfl ?_
    obtain ⟨z_51, q_52, hd⟩ := dk_bind hd
    refine wp_callV 134 rfl i_198_131 (by decide) rfl (vs := [.int x1]) (rest := []) rfl rfl rfl (H_50.1 0 (by decide)) (y := m_197) rfl (Nat.le_of_ble_eq_true rfl) (d_197_ok (d := e) (by omega) H_50.1 q_52) ?_
    rintro v_55 h_53 ⟨rfl, H_54⟩
    have H_54 := H_50.tr H_54
    refine wp_s 136 [some (.ref 382), some (.int x1), some (.int x2), some (.int x3), some (.int x4), some (.int z_1.1), some (.long z_51.1), none] [] h_53 i_198_134 rfl ?_
    refine wp_s 138 [some (.ref 382), some (.int x1), some (.int x2), some (.int x3), some (.int x4), some (.int z_1.1), some (.long z_51.1), none] [.long z_51.1] h_53 i_198_136 rfl ?_
    refine wp_s 139 [some (.ref 382), some (.int x1), some (.int x2), some (.int x3), some (.int x4), some (.int z_1.1), some (.long z_51.1), none] [.long (1 : Int64), .long z_51.1] h_53 i_198_138 rfl ?_
    refine wp_s 140 [some (.ref 382), some (.int x1), some (.int x2), some (.int x3), some (.int x4), some (.int z_1.1), some (.long z_51.1), none] [.int (lg_cmp z_51.1 (1 : Int64))] h_53 i_198_139 rfl ?_
    refine wp_if_ge 147 143 rfl rfl i_198_140 (fun c_56 => ?_) (fun c_56 => ?_)
    · rw [if_pos c_56] at hd
      refine wp_s 149 [some (.ref 382), some (.int x1), some (.int x2), some (.int x3), some (.int x4), some (.int z_1.1), some (.long z_51.1), none] [.long z_51.1] h_53 i_198_147 rfl ?_
      refine wp_s 152 [some (.ref 382), some (.int x1), some (.int x2), some (.int x3), some (.int x4), some (.int z_1.1), some (.long z_51.1), none] [.long (9999 : Int64), .long z_51.1] h_53 i_198_149 rfl ?_
      refine wp_s 153 [some (.ref 382), some (.int x1), some (.int x2), some (.int x3), some (.int x4), some (.int z_1.1), some (.long z_51.1), none] [.int (lg_cmp z_51.1 (9999 : Int64))] h_53 i_198_152 rfl ?_
      refine wp_if_le 162 156 rfl rfl i_198_153 (fun c_57 => ?_) (fun c_57 => ?_)
      · rw [if_pos c_57] at hd
        refine wp_s 164 [some (.ref 382), some (.int x1), some (.int x2), some (.int x3), some (.int x4), some (.int z_1.1), some (.long z_51.1), none] [.long z_51.1] h_53 i_198_162 rfl ?_
        refine wp_s 165 [some (.ref 382), some (.int x1), some (.int x2), some (.int x3), some (.int x4), some (.int z_1.1), some (.long z_51.1), none] [.int (z_51.1.toInt32)] h_53 i_198_164 rfl ?_
        obtain rfl := Option.some.inj hd
        exact wp_iret i_198_165 ⟨rfl, H_54⟩
      · rw [if_neg c_57] at hd
        refine wp_s 159 [some (.ref 382), some (.int x1), some (.int x2), some (.int x3), some (.int x4), some (.int z_1.1), some (.long z_51.1), none] [.int (9999 : Int32)] h_53 i_198_156 rfl ?_
        refine wp_s 165 [some (.ref 382), some (.int x1), some (.int x2), some (.int x3), some (.int x4), some (.int z_1.1), some (.long z_51.1), none] [.int (9999 : Int32)] h_53 i_198_159 rfl ?_
        obtain rfl := Option.some.inj hd
        exact wp_iret i_198_165 ⟨rfl, H_54⟩
    · rw [if_neg c_56] at hd
      refine wp_s 144 [some (.ref 382), some (.int x1), some (.int x2), some (.int x3), some (.int x4), some (.int z_1.1), some (.long z_51.1), none] [.int (1 : Int32)] h_53 i_198_143 rfl ?_
      refine wp_s 165 [some (.ref 382), some (.int x1), some (.int x2), some (.int x3), some (.int x4), some (.int z_1.1), some (.long z_51.1), none] [.int (1 : Int32)] h_53 i_198_144 rfl ?_
      obtain rfl := Option.some.inj hd
      exact wp_iret i_198_165 ⟨rfl, H_54⟩
  · rw [if_neg c_6] at hd
    refine wp_s 12 [some (.ref 382), some (.int x1), some (.int x2), some (.int x3), some (.int x4), some (.int z_1.1), none, none] [.ref 382] h_3 i_198_11 rfl ?_
    refine wp_s 13 [some (.ref 382), some (.int x1), some (.int x2), some (.int x3), some (.int x4), some (.int z_1.1), none, none] [.int x2, .ref 382] h_3 i_198_12 rfl ?_
    obtain ⟨z_58, q_59, hd⟩ := dk_bind hd
    refine wp_callV 16 rfl i_198_13 (by decide) rfl (vs := [.int x2]) (rest := []) rfl rfl rfl (H_4.1 0 (by decide)) (y := m_192) rfl (Nat.le_of_ble_eq_true rfl) (d_192_ok (d := e) (by omega) H_4.1 q_59) ?_
    rintro v_62 h_60 ⟨rfl, H_61⟩
    have H_61 := H_4.tr H_61
    refine wp_s 17 [some (.ref 382), some (.int x1), some (.int x2), some (.int x3), some (.int x4), some (.int z_1.1), none, none] [.ref 382, .int z_58.1] h_60 i_198_16 rfl ?_
    refine wp_s 18 [some (.ref 382), some (.int x1), some (.int x2), some (.int x3), some (.int x4), some (.int z_1.1), none, none] [.int x2, .ref 382, .int z_58.1] h_60 i_198_17 rfl ?_
    obtain ⟨z_63, q_64, hd⟩ := dk_bind hd
    refine wp_callV 21 rfl i_198_18 (by decide) rfl (vs := [.int x2]) (rest := [.int z_58.1]) rfl rfl rfl (H_61.1 0 (by decide)) (y := m_192) rfl (Nat.le_of_ble_eq_true rfl) (d_192_ok (d := e) (by omega) H_61.1 q_64) ?_
    rintro v_67 h_65 ⟨rfl, H_66⟩
    have H_66 := H_61.tr H_66
    refine wp_s 23 [some (.ref 382), some (.int x1), some (.int x2), some (.int x3), some (.int x4), some (.int z_1.1), none, none] [.int z_1.1, .int z_63.1, .int z_58.1] h_65 i_198_21 rfl ?_
    refine wp_s 24 [some (.ref 382), some (.int x1), some (.int x2), some (.int x3), some (.int x4), some (.int z_1.1), none, none] [.int (z_63.1 * z_1.1), .int z_58.1] h_65 i_198_23 rfl ?_
    refine wp_s 26 [some (.ref 382), some (.int x1), some (.int x2), some (.int x3), some (.int x4), some (.int z_1.1), none, none] [.int (100 : Int32), .int (z_63.1 * z_1.1), .int z_58.1] h_65 i_198_24 rfl ?_
    obtain ⟨b_68, hd⟩ := dk_if hd
    refine wp_idiv 27 rfl i_198_26 b_68 ?_
    refine wp_s 28 [some (.ref 382), some (.int x1), some (.int x2), some (.int x3), some (.int x4), some (.int z_1.1), none, none] [.int (z_58.1 - ((z_63.1 * z_1.1) / (100 : Int32)))] h_65 i_198_27 rfl ?_
    refine wp_s 30 [some (.ref 382), some (.int x1), some (.int x2), some (.int x3), some (.int x4), some (.int z_1.1), some (.int (z_58.1 - ((z_63.1 * z_1.1) / (100 : Int32)))), none] [] h_65 i_198_28 rfl ?_
    refine wp_s 32 [some (.ref 382), some (.int x1), some (.int x2), some (.int x3), some (.int x4), some (.int z_1.1), some (.int (z_58.1 - ((z_63.1 * z_1.1) / (100 : Int32)))), none] [.int (z_58.1 - ((z_63.1 * z_1.1) / (100 : Int32)))] h_65 i_198_30 rfl ?_
    refine wp_s 33 [some (.ref 382), some (.int x1), some (.int x2), some (.int x3), some (.int x4), some (.int z_1.1), some (.int (z_58.1 - ((z_63.1 * z_1.1) / (100 : Int32)))), none] [.int (1 : Int32), .int (z_58.1 - ((z_63.1 * z_1.1) / (100 : Int32)))] h_65 i_198_32 rfl ?_
    refine wp_cmp_ge 40 36 rfl rfl i_198_33 (fun c_69 => ?_) (fun c_69 => ?_)
    · rw [if_pos c_69] at hd
      refine wp_s 42 [some (.ref 382), some (.int x1), some (.int x2), some (.int x3), some (.int x4), some (.int z_1.1), some (.int (z_58.1 - ((z_63.1 * z_1.1) / (100 : Int32)))), none] [.int (z_58.1 - ((z_63.1 * z_1.1) / (100 : Int32)))] h_65 i_198_40 rfl ?_
      obtain rfl := Option.some.inj hd
      exact wp_iret i_198_42 ⟨rfl, H_66⟩
    · rw [if_neg c_69] at hd
      refine wp_s 37 [some (.ref 382), some (.int x1), some (.int x2), some (.int x3), some (.int x4), some (.int z_1.1), some (.int (z_58.1 - ((z_63.1 * z_1.1) / (100 : Int32)))), none] [.int (1 : Int32)] h_65 i_198_36 rfl ?_
      refine wp_s 42 [some (.ref 382), some (.int x1), some (.int x2), some (.int x3), some (.int x4), some (.int z_1.1), some (.int (z_58.1 - ((z_63.1 * z_1.1) / (100 : Int32)))), none] [.int (1 : Int32)] h_65 i_198_37 rfl ?_
      obtain rfl := Option.some.inj hd
      exact wp_iret i_198_42 ⟨rfl, H_66⟩
