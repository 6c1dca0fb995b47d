theorem i_241_0 : aIns 241 0 = some (.iconst 0, 1, 0, 0, .int (0)) := by decide +kernel
theorem i_241_1 : aIns 241 1 = some (.istore_n 1, 1, 0, 0, .null) := by decide +kernel
theorem i_241_2 : aIns 241 2 = some (.iconst 0, 1, 0, 0, .int (0)) := by decide +kernel
theorem i_241_3 : aIns 241 3 = some (.istore_n 2, 1, 0, 0, .null) := by decide +kernel
theorem i_241_4 : aIns 241 4 = some (.iload_n 2, 1, 0, 0, .null) := by decide +kernel
theorem i_241_5 : aIns 241 5 = some (.aload_n 0, 1, 0, 0, .null) := by decide +kernel
theorem i_241_6 : aIns 241 6 = some (.getfield 39, 3, 12, 20, .null) := by decide +kernel
theorem i_241_9 : aIns 241 9 = some (.iconst 2, 1, 0, 0, .int (2)) := by decide +kernel
theorem i_241_10 : aIns 241 10 = some (.iaload, 1, 0, 0, .null) := by decide +kernel
theorem i_241_11 : aIns 241 11 = some (.if_icmp .ge 92, 3, 0, 0, .null) := by decide +kernel
theorem i_241_14 : aIns 241 14 = some (.aload_n 0, 1, 0, 0, .null) := by decide +kernel
theorem i_241_15 : aIns 241 15 = some (.getfield 61, 3, 12, 33, .null) := by decide +kernel
theorem i_241_18 : aIns 241 18 = some (.iload_n 2, 1, 0, 0, .null) := by decide +kernel
theorem i_241_19 : aIns 241 19 = some (.iconst 0, 1, 0, 0, .int (0)) := by decide +kernel
theorem i_241_20 : aIns 241 20 = some (.iastore, 1, 0, 0, .null) := by decide +kernel
theorem i_241_21 : aIns 241 21 = some (.iconst 0, 1, 0, 0, .int (0)) := by decide +kernel
theorem i_241_22 : aIns 241 22 = some (.istore_n 3, 1, 0, 0, .null) := by decide +kernel
theorem i_241_23 : aIns 241 23 = some (.iload_n 3, 1, 0, 0, .null) := by decide +kernel
theorem i_241_24 : aIns 241 24 = some (.aload_n 0, 1, 0, 0, .null) := by decide +kernel
theorem i_241_25 : aIns 241 25 = some (.getfield 39, 3, 12, 20, .null) := by decide +kernel
theorem i_241_28 : aIns 241 28 = some (.iconst 2, 1, 0, 0, .int (2)) := by decide +kernel
theorem i_241_29 : aIns 241 29 = some (.iaload, 1, 0, 0, .null) := by decide +kernel
theorem i_241_30 : aIns 241 30 = some (.if_icmp .ge 41, 3, 0, 0, .null) := by decide +kernel
theorem i_241_33 : aIns 241 33 = some (.aload_n 0, 1, 0, 0, .null) := by decide +kernel
theorem i_241_34 : aIns 241 34 = some (.getfield 61, 3, 12, 33, .null) := by decide +kernel
theorem i_241_37 : aIns 241 37 = some (.iload_n 2, 1, 0, 0, .null) := by decide +kernel
theorem i_241_38 : aIns 241 38 = some (.dup2, 1, 0, 0, .null) := by decide +kernel
theorem i_241_39 : aIns 241 39 = some (.iaload, 1, 0, 0, .null) := by decide +kernel
theorem i_241_40 : aIns 241 40 = some (.aload_n 0, 1, 0, 0, .null) := by decide +kernel
theorem i_241_41 : aIns 241 41 = some (.getfield 58, 3, 12, 32, .null) := by decide +kernel
theorem i_241_44 : aIns 241 44 = some (.iload_n 3, 1, 0, 0, .null) := by decide +kernel
theorem i_241_45 : aIns 241 45 = some (.iaload, 1, 0, 0, .null) := by decide +kernel
theorem i_241_46 : aIns 241 46 = some (.iload_n 2, 1, 0, 0, .null) := by decide +kernel
theorem i_241_47 : aIns 241 47 = some (.if_icmp .ne 15, 3, 0, 0, .null) := by decide +kernel
theorem i_241_50 : aIns 241 50 = some (.aload_n 0, 1, 0, 0, .null) := by decide +kernel
theorem i_241_51 : aIns 241 51 = some (.aload_n 0, 1, 0, 0, .null) := by decide +kernel
theorem i_241_52 : aIns 241 52 = some (.iload_n 3, 1, 0, 0, .null) := by decide +kernel
theorem i_241_53 : aIns 241 53 = some (.invokevirtual 438, 3, 240, 1, .int 12) := by decide +kernel
theorem i_241_56 : aIns 241 56 = some (.invokevirtual 332, 3, 200, 1, .int 12) := by decide +kernel
theorem i_241_59 : aIns 241 59 = some (.goto 4, 3, 0, 0, .null) := by decide +kernel
theorem i_241_62 : aIns 241 62 = some (.iconst 0, 1, 0, 0, .int (0)) := by decide +kernel
theorem i_241_63 : aIns 241 63 = some (.iadd, 1, 0, 0, .null) := by decide +kernel
theorem i_241_64 : aIns 241 64 = some (.iastore, 1, 0, 0, .null) := by decide +kernel
theorem i_241_65 : aIns 241 65 = some (.iinc 3 1, 3, 0, 0, .null) := by decide +kernel
theorem i_241_68 : aIns 241 68 = some (.goto (-45), 3, 0, 0, .null) := by decide +kernel
theorem i_241_71 : aIns 241 71 = some (.iload_n 1, 1, 0, 0, .null) := by decide +kernel
theorem i_241_72 : aIns 241 72 = some (.aload_n 0, 1, 0, 0, .null) := by decide +kernel
theorem i_241_73 : aIns 241 73 = some (.getfield 61, 3, 12, 33, .null) := by decide +kernel
theorem i_241_76 : aIns 241 76 = some (.iload_n 2, 1, 0, 0, .null) := by decide +kernel
theorem i_241_77 : aIns 241 77 = some (.iaload, 1, 0, 0, .null) := by decide +kernel
theorem i_241_78 : aIns 241 78 = some (.ifCond .ne 7, 3, 0, 0, .null) := by decide +kernel
theorem i_241_81 : aIns 241 81 = some (.iconst 0, 1, 0, 0, .int (0)) := by decide +kernel
theorem i_241_82 : aIns 241 82 = some (.goto 13, 3, 0, 0, .null) := by decide +kernel
theorem i_241_85 : aIns 241 85 = some (.aload_n 0, 1, 0, 0, .null) := by decide +kernel
theorem i_241_86 : aIns 241 86 = some (.aload_n 0, 1, 0, 0, .null) := by decide +kernel
theorem i_241_87 : aIns 241 87 = some (.getfield 61, 3, 12, 33, .null) := by decide +kernel
theorem i_241_90 : aIns 241 90 = some (.iload_n 2, 1, 0, 0, .null) := by decide +kernel
theorem i_241_91 : aIns 241 91 = some (.iaload, 1, 0, 0, .null) := by decide +kernel
theorem i_241_92 : aIns 241 92 = some (.invokevirtual 441, 3, 208, 1, .int 12) := by decide +kernel
theorem i_241_95 : aIns 241 95 = some (.iadd, 1, 0, 0, .null) := by decide +kernel
theorem i_241_96 : aIns 241 96 = some (.istore_n 1, 1, 0, 0, .null) := by decide +kernel
theorem i_241_97 : aIns 241 97 = some (.iinc 2 1, 3, 0, 0, .null) := by decide +kernel
theorem i_241_100 : aIns 241 100 = some (.goto (-96), 3, 0, 0, .null) := by decide +kernel
theorem i_241_103 : aIns 241 103 = some (.iload_n 1, 1, 0, 0, .null) := by decide +kernel
theorem i_241_104 : aIns 241 104 = some (.ireturn, 1, 0, 0, .null) := by decide +kernel
theorem i_242_0 : aIns 242 0 = some (.aload_n 0, 1, 0, 0, .null) := by decide +kernel
theorem i_242_1 : aIns 242 1 = some (.getfield 408, 3, 12, 29, .null) := by decide +kernel
theorem i_242_4 : aIns 242 4 = some (.ifCond .lt 12, 3, 0, 0, .null) := by decide +kernel
theorem i_242_7 : aIns 242 7 = some (.iload_n 1, 1, 0, 0, .null) := by decide +kernel
theorem i_242_8 : aIns 242 8 = some (.aload_n 0, 1, 0, 0, .null) := by decide +kernel
theorem i_242_9 : aIns 242 9 = some (.getfield 411, 3, 12, 30, .null) := by decide +kernel
theorem i_242_12 : aIns 242 12 = some (.if_icmp .lt 4, 3, 0, 0, .null) := by decide +kernel
theorem i_242_15 : aIns 242 15 = some (.return_, 1, 0, 0, .null) := by decide +kernel
theorem i_242_16 : aIns 242 16 = some (.aload_n 0, 1, 0, 0, .null) := by decide +kernel
theorem i_242_17 : aIns 242 17 = some (.aload_n 0, 1, 0, 0, .null) := by decide +kernel
theorem i_242_18 : aIns 242 18 = some (.getfield 39, 3, 12, 20, .null) := by decide +kernel
theorem i_242_21 : aIns 242 21 = some (.iconst 2, 1, 0, 0, .int (2)) := by decide +kernel
theorem i_242_22 : aIns 242 22 = some (.iaload, 1, 0, 0, .null) := by decide +kernel
theorem i_242_23 : aIns 242 23 = some (.putfield 408, 3, 12, 29, .null) := by decide +kernel
theorem i_242_26 : aIns 242 26 = some (.aload_n 0, 1, 0, 0, .null) := by decide +kernel
theorem i_242_27 : aIns 242 27 = some (.iload_n 1, 1, 0, 0, .null) := by decide +kernel
theorem i_242_28 : aIns 242 28 = some (.putfield 411, 3, 12, 30, .null) := by decide +kernel
theorem i_242_31 : aIns 242 31 = some (.iconst 0, 1, 0, 0, .int (0)) := by decide +kernel
theorem i_242_32 : aIns 242 32 = some (.istore_n 2, 1, 0, 0, .null) := by decide +kernel
theorem i_242_33 : aIns 242 33 = some (.iload_n 2, 1, 0, 0, .null) := by decide +kernel
theorem i_242_34 : aIns 242 34 = some (.aload_n 0, 1, 0, 0, .null) := by decide +kernel
theorem i_242_35 : aIns 242 35 = some (.getfield 39, 3, 12, 20, .null) := by decide +kernel
theorem i_242_38 : aIns 242 38 = some (.iconst 2, 1, 0, 0, .int (2)) := by decide +kernel
theorem i_242_39 : aIns 242 39 = some (.iaload, 1, 0, 0, .null) := by decide +kernel
theorem i_242_40 : aIns 242 40 = some (.if_icmp .ge 21, 3, 0, 0, .null) := by decide +kernel
theorem i_242_43 : aIns 242 43 = some (.aload_n 0, 1, 0, 0, .null) := by decide +kernel
theorem i_242_44 : aIns 242 44 = some (.getfield 52, 3, 12, 28, .null) := by decide +kernel
theorem i_242_47 : aIns 242 47 = some (.iload_n 2, 1, 0, 0, .null) := by decide +kernel
theorem i_242_48 : aIns 242 48 = some (.aload_n 0, 1, 0, 0, .null) := by decide +kernel
theorem i_242_49 : aIns 242 49 = some (.getfield 58, 3, 12, 32, .null) := by decide +kernel
theorem i_242_52 : aIns 242 52 = some (.iload_n 2, 1, 0, 0, .null) := by decide +kernel
theorem i_242_53 : aIns 242 53 = some (.iaload, 1, 0, 0, .null) := by decide +kernel
theorem i_242_54 : aIns 242 54 = some (.iastore, 1, 0, 0, .null) := by decide +kernel
theorem i_242_55 : aIns 242 55 = some (.iinc 2 1, 3, 0, 0, .null) := by decide +kernel
theorem i_242_58 : aIns 242 58 = some (.goto (-25), 3, 0, 0, .null) := by decide +kernel
theorem i_242_61 : aIns 242 61 = some (.return_, 1, 0, 0, .null) := by decide +kernel
theorem i_243_0 : aIns 243 0 = some (.iconst (-1), 1, 0, 0, .int (-1)) := by decide +kernel
theorem i_243_1 : aIns 243 1 = some (.istore_n 2, 1, 0, 0, .null) := by decide +kernel
theorem i_243_2 : aIns 243 2 = some (.iconst 0, 1, 0, 0, .int (0)) := by decide +kernel
theorem i_243_3 : aIns 243 3 = some (.istore_n 3, 1, 0, 0, .null) := by decide +kernel
theorem i_243_4 : aIns 243 4 = some (.iload_n 3, 1, 0, 0, .null) := by decide +kernel
theorem i_243_5 : aIns 243 5 = some (.iload_n 1, 1, 0, 0, .null) := by decide +kernel
theorem i_243_6 : aIns 243 6 = some (.if_icmp .ge 30, 3, 0, 0, .null) := by decide +kernel
theorem i_243_9 : aIns 243 9 = some (.aload_n 0, 1, 0, 0, .null) := by decide +kernel
theorem i_243_10 : aIns 243 10 = some (.getfield 58, 3, 12, 32, .null) := by decide +kernel
theorem i_243_13 : aIns 243 13 = some (.iload_n 3, 1, 0, 0, .null) := by decide +kernel
theorem i_243_14 : aIns 243 14 = some (.iaload, 1, 0, 0, .null) := by decide +kernel
theorem i_243_15 : aIns 243 15 = some (.iload_n 2, 1, 0, 0, .null) := by decide +kernel
theorem i_243_16 : aIns 243 16 = some (.if_icmp .le 12, 3, 0, 0, .null) := by decide +kernel
theorem i_243_19 : aIns 243 19 = some (.aload_n 0, 1, 0, 0, .null) := by decide +kernel
theorem i_243_20 : aIns 243 20 = some (.getfield 58, 3, 12, 32, .null) := by decide +kernel
theorem i_243_23 : aIns 243 23 = some (.iload_n 3, 1, 0, 0, .null) := by decide +kernel
theorem i_243_24 : aIns 243 24 = some (.iaload, 1, 0, 0, .null) := by decide +kernel
theorem i_243_25 : aIns 243 25 = some (.goto 4, 3, 0, 0, .null) := by decide +kernel
theorem i_243_28 : aIns 243 28 = some (.iload_n 2, 1, 0, 0, .null) := by decide +kernel
theorem i_243_29 : aIns 243 29 = some (.istore_n 2, 1, 0, 0, .null) := by decide +kernel
theorem i_243_30 : aIns 243 30 = some (.iinc 3 1, 3, 0, 0, .null) := by decide +kernel
theorem i_243_33 : aIns 243 33 = some (.goto (-29), 3, 0, 0, .null) := by decide +kernel
theorem i_243_36 : aIns 243 36 = some (.iload_n 2, 1, 0, 0, .null) := by decide +kernel
theorem i_243_37 : aIns 243 37 = some (.ireturn, 1, 0, 0, .null) := by decide +kernel
theorem i_244_0 : aIns 244 0 = some (.aload_n 0, 1, 0, 0, .null) := by decide +kernel
theorem i_244_1 : aIns 244 1 = some (.getfield 39, 3, 12, 20, .null) := by decide +kernel
theorem i_244_4 : aIns 244 4 = some (.iconst 2, 1, 0, 0, .int (2)) := by decide +kernel
theorem i_244_5 : aIns 244 5 = some (.iaload, 1, 0, 0, .null) := by decide +kernel
theorem i_244_6 : aIns 244 6 = some (.iconst 1, 1, 0, 0, .int (1)) := by decide +kernel
theorem i_244_7 : aIns 244 7 = some (.isub, 1, 0, 0, .null) := by decide +kernel
theorem i_244_8 : aIns 244 8 = some (.istore_n 1, 1, 0, 0, .null) := by decide +kernel
theorem i_244_9 : aIns 244 9 = some (.iload_n 1, 1, 0, 0, .null) := by decide +kernel
theorem i_244_10 : aIns 244 10 = some (.ifCond .lt 23, 3, 0, 0, .null) := by decide +kernel
theorem i_244_13 : aIns 244 13 = some (.aload_n 0, 1, 0, 0, .null) := by decide +kernel
theorem i_244_14 : aIns 244 14 = some (.getfield 58, 3, 12, 32, .null) := by decide +kernel
theorem i_244_17 : aIns 244 17 = some (.iload_n 1, 1, 0, 0, .null) := by decide +kernel
theorem i_244_18 : aIns 244 18 = some (.iaload, 1, 0, 0, .null) := by decide +kernel
theorem i_244_19 : aIns 244 19 = some (.aload_n 0, 1, 0, 0, .null) := by decide +kernel
theorem i_244_20 : aIns 244 20 = some (.iload_n 1, 1, 0, 0, .null) := by decide +kernel
theorem i_244_21 : aIns 244 21 = some (.invokevirtual 444, 3, 243, 1, .int 12) := by decide +kernel
theorem i_244_24 : aIns 244 24 = some (.if_icmp .le 9, 3, 0, 0, .null) := by decide +kernel
theorem i_244_27 : aIns 244 27 = some (.iinc 1 (-1), 3, 0, 0, .null) := by decide +kernel
theorem i_244_30 : aIns 244 30 = some (.goto (-21), 3, 0, 0, .null) := by decide +kernel
theorem i_244_33 : aIns 244 33 = some (.iload_n 1, 1, 0, 0, .null) := by decide +kernel
theorem i_244_34 : aIns 244 34 = some (.ifCond .ge 5, 3, 0, 0, .null) := by decide +kernel
theorem i_244_37 : aIns 244 37 = some (.iconst 0, 1, 0, 0, .int (0)) := by decide +kernel
theorem i_244_38 : aIns 244 38 = some (.ireturn, 1, 1, 0, .null) := by decide +kernel
theorem i_244_39 : aIns 244 39 = some (.aload_n 0, 1, 0, 0, .null) := by decide +kernel
theorem i_244_40 : aIns 244 40 = some (.getfield 58, 3, 12, 32, .null) := by decide +kernel
theorem i_244_43 : aIns 244 43 = some (.iload_n 1, 1, 0, 0, .null) := by decide +kernel
theorem i_244_44 : aIns 244 44 = some (.dup2, 1, 0, 0, .null) := by decide +kernel
theorem i_244_45 : aIns 244 45 = some (.iaload, 1, 0, 0, .null) := by decide +kernel
theorem i_244_46 : aIns 244 46 = some (.iconst 1, 1, 0, 0, .int (1)) := by decide +kernel
theorem i_244_47 : aIns 244 47 = some (.iadd, 1, 0, 0, .null) := by decide +kernel
theorem i_244_48 : aIns 244 48 = some (.iastore, 1, 0, 0, .null) := by decide +kernel
theorem i_244_49 : aIns 244 49 = some (.iload_n 1, 1, 0, 0, .null) := by decide +kernel
theorem i_244_50 : aIns 244 50 = some (.iconst 1, 1, 0, 0, .int (1)) := by decide +kernel
theorem i_244_51 : aIns 244 51 = some (.iadd, 1, 0, 0, .null) := by decide +kernel
theorem i_244_52 : aIns 244 52 = some (.istore_n 2, 1, 0, 0, .null) := by decide +kernel
theorem i_244_53 : aIns 244 53 = some (.iload_n 2, 1, 0, 0, .null) := by decide +kernel
theorem i_244_54 : aIns 244 54 = some (.aload_n 0, 1, 0, 0, .null) := by decide +kernel
theorem i_244_55 : aIns 244 55 = some (.getfield 39, 3, 12, 20, .null) := by decide +kernel
theorem i_244_58 : aIns 244 58 = some (.iconst 2, 1, 0, 0, .int (2)) := by decide +kernel
theorem i_244_59 : aIns 244 59 = some (.iaload, 1, 0, 0, .null) := by decide +kernel
theorem i_244_60 : aIns 244 60 = some (.if_icmp .ge 16, 3, 0, 0, .null) := by decide +kernel
theorem i_244_63 : aIns 244 63 = some (.aload_n 0, 1, 0, 0, .null) := by decide +kernel
theorem i_244_64 : aIns 244 64 = some (.getfield 58, 3, 12, 32, .null) := by decide +kernel
theorem i_244_67 : aIns 244 67 = some (.iload_n 2, 1, 0, 0, .null) := by decide +kernel
theorem i_244_68 : aIns 244 68 = some (.iconst 0, 1, 0, 0, .int (0)) := by decide +kernel
theorem i_244_69 : aIns 244 69 = some (.iastore, 1, 0, 0, .null) := by decide +kernel
theorem i_244_70 : aIns 244 70 = some (.iinc 2 1, 3, 0, 0, .null) := by decide +kernel
theorem i_244_73 : aIns 244 73 = some (.goto (-20), 3, 0, 0, .null) := by decide +kernel
theorem i_244_76 : aIns 244 76 = some (.iconst 1, 1, 0, 0, .int (1)) := by decide +kernel
theorem i_244_77 : aIns 244 77 = some (.ireturn, 1, 1, 0, .null) := by decide +kernel
theorem i_245_0 : aIns 245 0 = some (.aload_n 0, 1, 0, 0, .null) := by decide +kernel
theorem i_245_1 : aIns 245 1 = some (.invokevirtual 374, 3, 187, 0, .int 12) := by decide +kernel
theorem i_245_4 : aIns 245 4 = some (.ifCond .eq 15, 3, 0, 0, .null) := by decide +kernel
theorem i_245_7 : aIns 245 7 = some (.iload_n 1, 1, 0, 0, .null) := by decide +kernel
theorem i_245_8 : aIns 245 8 = some (.i2l, 1, 0, 0, .null) := by decide +kernel
theorem i_245_9 : aIns 245 9 = some (.lconst 0, 1, 0, 0, .long 0) := by decide +kernel
theorem i_245_10 : aIns 245 10 = some (.ldc2_w 447, 3, 0, 0, .long (7)) := by decide +kernel
theorem i_245_13 : aIns 245 13 = some (.invokestatic 124, 3, 140, 3, .null) := by decide +kernel
theorem i_245_16 : aIns 245 16 = some (.ifCond .ne 6, 3, 0, 0, .null) := by decide +kernel
theorem i_245_19 : aIns 245 19 = some (.bipush (-3), 2, 0, 0, .int (-3)) := by decide +kernel
theorem i_245_21 : aIns 245 21 = some (.ireturn, 1, 0, 0, .null) := by decide +kernel
theorem i_245_22 : aIns 245 22 = some (.aload_n 0, 1, 0, 0, .null) := by decide +kernel
theorem i_245_23 : aIns 245 23 = some (.iconst (-1), 1, 0, 0, .int (-1)) := by decide +kernel
theorem i_245_24 : aIns 245 24 = some (.putfield 408, 3, 12, 29, .null) := by decide +kernel
theorem i_245_27 : aIns 245 27 = some (.iconst 0, 1, 0, 0, .int (0)) := by decide +kernel
theorem i_245_28 : aIns 245 28 = some (.istore_n 2, 1, 0, 0, .null) := by decide +kernel
theorem i_245_29 : aIns 245 29 = some (.iload_n 2, 1, 0, 0, .null) := by decide +kernel
theorem i_245_30 : aIns 245 30 = some (.aload_n 0, 1, 0, 0, .null) := by decide +kernel
theorem i_245_31 : aIns 245 31 = some (.getfield 39, 3, 12, 20, .null) := by decide +kernel
theorem i_245_34 : aIns 245 34 = some (.iconst 2, 1, 0, 0, .int (2)) := by decide +kernel
theorem i_245_35 : aIns 245 35 = some (.iaload, 1, 0, 0, .null) := by decide +kernel
theorem i_245_36 : aIns 245 36 = some (.if_icmp .ge 16, 3, 0, 0, .null) := by decide +kernel
theorem i_245_39 : aIns 245 39 = some (.aload_n 0, 1, 0, 0, .null) := by decide +kernel
theorem i_245_40 : aIns 245 40 = some (.getfield 58, 3, 12, 32, .null) := by decide +kernel
theorem i_245_43 : aIns 245 43 = some (.iload_n 2, 1, 0, 0, .null) := by decide +kernel
theorem i_245_44 : aIns 245 44 = some (.iconst 0, 1, 0, 0, .int (0)) := by decide +kernel
theorem i_245_45 : aIns 245 45 = some (.iastore, 1, 0, 0, .null) := by decide +kernel
theorem i_245_46 : aIns 245 46 = some (.iinc 2 1, 3, 0, 0, .null) := by decide +kernel
theorem i_245_49 : aIns 245 49 = some (.goto (-20), 3, 0, 0, .null) := by decide +kernel
theorem i_245_52 : aIns 245 52 = some (.iconst 1, 1, 0, 0, .int (1)) := by decide +kernel
theorem i_245_53 : aIns 245 53 = some (.istore_n 2, 1, 0, 0, .null) := by decide +kernel
theorem i_245_54 : aIns 245 54 = some (.iload_n 2, 1, 0, 0, .null) := by decide +kernel
theorem i_245_55 : aIns 245 55 = some (.ifCond .eq 19, 3, 0, 0, .null) := by decide +kernel
theorem i_245_58 : aIns 245 58 = some (.aload_n 0, 1, 0, 0, .null) := by decide +kernel
theorem i_245_59 : aIns 245 59 = some (.aload_n 0, 1, 0, 0, .null) := by decide +kernel
theorem i_245_60 : aIns 245 60 = some (.invokevirtual 449, 3, 241, 0, .int 12) := by decide +kernel
theorem i_245_63 : aIns 245 63 = some (.invokevirtual 452, 3, 242, 1, .int 12) := by decide +kernel
theorem i_245_66 : aIns 245 66 = some (.aload_n 0, 1, 0, 0, .null) := by decide +kernel
theorem i_245_67 : aIns 245 67 = some (.invokevirtual 455, 3, 244, 0, .int 12) := by decide +kernel
theorem i_245_70 : aIns 245 70 = some (.istore_n 2, 1, 0, 0, .null) := by decide +kernel
theorem i_245_71 : aIns 245 71 = some (.goto (-17), 3, 0, 0, .null) := by decide +kernel
theorem i_245_74 : aIns 245 74 = some (.iload_n 1, 1, 0, 0, .null) := by decide +kernel
theorem i_245_75 : aIns 245 75 = some (.ifCond .ne 8, 3, 0, 0, .null) := by decide +kernel
theorem i_245_78 : aIns 245 78 = some (.aload_n 0, 1, 0, 0, .null) := by decide +kernel
theorem i_245_79 : aIns 245 79 = some (.getfield 411, 3, 12, 30, .null) := by decide +kernel
theorem i_245_82 : aIns 245 82 = some (.ireturn, 1, 0, 0, .null) := by decide +kernel
theorem i_245_83 : aIns 245 83 = some (.iload_n 1, 1, 0, 0, .null) := by decide +kernel
theorem i_245_84 : aIns 245 84 = some (.bipush 7, 2, 0, 0, .int (7)) := by decide +kernel
theorem i_245_86 : aIns 245 86 = some (.if_icmp .ge 27, 3, 0, 0, .null) := by decide +kernel
theorem i_245_89 : aIns 245 89 = some (.iload_n 1, 1, 0, 0, .null) := by decide +kernel
theorem i_245_90 : aIns 245 90 = some (.aload_n 0, 1, 0, 0, .null) := by decide +kernel
theorem i_245_91 : aIns 245 91 = some (.getfield 39, 3, 12, 20, .null) := by decide +kernel
theorem i_245_94 : aIns 245 94 = some (.iconst 2, 1, 0, 0, .int (2)) := by decide +kernel
theorem i_245_95 : aIns 245 95 = some (.iaload, 1, 0, 0, .null) := by decide +kernel
theorem i_245_96 : aIns 245 96 = some (.if_icmp .gt 14, 3, 0, 0, .null) := by decide +kernel
theorem i_245_99 : aIns 245 99 = some (.aload_n 0, 1, 0, 0, .null) := by decide +kernel
theorem i_245_100 : aIns 245 100 = some (.getfield 52, 3, 12, 28, .null) := by decide +kernel
theorem i_245_103 : aIns 245 103 = some (.iload_n 1, 1, 0, 0, .null) := by decide +kernel
theorem i_245_104 : aIns 245 104 = some (.iconst 1, 1, 0, 0, .int (1)) := by decide +kernel
theorem i_245_105 : aIns 245 105 = some (.isub, 1, 0, 0, .null) := by decide +kernel
theorem i_245_106 : aIns 245 106 = some (.iaload, 1, 0, 0, .null) := by decide +kernel
theorem i_245_107 : aIns 245 107 = some (.goto 5, 3, 0, 0, .null) := by decide +kernel
theorem i_245_110 : aIns 245 110 = some (.bipush (-2), 2, 0, 0, .int (-2)) := by decide +kernel
theorem i_245_112 : aIns 245 112 = some (.ireturn, 1, 0, 0, .null) := by decide +kernel
theorem i_245_113 : aIns 245 113 = some (.iconst (-1), 1, 0, 0, .int (-1)) := by decide +kernel
theorem i_245_114 : aIns 245 114 = some (.istore_n 3, 1, 0, 0, .null) := by decide +kernel
theorem i_245_115 : aIns 245 115 = some (.iconst 0, 1, 0, 0, .int (0)) := by decide +kernel
theorem i_245_116 : aIns 245 116 = some (.istore 4, 2, 0, 0, .null) := by decide +kernel
theorem i_245_118 : aIns 245 118 = some (.iload 4, 2, 0, 0, .null) := by decide +kernel
theorem i_245_120 : aIns 245 120 = some (.aload_n 0, 1, 0, 0, .null) := by decide +kernel
theorem i_245_121 : aIns 245 121 = some (.getfield 39, 3, 12, 20, .null) := by decide +kernel
theorem i_245_124 : aIns 245 124 = some (.iconst 2, 1, 0, 0, .int (2)) := by decide +kernel
theorem i_245_125 : aIns 245 125 = some (.iaload, 1, 0, 0, .null) := by decide +kernel
theorem i_245_126 : aIns 245 126 = some (.if_icmp .ge 32, 3, 0, 0, .null) := by decide +kernel
theorem i_245_129 : aIns 245 129 = some (.aload_n 0, 1, 0, 0, .null) := by decide +kernel
theorem i_245_130 : aIns 245 130 = some (.getfield 52, 3, 12, 28, .null) := by decide +kernel
theorem i_245_133 : aIns 245 133 = some (.iload 4, 2, 0, 0, .null) := by decide +kernel
theorem i_245_135 : aIns 245 135 = some (.iaload, 1, 0, 0, .null) := by decide +kernel
theorem i_245_136 : aIns 245 136 = some (.iload_n 3, 1, 0, 0, .null) := by decide +kernel
theorem i_245_137 : aIns 245 137 = some (.if_icmp .le 13, 3, 0, 0, .null) := by decide +kernel
theorem i_245_140 : aIns 245 140 = some (.aload_n 0, 1, 0, 0, .null) := by decide +kernel
theorem i_245_141 : aIns 245 141 = some (.getfield 52, 3, 12, 28, .null) := by decide +kernel
theorem i_245_144 : aIns 245 144 = some (.iload 4, 2, 0, 0, .null) := by decide +kernel
theorem i_245_146 : aIns 245 146 = some (.iaload, 1, 0, 0, .null) := by decide +kernel
theorem i_245_147 : aIns 245 147 = some (.goto 4, 3, 0, 0, .null) := by decide +kernel
theorem i_245_150 : aIns 245 150 = some (.iload_n 3, 1, 0, 0, .null) := by decide +kernel
theorem i_245_151 : aIns 245 151 = some (.istore_n 3, 1, 0, 0, .null) := by decide +kernel
theorem i_245_152 : aIns 245 152 = some (.iinc 4 1, 3, 0, 0, .null) := by decide +kernel
theorem i_245_155 : aIns 245 155 = some (.goto (-37), 3, 0, 0, .null) := by decide +kernel
theorem i_245_158 : aIns 245 158 = some (.iload_n 3, 1, 0, 0, .null) := by decide +kernel
theorem i_245_159 : aIns 245 159 = some (.iconst 1, 1, 0, 0, .int (1)) := by decide +kernel
theorem i_245_160 : aIns 245 160 = some (.iadd, 1, 0, 0, .null) := by decide +kernel
theorem i_245_161 : aIns 245 161 = some (.ireturn, 1, 0, 0, .null) := by decide +kernel
theorem i_246_0 : aIns 246 0 = some (.aload_n 0, 1, 0, 0, .null) := by decide +kernel
theorem i_246_1 : aIns 246 1 = some (.getfield 39, 3, 12, 20, .null) := by decide +kernel
theorem i_246_4 : aIns 246 4 = some (.bipush 96, 2, 0, 0, .int (96)) := by decide +kernel
theorem i_246_6 : aIns 246 6 = some (.iconst 2, 1, 0, 0, .int (2)) := by decide +kernel
theorem i_246_7 : aIns 246 7 = some (.iload_n 1, 1, 0, 0, .null) := by decide +kernel
theorem i_246_8 : aIns 246 8 = some (.imul, 1, 0, 0, .null) := by decide +kernel
theorem i_246_9 : aIns 246 9 = some (.iadd, 1, 0, 0, .null) := by decide +kernel
theorem i_246_10 : aIns 246 10 = some (.iconst 1, 1, 0, 0, .int (1)) := by decide +kernel
theorem i_246_11 : aIns 246 11 = some (.iadd, 1, 0, 0, .null) := by decide +kernel
theorem i_246_12 : aIns 246 12 = some (.iaload, 1, 0, 0, .null) := by decide +kernel
theorem i_246_13 : aIns 246 13 = some (.aload_n 0, 1, 0, 0, .null) := by decide +kernel
theorem i_246_14 : aIns 246 14 = some (.getfield 39, 3, 12, 20, .null) := by decide +kernel
theorem i_246_17 : aIns 246 17 = some (.bipush 7, 2, 0, 0, .int (7)) := by decide +kernel
theorem i_246_19 : aIns 246 19 = some (.iaload, 1, 0, 0, .null) := by decide +kernel
theorem i_246_20 : aIns 246 20 = some (.isub, 1, 0, 0, .null) := by decide +kernel
theorem i_246_21 : aIns 246 21 = some (.istore_n 2, 1, 0, 0, .null) := by decide +kernel
theorem i_246_22 : aIns 246 22 = some (.iload_n 2, 1, 0, 0, .null) := by decide +kernel
theorem i_246_23 : aIns 246 23 = some (.ifCond .ge 7, 3, 0, 0, .null) := by decide +kernel
theorem i_246_26 : aIns 246 26 = some (.iconst 0, 1, 0, 0, .int (0)) := by decide +kernel
theorem i_246_27 : aIns 246 27 = some (.goto 13, 3, 0, 0, .null) := by decide +kernel
theorem i_246_30 : aIns 246 30 = some (.iload_n 2, 1, 0, 0, .null) := by decide +kernel
theorem i_246_31 : aIns 246 31 = some (.iconst 4, 1, 0, 0, .int (4)) := by decide +kernel
theorem i_246_32 : aIns 246 32 = some (.if_icmp .le 7, 3, 0, 0, .null) := by decide +kernel
theorem i_246_35 : aIns 246 35 = some (.iconst 4, 1, 0, 0, .int (4)) := by decide +kernel
theorem i_246_36 : aIns 246 36 = some (.goto 4, 3, 0, 0, .null) := by decide +kernel
theorem i_246_39 : aIns 246 39 = some (.iload_n 2, 1, 0, 0, .null) := by decide +kernel
theorem i_246_40 : aIns 246 40 = some (.ireturn, 1, 0, 0, .null) := by decide +kernel
theorem i_247_0 : aIns 247 0 = some (.iconst 0, 1, 0, 0, .int (0)) := by decide +kernel
theorem i_247_1 : aIns 247 1 = some (.istore_n 1, 1, 0, 0, .null) := by decide +kernel
theorem i_247_2 : aIns 247 2 = some (.iconst 0, 1, 0, 0, .int (0)) := by decide +kernel
theorem i_247_3 : aIns 247 3 = some (.istore_n 2, 1, 0, 0, .null) := by decide +kernel
theorem i_247_4 : aIns 247 4 = some (.iload_n 2, 1, 0, 0, .null) := by decide +kernel
theorem i_247_5 : aIns 247 5 = some (.iconst 5, 1, 0, 0, .int (5)) := by decide +kernel
theorem i_247_6 : aIns 247 6 = some (.if_icmp .ge 84, 3, 0, 0, .null) := by decide +kernel
theorem i_247_9 : aIns 247 9 = some (.iconst 0, 1, 0, 0, .int (0)) := by decide +kernel
theorem i_247_10 : aIns 247 10 = some (.istore_n 3, 1, 0, 0, .null) := by decide +kernel
theorem i_247_11 : aIns 247 11 = some (.iconst 0, 1, 0, 0, .int (0)) := by decide +kernel
theorem i_247_12 : aIns 247 12 = some (.istore 4, 2, 0, 0, .null) := by decide +kernel
theorem i_247_14 : aIns 247 14 = some (.iload 4, 2, 0, 0, .null) := by decide +kernel
theorem i_247_16 : aIns 247 16 = some (.aload_n 0, 1, 0, 0, .null) := by decide +kernel
theorem i_247_17 : aIns 247 17 = some (.getfield 39, 3, 12, 20, .null) := by decide +kernel
theorem i_247_20 : aIns 247 20 = some (.iconst 2, 1, 0, 0, .int (2)) := by decide +kernel
theorem i_247_21 : aIns 247 21 = some (.iaload, 1, 0, 0, .null) := by decide +kernel
theorem i_247_22 : aIns 247 22 = some (.if_icmp .ge 46, 3, 0, 0, .null) := by decide +kernel
theorem i_247_25 : aIns 247 25 = some (.iload_n 3, 1, 0, 0, .null) := by decide +kernel
theorem i_247_26 : aIns 247 26 = some (.aload_n 0, 1, 0, 0, .null) := by decide +kernel
theorem i_247_27 : aIns 247 27 = some (.getfield 58, 3, 12, 32, .null) := by decide +kernel
theorem i_247_30 : aIns 247 30 = some (.iload 4, 2, 0, 0, .null) := by decide +kernel
theorem i_247_32 : aIns 247 32 = some (.iaload, 1, 0, 0, .null) := by decide +kernel
theorem i_247_33 : aIns 247 33 = some (.iload_n 2, 1, 0, 0, .null) := by decide +kernel
theorem i_247_34 : aIns 247 34 = some (.if_icmp .ne 25, 3, 0, 0, .null) := by decide +kernel
theorem i_247_37 : aIns 247 37 = some (.aload_n 0, 1, 0, 0, .null) := by decide +kernel
theorem i_247_38 : aIns 247 38 = some (.aload_n 0, 1, 0, 0, .null) := by decide +kernel
theorem i_247_39 : aIns 247 39 = some (.iload 4, 2, 0, 0, .null) := by decide +kernel
theorem i_247_41 : aIns 247 41 = some (.invokevirtual 438, 3, 240, 1, .int 12) := by decide +kernel
theorem i_247_44 : aIns 247 44 = some (.aload_n 0, 1, 0, 0, .null) := by decide +kernel
theorem i_247_45 : aIns 247 45 = some (.getfield 39, 3, 12, 20, .null) := by decide +kernel
theorem i_247_48 : aIns 247 48 = some (.bipush 7, 2, 0, 0, .int (7)) := by decide +kernel
theorem i_247_50 : aIns 247 50 = some (.iaload, 1, 0, 0, .null) := by decide +kernel
theorem i_247_51 : aIns 247 51 = some (.iload_n 2, 1, 0, 0, .null) := by decide +kernel
theorem i_247_52 : aIns 247 52 = some (.iadd, 1, 0, 0, .null) := by decide +kernel
theorem i_247_53 : aIns 247 53 = some (.invokevirtual 326, 3, 199, 2, .int 12) := by decide +kernel
theorem i_247_56 : aIns 247 56 = some (.goto 4, 3, 0, 0, .null) := by decide +kernel
theorem i_247_59 : aIns 247 59 = some (.iconst 0, 1, 0, 0, .int (0)) := by decide +kernel
theorem i_247_60 : aIns 247 60 = some (.iadd, 1, 0, 0, .null) := by decide +kernel
theorem i_247_61 : aIns 247 61 = some (.istore_n 3, 1, 0, 0, .null) := by decide +kernel
theorem i_247_62 : aIns 247 62 = some (.iinc 4 1, 3, 0, 0, .null) := by decide +kernel
theorem i_247_65 : aIns 247 65 = some (.goto (-51), 3, 0, 0, .null) := by decide +kernel
theorem i_247_68 : aIns 247 68 = some (.iload_n 1, 1, 0, 0, .null) := by decide +kernel
theorem i_247_69 : aIns 247 69 = some (.iload_n 3, 1, 0, 0, .null) := by decide +kernel
theorem i_247_70 : aIns 247 70 = some (.ifCond .ne 7, 3, 0, 0, .null) := by decide +kernel
theorem i_247_73 : aIns 247 73 = some (.iconst 0, 1, 0, 0, .int (0)) := by decide +kernel
theorem i_247_74 : aIns 247 74 = some (.goto 8, 3, 0, 0, .null) := by decide +kernel
theorem i_247_77 : aIns 247 77 = some (.aload_n 0, 1, 0, 0, .null) := by decide +kernel
theorem i_247_78 : aIns 247 78 = some (.iload_n 3, 1, 0, 0, .null) := by decide +kernel
theorem i_247_79 : aIns 247 79 = some (.invokevirtual 441, 3, 208, 1, .int 12) := by decide +kernel
theorem i_247_82 : aIns 247 82 = some (.iadd, 1, 0, 0, .null) := by decide +kernel
theorem i_247_83 : aIns 247 83 = some (.istore_n 1, 1, 0, 0, .null) := by decide +kernel
theorem i_247_84 : aIns 247 84 = some (.iinc 2 1, 3, 0, 0, .null) := by decide +kernel
theorem i_247_87 : aIns 247 87 = some (.goto (-83), 3, 0, 0, .null) := by decide +kernel
theorem i_247_90 : aIns 247 90 = some (.iload_n 1, 1, 0, 0, .null) := by decide +kernel
theorem i_247_91 : aIns 247 91 = some (.ireturn, 1, 0, 0, .null) := by decide +kernel
theorem i_248_0 : aIns 248 0 = some (.aload_n 0, 1, 0, 0, .null) := by decide +kernel
theorem i_248_1 : aIns 248 1 = some (.getfield 39, 3, 12, 20, .null) := by decide +kernel
theorem i_248_4 : aIns 248 4 = some (.iconst 2, 1, 0, 0, .int (2)) := by decide +kernel
theorem i_248_5 : aIns 248 5 = some (.iaload, 1, 0, 0, .null) := by decide +kernel
theorem i_248_6 : aIns 248 6 = some (.iconst 1, 1, 0, 0, .int (1)) := by decide +kernel
theorem i_248_7 : aIns 248 7 = some (.isub, 1, 0, 0, .null) := by decide +kernel
theorem i_248_8 : aIns 248 8 = some (.istore_n 1, 1, 0, 0, .null) := by decide +kernel
theorem i_248_9 : aIns 248 9 = some (.iload_n 1, 1, 0, 0, .null) := by decide +kernel
theorem i_248_10 : aIns 248 10 = some (.ifCond .lt 23, 3, 0, 0, .null) := by decide +kernel
theorem i_248_13 : aIns 248 13 = some (.aload_n 0, 1, 0, 0, .null) := by decide +kernel
theorem i_248_14 : aIns 248 14 = some (.getfield 58, 3, 12, 32, .null) := by decide +kernel
theorem i_248_17 : aIns 248 17 = some (.iload_n 1, 1, 0, 0, .null) := by decide +kernel
theorem i_248_18 : aIns 248 18 = some (.iaload, 1, 0, 0, .null) := by decide +kernel
theorem i_248_19 : aIns 248 19 = some (.aload_n 0, 1, 0, 0, .null) := by decide +kernel
theorem i_248_20 : aIns 248 20 = some (.iload_n 1, 1, 0, 0, .null) := by decide +kernel
theorem i_248_21 : aIns 248 21 = some (.invokevirtual 458, 3, 246, 1, .int 12) := by decide +kernel
theorem i_248_24 : aIns 248 24 = some (.if_icmp .ne 9, 3, 0, 0, .null) := by decide +kernel
theorem i_248_27 : aIns 248 27 = some (.iinc 1 (-1), 3, 0, 0, .null) := by decide +kernel
theorem i_248_30 : aIns 248 30 = some (.goto (-21), 3, 0, 0, .null) := by decide +kernel
theorem i_248_33 : aIns 248 33 = some (.iload_n 1, 1, 0, 0, .null) := by decide +kernel
theorem i_248_34 : aIns 248 34 = some (.ifCond .ge 5, 3, 0, 0, .null) := by decide +kernel
theorem i_248_37 : aIns 248 37 = some (.iconst 0, 1, 0, 0, .int (0)) := by decide +kernel
theorem i_248_38 : aIns 248 38 = some (.ireturn, 1, 1, 0, .null) := by decide +kernel
theorem i_248_39 : aIns 248 39 = some (.aload_n 0, 1, 0, 0, .null) := by decide +kernel
theorem i_248_40 : aIns 248 40 = some (.getfield 58, 3, 12, 32, .null) := by decide +kernel
theorem i_248_43 : aIns 248 43 = some (.iload_n 1, 1, 0, 0, .null) := by decide +kernel
theorem i_248_44 : aIns 248 44 = some (.dup2, 1, 0, 0, .null) := by decide +kernel
theorem i_248_45 : aIns 248 45 = some (.iaload, 1, 0, 0, .null) := by decide +kernel
theorem i_248_46 : aIns 248 46 = some (.iconst 1, 1, 0, 0, .int (1)) := by decide +kernel
theorem i_248_47 : aIns 248 47 = some (.iadd, 1, 0, 0, .null) := by decide +kernel
theorem i_248_48 : aIns 248 48 = some (.iastore, 1, 0, 0, .null) := by decide +kernel
theorem i_248_49 : aIns 248 49 = some (.iload_n 1, 1, 0, 0, .null) := by decide +kernel
theorem i_248_50 : aIns 248 50 = some (.iconst 1, 1, 0, 0, .int (1)) := by decide +kernel
theorem i_248_51 : aIns 248 51 = some (.iadd, 1, 0, 0, .null) := by decide +kernel
theorem i_248_52 : aIns 248 52 = some (.istore_n 2, 1, 0, 0, .null) := by decide +kernel
theorem i_248_53 : aIns 248 53 = some (.iload_n 2, 1, 0, 0, .null) := by decide +kernel
theorem i_248_54 : aIns 248 54 = some (.aload_n 0, 1, 0, 0, .null) := by decide +kernel
theorem i_248_55 : aIns 248 55 = some (.getfield 39, 3, 12, 20, .null) := by decide +kernel
theorem i_248_58 : aIns 248 58 = some (.iconst 2, 1, 0, 0, .int (2)) := by decide +kernel
theorem i_248_59 : aIns 248 59 = some (.iaload, 1, 0, 0, .null) := by decide +kernel
theorem i_248_60 : aIns 248 60 = some (.if_icmp .ge 16, 3, 0, 0, .null) := by decide +kernel
theorem i_248_63 : aIns 248 63 = some (.aload_n 0, 1, 0, 0, .null) := by decide +kernel
theorem i_248_64 : aIns 248 64 = some (.getfield 58, 3, 12, 32, .null) := by decide +kernel
theorem i_248_67 : aIns 248 67 = some (.iload_n 2, 1, 0, 0, .null) := by decide +kernel
theorem i_248_68 : aIns 248 68 = some (.iconst 0, 1, 0, 0, .int (0)) := by decide +kernel
theorem i_248_69 : aIns 248 69 = some (.iastore, 1, 0, 0, .null) := by decide +kernel
theorem i_248_70 : aIns 248 70 = some (.iinc 2 1, 3, 0, 0, .null) := by decide +kernel
theorem i_248_73 : aIns 248 73 = some (.goto (-20), 3, 0, 0, .null) := by decide +kernel
theorem i_248_76 : aIns 248 76 = some (.iconst 1, 1, 0, 0, .int (1)) := by decide +kernel
theorem i_248_77 : aIns 248 77 = some (.ireturn, 1, 1, 0, .null) := by decide +kernel
theorem i_249_0 : aIns 249 0 = some (.aload_n 0, 1, 0, 0, .null) := by decide +kernel
theorem i_249_1 : aIns 249 1 = some (.invokevirtual 374, 3, 187, 0, .int 12) := by decide +kernel
theorem i_249_4 : aIns 249 4 = some (.ifCond .eq 15, 3, 0, 0, .null) := by decide +kernel
theorem i_249_7 : aIns 249 7 = some (.iload_n 1, 1, 0, 0, .null) := by decide +kernel
theorem i_249_8 : aIns 249 8 = some (.i2l, 1, 0, 0, .null) := by decide +kernel
theorem i_249_9 : aIns 249 9 = some (.lconst 0, 1, 0, 0, .long 0) := by decide +kernel
theorem i_249_10 : aIns 249 10 = some (.ldc2_w 461, 3, 0, 0, .long (6)) := by decide +kernel
theorem i_249_13 : aIns 249 13 = some (.invokestatic 124, 3, 140, 3, .null) := by decide +kernel
theorem i_249_16 : aIns 249 16 = some (.ifCond .ne 6, 3, 0, 0, .null) := by decide +kernel
theorem i_249_19 : aIns 249 19 = some (.bipush (-3), 2, 0, 0, .int (-3)) := by decide +kernel
theorem i_249_21 : aIns 249 21 = some (.ireturn, 1, 0, 0, .null) := by decide +kernel
theorem i_249_22 : aIns 249 22 = some (.aload_n 0, 1, 0, 0, .null) := by decide +kernel
theorem i_249_23 : aIns 249 23 = some (.iconst (-1), 1, 0, 0, .int (-1)) := by decide +kernel
theorem i_249_24 : aIns 249 24 = some (.putfield 408, 3, 12, 29, .null) := by decide +kernel
theorem i_249_27 : aIns 249 27 = some (.iconst 0, 1, 0, 0, .int (0)) := by decide +kernel
theorem i_249_28 : aIns 249 28 = some (.istore_n 2, 1, 0, 0, .null) := by decide +kernel
theorem i_249_29 : aIns 249 29 = some (.iload_n 2, 1, 0, 0, .null) := by decide +kernel
theorem i_249_30 : aIns 249 30 = some (.aload_n 0, 1, 0, 0, .null) := by decide +kernel
theorem i_249_31 : aIns 249 31 = some (.getfield 39, 3, 12, 20, .null) := by decide +kernel
theorem i_249_34 : aIns 249 34 = some (.iconst 2, 1, 0, 0, .int (2)) := by decide +kernel
theorem i_249_35 : aIns 249 35 = some (.iaload, 1, 0, 0, .null) := by decide +kernel
theorem i_249_36 : aIns 249 36 = some (.if_icmp .ge 16, 3, 0, 0, .null) := by decide +kernel
theorem i_249_39 : aIns 249 39 = some (.aload_n 0, 1, 0, 0, .null) := by decide +kernel
theorem i_249_40 : aIns 249 40 = some (.getfield 58, 3, 12, 32, .null) := by decide +kernel
theorem i_249_43 : aIns 249 43 = some (.iload_n 2, 1, 0, 0, .null) := by decide +kernel
theorem i_249_44 : aIns 249 44 = some (.iconst 0, 1, 0, 0, .int (0)) := by decide +kernel
theorem i_249_45 : aIns 249 45 = some (.iastore, 1, 0, 0, .null) := by decide +kernel
theorem i_249_46 : aIns 249 46 = some (.iinc 2 1, 3, 0, 0, .null) := by decide +kernel
theorem i_249_49 : aIns 249 49 = some (.goto (-20), 3, 0, 0, .null) := by decide +kernel
theorem i_249_52 : aIns 249 52 = some (.iconst 1, 1, 0, 0, .int (1)) := by decide +kernel
theorem i_249_53 : aIns 249 53 = some (.istore_n 2, 1, 0, 0, .null) := by decide +kernel
theorem i_249_54 : aIns 249 54 = some (.iload_n 2, 1, 0, 0, .null) := by decide +kernel
theorem i_249_55 : aIns 249 55 = some (.ifCond .eq 19, 3, 0, 0, .null) := by decide +kernel
theorem i_249_58 : aIns 249 58 = some (.aload_n 0, 1, 0, 0, .null) := by decide +kernel
theorem i_249_59 : aIns 249 59 = some (.aload_n 0, 1, 0, 0, .null) := by decide +kernel
theorem i_249_60 : aIns 249 60 = some (.invokevirtual 463, 3, 247, 0, .int 12) := by decide +kernel
theorem i_249_63 : aIns 249 63 = some (.invokevirtual 452, 3, 242, 1, .int 12) := by decide +kernel
theorem i_249_66 : aIns 249 66 = some (.aload_n 0, 1, 0, 0, .null) := by decide +kernel
theorem i_249_67 : aIns 249 67 = some (.invokevirtual 466, 3, 248, 0, .int 12) := by decide +kernel
theorem i_249_70 : aIns 249 70 = some (.istore_n 2, 1, 0, 0, .null) := by decide +kernel
theorem i_249_71 : aIns 249 71 = some (.goto (-17), 3, 0, 0, .null) := by decide +kernel
theorem i_249_74 : aIns 249 74 = some (.iload_n 1, 1, 0, 0, .null) := by decide +kernel
theorem i_249_75 : aIns 249 75 = some (.ifCond .ne 10, 3, 0, 0, .null) := by decide +kernel
theorem i_249_78 : aIns 249 78 = some (.aload_n 0, 1, 0, 0, .null) := by decide +kernel
theorem i_249_79 : aIns 249 79 = some (.getfield 411, 3, 12, 30, .null) := by decide +kernel
theorem i_249_82 : aIns 249 82 = some (.goto 26, 3, 0, 0, .null) := by decide +kernel
theorem i_249_85 : aIns 249 85 = some (.iload_n 1, 1, 0, 0, .null) := by decide +kernel
theorem i_249_86 : aIns 249 86 = some (.aload_n 0, 1, 0, 0, .null) := by decide +kernel
theorem i_249_87 : aIns 249 87 = some (.getfield 39, 3, 12, 20, .null) := by decide +kernel
theorem i_249_90 : aIns 249 90 = some (.iconst 2, 1, 0, 0, .int (2)) := by decide +kernel
theorem i_249_91 : aIns 249 91 = some (.iaload, 1, 0, 0, .null) := by decide +kernel
theorem i_249_92 : aIns 249 92 = some (.if_icmp .gt 14, 3, 0, 0, .null) := by decide +kernel
theorem i_249_95 : aIns 249 95 = some (.aload_n 0, 1, 0, 0, .null) := by decide +kernel
theorem i_249_96 : aIns 249 96 = some (.getfield 52, 3, 12, 28, .null) := by decide +kernel
theorem i_249_99 : aIns 249 99 = some (.iload_n 1, 1, 0, 0, .null) := by decide +kernel
theorem i_249_100 : aIns 249 100 = some (.iconst 1, 1, 0, 0, .int (1)) := by decide +kernel
theorem i_249_101 : aIns 249 101 = some (.isub, 1, 0, 0, .null) := by decide +kernel
theorem i_249_102 : aIns 249 102 = some (.iaload, 1, 0, 0, .null) := by decide +kernel
theorem i_249_103 : aIns 249 103 = some (.goto 5, 3, 0, 0, .null) := by decide +kernel
theorem i_249_106 : aIns 249 106 = some (.bipush (-2), 2, 0, 0, .int (-2)) := by decide +kernel
theorem i_249_108 : aIns 249 108 = some (.ireturn, 1, 0, 0, .null) := by decide +kernel
theorem i_250_0 : aIns 250 0 = some (.iconst 0, 1, 0, 0, .int (0)) := by decide +kernel
theorem i_250_1 : aIns 250 1 = some (.istore_n 1, 1, 0, 0, .null) := by decide +kernel
theorem i_250_2 : aIns 250 2 = some (.iload_n 1, 1, 0, 0, .null) := by decide +kernel
theorem i_250_3 : aIns 250 3 = some (.bipush 80, 2, 0, 0, .int (80)) := by decide +kernel
theorem i_250_5 : aIns 250 5 = some (.if_icmp .ge 21, 3, 0, 0, .null) := by decide +kernel
theorem i_250_8 : aIns 250 8 = some (.aload_n 0, 1, 0, 0, .null) := by decide +kernel
theorem i_250_9 : aIns 250 9 = some (.getfield 64, 3, 12, 34, .null) := by decide +kernel
theorem i_250_12 : aIns 250 12 = some (.iload_n 1, 1, 0, 0, .null) := by decide +kernel
theorem i_250_13 : aIns 250 13 = some (.aload_n 0, 1, 0, 0, .null) := by decide +kernel
theorem i_250_14 : aIns 250 14 = some (.getfield 39, 3, 12, 20, .null) := by decide +kernel
theorem i_250_17 : aIns 250 17 = some (.iload_n 1, 1, 0, 0, .null) := by decide +kernel
theorem i_250_18 : aIns 250 18 = some (.iaload, 1, 0, 0, .null) := by decide +kernel
theorem i_250_19 : aIns 250 19 = some (.iastore, 1, 0, 0, .null) := by decide +kernel
theorem i_250_20 : aIns 250 20 = some (.iinc 1 1, 3, 0, 0, .null) := by decide +kernel
theorem i_250_23 : aIns 250 23 = some (.goto (-21), 3, 0, 0, .null) := by decide +kernel
theorem i_250_26 : aIns 250 26 = some (.return_, 1, 0, 0, .null) := by decide +kernel
theorem i_251_0 : aIns 251 0 = some (.iconst 0, 1, 0, 0, .int (0)) := by decide +kernel
theorem i_251_1 : aIns 251 1 = some (.istore_n 1, 1, 0, 0, .null) := by decide +kernel
theorem i_251_2 : aIns 251 2 = some (.iload_n 1, 1, 0, 0, .null) := by decide +kernel
theorem i_251_3 : aIns 251 3 = some (.bipush 80, 2, 0, 0, .int (80)) := by decide +kernel
theorem i_251_5 : aIns 251 5 = some (.if_icmp .ge 21, 3, 0, 0, .null) := by decide +kernel
theorem i_251_8 : aIns 251 8 = some (.aload_n 0, 1, 0, 0, .null) := by decide +kernel
theorem i_251_9 : aIns 251 9 = some (.getfield 39, 3, 12, 20, .null) := by decide +kernel
theorem i_251_12 : aIns 251 12 = some (.iload_n 1, 1, 0, 0, .null) := by decide +kernel
theorem i_251_13 : aIns 251 13 = some (.aload_n 0, 1, 0, 0, .null) := by decide +kernel
theorem i_251_14 : aIns 251 14 = some (.getfield 64, 3, 12, 34, .null) := by decide +kernel
theorem i_251_17 : aIns 251 17 = some (.iload_n 1, 1, 0, 0, .null) := by decide +kernel
theorem i_251_18 : aIns 251 18 = some (.iaload, 1, 0, 0, .null) := by decide +kernel
theorem i_251_19 : aIns 251 19 = some (.iastore, 1, 0, 0, .null) := by decide +kernel
theorem i_251_20 : aIns 251 20 = some (.iinc 1 1, 3, 0, 0, .null) := by decide +kernel
theorem i_251_23 : aIns 251 23 = some (.goto (-21), 3, 0, 0, .null) := by decide +kernel
theorem i_251_26 : aIns 251 26 = some (.return_, 1, 0, 0, .null) := by decide +kernel
theorem i_252_0 : aIns 252 0 = some (.iconst 0, 1, 0, 0, .int (0)) := by decide +kernel
theorem i_252_1 : aIns 252 1 = some (.istore_n 1, 1, 0, 0, .null) := by decide +kernel
theorem i_252_2 : aIns 252 2 = some (.iconst 0, 1, 0, 0, .int (0)) := by decide +kernel
theorem i_252_3 : aIns 252 3 = some (.istore_n 2, 1, 0, 0, .null) := by decide +kernel
theorem i_252_4 : aIns 252 4 = some (.iload_n 2, 1, 0, 0, .null) := by decide +kernel
theorem i_252_5 : aIns 252 5 = some (.aload_n 0, 1, 0, 0, .null) := by decide +kernel
theorem i_252_6 : aIns 252 6 = some (.getfield 39, 3, 12, 20, .null) := by decide +kernel
theorem i_252_9 : aIns 252 9 = some (.iconst 1, 1, 0, 0, .int (1)) := by decide +kernel
theorem i_252_10 : aIns 252 10 = some (.iaload, 1, 0, 0, .null) := by decide +kernel
theorem i_252_11 : aIns 252 11 = some (.if_icmp .ge 41, 3, 0, 0, .null) := by decide +kernel
theorem i_252_14 : aIns 252 14 = some (.iconst 0, 1, 0, 0, .int (0)) := by decide +kernel
theorem i_252_15 : aIns 252 15 = some (.istore_n 3, 1, 0, 0, .null) := by decide +kernel
theorem i_252_16 : aIns 252 16 = some (.iload_n 3, 1, 0, 0, .null) := by decide +kernel
theorem i_252_17 : aIns 252 17 = some (.aload_n 0, 1, 0, 0, .null) := by decide +kernel
theorem i_252_18 : aIns 252 18 = some (.getfield 67, 3, 12, 35, .null) := by decide +kernel
theorem i_252_21 : aIns 252 21 = some (.iload_n 2, 1, 0, 0, .null) := by decide +kernel
theorem i_252_22 : aIns 252 22 = some (.iaload, 1, 0, 0, .null) := by decide +kernel
theorem i_252_23 : aIns 252 23 = some (.if_icmp .ge 23, 3, 0, 0, .null) := by decide +kernel
theorem i_252_26 : aIns 252 26 = some (.iload_n 1, 1, 0, 0, .null) := by decide +kernel
theorem i_252_27 : aIns 252 27 = some (.aload_n 0, 1, 0, 0, .null) := by decide +kernel
theorem i_252_28 : aIns 252 28 = some (.iload_n 2, 1, 0, 0, .null) := by decide +kernel
theorem i_252_29 : aIns 252 29 = some (.invokevirtual 402, 3, 228, 1, .int 12) := by decide +kernel
theorem i_252_32 : aIns 252 32 = some (.aload_n 0, 1, 0, 0, .null) := by decide +kernel
theorem i_252_33 : aIns 252 33 = some (.iload_n 2, 1, 0, 0, .null) := by decide +kernel
theorem i_252_34 : aIns 252 34 = some (.invokevirtual 313, 3, 193, 1, .int 12) := by decide +kernel
theorem i_252_37 : aIns 252 37 = some (.isub, 1, 0, 0, .null) := by decide +kernel
theorem i_252_38 : aIns 252 38 = some (.iadd, 1, 0, 0, .null) := by decide +kernel
theorem i_252_39 : aIns 252 39 = some (.istore_n 1, 1, 0, 0, .null) := by decide +kernel
theorem i_252_40 : aIns 252 40 = some (.iinc 3 1, 3, 0, 0, .null) := by decide +kernel
theorem i_252_43 : aIns 252 43 = some (.goto (-27), 3, 0, 0, .null) := by decide +kernel
theorem i_252_46 : aIns 252 46 = some (.iinc 2 1, 3, 0, 0, .null) := by decide +kernel
theorem i_252_49 : aIns 252 49 = some (.goto (-45), 3, 0, 0, .null) := by decide +kernel
theorem i_252_52 : aIns 252 52 = some (.aload_n 0, 1, 0, 0, .null) := by decide +kernel
theorem i_252_53 : aIns 252 53 = some (.invokevirtual 469, 3, 251, 0, .int 12) := by decide +kernel
theorem i_252_56 : aIns 252 56 = some (.iload_n 1, 1, 0, 0, .null) := by decide +kernel
theorem i_252_57 : aIns 252 57 = some (.ireturn, 1, 0, 0, .null) := by decide +kernel
theorem i_253_0 : aIns 253 0 = some (.iconst 0, 1, 0, 0, .int (0)) := by decide +kernel
theorem i_253_1 : aIns 253 1 = some (.istore_n 1, 1, 0, 0, .null) := by decide +kernel
theorem i_253_2 : aIns 253 2 = some (.iconst 0, 1, 0, 0, .int (0)) := by decide +kernel
theorem i_253_3 : aIns 253 3 = some (.istore_n 2, 1, 0, 0, .null) := by decide +kernel
theorem i_253_4 : aIns 253 4 = some (.iload_n 2, 1, 0, 0, .null) := by decide +kernel
theorem i_253_5 : aIns 253 5 = some (.aload_n 0, 1, 0, 0, .null) := by decide +kernel
theorem i_253_6 : aIns 253 6 = some (.getfield 39, 3, 12, 20, .null) := by decide +kernel
theorem i_253_9 : aIns 253 9 = some (.iconst 1, 1, 0, 0, .int (1)) := by decide +kernel
theorem i_253_10 : aIns 253 10 = some (.iaload, 1, 0, 0, .null) := by decide +kernel
theorem i_253_11 : aIns 253 11 = some (.if_icmp .ge 18, 3, 0, 0, .null) := by decide +kernel
theorem i_253_14 : aIns 253 14 = some (.iload_n 1, 1, 0, 0, .null) := by decide +kernel
theorem i_253_15 : aIns 253 15 = some (.aload_n 0, 1, 0, 0, .null) := by decide +kernel
theorem i_253_16 : aIns 253 16 = some (.getfield 67, 3, 12, 35, .null) := by decide +kernel
theorem i_253_19 : aIns 253 19 = some (.iload_n 2, 1, 0, 0, .null) := by decide +kernel
theorem i_253_20 : aIns 253 20 = some (.iaload, 1, 0, 0, .null) := by decide +kernel
theorem i_253_21 : aIns 253 21 = some (.iadd, 1, 0, 0, .null) := by decide +kernel
theorem i_253_22 : aIns 253 22 = some (.istore_n 1, 1, 0, 0, .null) := by decide +kernel
theorem i_253_23 : aIns 253 23 = some (.iinc 2 1, 3, 0, 0, .null) := by decide +kernel
theorem i_253_26 : aIns 253 26 = some (.goto (-22), 3, 0, 0, .null) := by decide +kernel
theorem i_253_29 : aIns 253 29 = some (.iload_n 1, 1, 0, 0, .null) := by decide +kernel
theorem i_253_30 : aIns 253 30 = some (.ireturn, 1, 0, 0, .null) := by decide +kernel
theorem i_254_0 : aIns 254 0 = some (.aload_n 0, 1, 0, 0, .null) := by decide +kernel
theorem i_254_1 : aIns 254 1 = some (.getfield 39, 3, 12, 20, .null) := by decide +kernel
theorem i_254_4 : aIns 254 4 = some (.iconst 1, 1, 0, 0, .int (1)) := by decide +kernel
theorem i_254_5 : aIns 254 5 = some (.iaload, 1, 0, 0, .null) := by decide +kernel
theorem i_254_6 : aIns 254 6 = some (.iconst 1, 1, 0, 0, .int (1)) := by decide +kernel
theorem i_254_7 : aIns 254 7 = some (.isub, 1, 0, 0, .null) := by decide +kernel
theorem i_254_8 : aIns 254 8 = some (.istore_n 1, 1, 0, 0, .null) := by decide +kernel
theorem i_254_9 : aIns 254 9 = some (.iload_n 1, 1, 0, 0, .null) := by decide +kernel
theorem i_254_10 : aIns 254 10 = some (.ifCond .lt 24, 3, 0, 0, .null) := by decide +kernel
theorem i_254_13 : aIns 254 13 = some (.aload_n 0, 1, 0, 0, .null) := by decide +kernel
theorem i_254_14 : aIns 254 14 = some (.getfield 67, 3, 12, 35, .null) := by decide +kernel
theorem i_254_17 : aIns 254 17 = some (.iload_n 1, 1, 0, 0, .null) := by decide +kernel
theorem i_254_18 : aIns 254 18 = some (.iaload, 1, 0, 0, .null) := by decide +kernel
theorem i_254_19 : aIns 254 19 = some (.aload_n 0, 1, 0, 0, .null) := by decide +kernel
theorem i_254_20 : aIns 254 20 = some (.iload_n 1, 1, 0, 0, .null) := by decide +kernel
theorem i_254_21 : aIns 254 21 = some (.iconst 4, 1, 0, 0, .int (4)) := by decide +kernel
theorem i_254_22 : aIns 254 22 = some (.invokevirtual 309, 3, 191, 2, .int 12) := by decide +kernel
theorem i_254_25 : aIns 254 25 = some (.if_icmp .ne 9, 3, 0, 0, .null) := by decide +kernel
theorem i_254_28 : aIns 254 28 = some (.iinc 1 (-1), 3, 0, 0, .null) := by decide +kernel
theorem i_254_31 : aIns 254 31 = some (.goto (-22), 3, 0, 0, .null) := by decide +kernel
theorem i_254_34 : aIns 254 34 = some (.iload_n 1, 1, 0, 0, .null) := by decide +kernel
theorem i_254_35 : aIns 254 35 = some (.ifCond .ge 5, 3, 0, 0, .null) := by decide +kernel
theorem i_254_38 : aIns 254 38 = some (.iconst 0, 1, 0, 0, .int (0)) := by decide +kernel
theorem i_254_39 : aIns 254 39 = some (.ireturn, 1, 1, 0, .null) := by decide +kernel
theorem i_254_40 : aIns 254 40 = some (.aload_n 0, 1, 0, 0, .null) := by decide +kernel
theorem i_254_41 : aIns 254 41 = some (.getfield 67, 3, 12, 35, .null) := by decide +kernel
theorem i_254_44 : aIns 254 44 = some (.iload_n 1, 1, 0, 0, .null) := by decide +kernel
theorem i_254_45 : aIns 254 45 = some (.dup2, 1, 0, 0, .null) := by decide +kernel
theorem i_254_46 : aIns 254 46 = some (.iaload, 1, 0, 0, .null) := by decide +kernel
theorem i_254_47 : aIns 254 47 = some (.iconst 1, 1, 0, 0, .int (1)) := by decide +kernel
theorem i_254_48 : aIns 254 48 = some (.iadd, 1, 0, 0, .null) := by decide +kernel
theorem i_254_49 : aIns 254 49 = some (.iastore, 1, 0, 0, .null) := by decide +kernel
theorem i_254_50 : aIns 254 50 = some (.iload_n 1, 1, 0, 0, .null) := by decide +kernel
theorem i_254_51 : aIns 254 51 = some (.iconst 1, 1, 0, 0, .int (1)) := by decide +kernel
theorem i_254_52 : aIns 254 52 = some (.iadd, 1, 0, 0, .null) := by decide +kernel
theorem i_254_53 : aIns 254 53 = some (.istore_n 2, 1, 0, 0, .null) := by decide +kernel
theorem i_254_54 : aIns 254 54 = some (.iload_n 2, 1, 0, 0, .null) := by decide +kernel
theorem i_254_55 : aIns 254 55 = some (.aload_n 0, 1, 0, 0, .null) := by decide +kernel
theorem i_254_56 : aIns 254 56 = some (.getfield 39, 3, 12, 20, .null) := by decide +kernel
theorem i_254_59 : aIns 254 59 = some (.iconst 1, 1, 0, 0, .int (1)) := by decide +kernel
theorem i_254_60 : aIns 254 60 = some (.iaload, 1, 0, 0, .null) := by decide +kernel
theorem i_254_61 : aIns 254 61 = some (.if_icmp .ge 16, 3, 0, 0, .null) := by decide +kernel
theorem i_254_64 : aIns 254 64 = some (.aload_n 0, 1, 0, 0, .null) := by decide +kernel
theorem i_254_65 : aIns 254 65 = some (.getfield 67, 3, 12, 35, .null) := by decide +kernel
theorem i_254_68 : aIns 254 68 = some (.iload_n 2, 1, 0, 0, .null) := by decide +kernel
theorem i_254_69 : aIns 254 69 = some (.iconst 0, 1, 0, 0, .int (0)) := by decide +kernel
theorem i_254_70 : aIns 254 70 = some (.iastore, 1, 0, 0, .null) := by decide +kernel
theorem i_254_71 : aIns 254 71 = some (.iinc 2 1, 3, 0, 0, .null) := by decide +kernel
theorem i_254_74 : aIns 254 74 = some (.goto (-20), 3, 0, 0, .null) := by decide +kernel
theorem i_254_77 : aIns 254 77 = some (.iconst 1, 1, 0, 0, .int (1)) := by decide +kernel
theorem i_254_78 : aIns 254 78 = some (.ireturn, 1, 1, 0, .null) := by decide +kernel
theorem i_255_0 : aIns 255 0 = some (.aload_n 0, 1, 0, 0, .null) := by decide +kernel
theorem i_255_1 : aIns 255 1 = some (.invokevirtual 374, 3, 187, 0, .int 12) := by decide +kernel
theorem i_255_4 : aIns 255 4 = some (.ifCond .eq 15, 3, 0, 0, .null) := by decide +kernel
theorem i_255_7 : aIns 255 7 = some (.iload_n 1, 1, 0, 0, .null) := by decide +kernel
theorem i_255_8 : aIns 255 8 = some (.i2l, 1, 0, 0, .null) := by decide +kernel
theorem i_255_9 : aIns 255 9 = some (.lconst 0, 1, 0, 0, .long 0) := by decide +kernel
theorem i_255_10 : aIns 255 10 = some (.ldc2_w 472, 3, 0, 0, .long (8)) := by decide +kernel
theorem i_255_13 : aIns 255 13 = some (.invokestatic 124, 3, 140, 3, .null) := by decide +kernel
theorem i_255_16 : aIns 255 16 = some (.ifCond .ne 7, 3, 0, 0, .null) := by decide +kernel
theorem i_255_19 : aIns 255 19 = some (.ldc_w 434, 3, 0, 0, .int (-1000000)) := by decide +kernel
theorem i_255_22 : aIns 255 22 = some (.ireturn, 1, 0, 0, .null) := by decide +kernel
theorem i_255_23 : aIns 255 23 = some (.aload_n 0, 1, 0, 0, .null) := by decide +kernel
theorem i_255_24 : aIns 255 24 = some (.iconst (-1), 1, 0, 0, .int (-1)) := by decide +kernel
theorem i_255_25 : aIns 255 25 = some (.putfield 408, 3, 12, 29, .null) := by decide +kernel
theorem i_255_28 : aIns 255 28 = some (.aload_n 0, 1, 0, 0, .null) := by decide +kernel
theorem i_255_29 : aIns 255 29 = some (.invokevirtual 474, 3, 250, 0, .int 12) := by decide +kernel
theorem i_255_32 : aIns 255 32 = some (.iconst 0, 1, 0, 0, .int (0)) := by decide +kernel
theorem i_255_33 : aIns 255 33 = some (.istore_n 2, 1, 0, 0, .null) := by decide +kernel
theorem i_255_34 : aIns 255 34 = some (.iload_n 2, 1, 0, 0, .null) := by decide +kernel
theorem i_255_35 : aIns 255 35 = some (.aload_n 0, 1, 0, 0, .null) := by decide +kernel
theorem i_255_36 : aIns 255 36 = some (.getfield 39, 3, 12, 20, .null) := by decide +kernel
theorem i_255_39 : aIns 255 39 = some (.iconst 1, 1, 0, 0, .int (1)) := by decide +kernel
theorem i_255_40 : aIns 255 40 = some (.iaload, 1, 0, 0, .null) := by decide +kernel
theorem i_255_41 : aIns 255 41 = some (.if_icmp .ge 16, 3, 0, 0, .null) := by decide +kernel
theorem i_255_44 : aIns 255 44 = some (.aload_n 0, 1, 0, 0, .null) := by decide +kernel
theorem i_255_45 : aIns 255 45 = some (.getfield 67, 3, 12, 35, .null) := by decide +kernel
theorem i_255_48 : aIns 255 48 = some (.iload_n 2, 1, 0, 0, .null) := by decide +kernel
theorem i_255_49 : aIns 255 49 = some (.iconst 0, 1, 0, 0, .int (0)) := by decide +kernel
theorem i_255_50 : aIns 255 50 = some (.iastore, 1, 0, 0, .null) := by decide +kernel
theorem i_255_51 : aIns 255 51 = some (.iinc 2 1, 3, 0, 0, .null) := by decide +kernel
theorem i_255_54 : aIns 255 54 = some (.goto (-20), 3, 0, 0, .null) := by decide +kernel
theorem i_255_57 : aIns 255 57 = some (.iconst 1, 1, 0, 0, .int (1)) := by decide +kernel
theorem i_255_58 : aIns 255 58 = some (.istore_n 2, 1, 0, 0, .null) := by decide +kernel
theorem i_255_59 : aIns 255 59 = some (.iload_n 2, 1, 0, 0, .null) := by decide +kernel
theorem i_255_60 : aIns 255 60 = some (.ifCond .eq 99, 3, 0, 0, .null) := by decide +kernel
theorem i_255_63 : aIns 255 63 = some (.aload_n 0, 1, 0, 0, .null) := by decide +kernel
theorem i_255_64 : aIns 255 64 = some (.invokevirtual 477, 3, 252, 0, .int 12) := by decide +kernel
theorem i_255_67 : aIns 255 67 = some (.istore_n 3, 1, 0, 0, .null) := by decide +kernel
theorem i_255_68 : aIns 255 68 = some (.aload_n 0, 1, 0, 0, .null) := by decide +kernel
theorem i_255_69 : aIns 255 69 = some (.invokevirtual 480, 3, 253, 0, .int 12) := by decide +kernel
theorem i_255_72 : aIns 255 72 = some (.istore 4, 2, 0, 0, .null) := by decide +kernel
theorem i_255_74 : aIns 255 74 = some (.aload_n 0, 1, 0, 0, .null) := by decide +kernel
theorem i_255_75 : aIns 255 75 = some (.getfield 408, 3, 12, 29, .null) := by decide +kernel
theorem i_255_78 : aIns 255 78 = some (.ifCond .lt 28, 3, 0, 0, .null) := by decide +kernel
theorem i_255_81 : aIns 255 81 = some (.iload_n 3, 1, 0, 0, .null) := by decide +kernel
theorem i_255_82 : aIns 255 82 = some (.aload_n 0, 1, 0, 0, .null) := by decide +kernel
theorem i_255_83 : aIns 255 83 = some (.getfield 411, 3, 12, 30, .null) := by decide +kernel
theorem i_255_86 : aIns 255 86 = some (.if_icmp .gt 20, 3, 0, 0, .null) := by decide +kernel
theorem i_255_89 : aIns 255 89 = some (.iload_n 3, 1, 0, 0, .null) := by decide +kernel
theorem i_255_90 : aIns 255 90 = some (.aload_n 0, 1, 0, 0, .null) := by decide +kernel
theorem i_255_91 : aIns 255 91 = some (.getfield 411, 3, 12, 30, .null) := by decide +kernel
theorem i_255_94 : aIns 255 94 = some (.if_icmp .ne 57, 3, 0, 0, .null) := by decide +kernel
theorem i_255_97 : aIns 255 97 = some (.iload 4, 2, 0, 0, .null) := by decide +kernel
theorem i_255_99 : aIns 255 99 = some (.aload_n 0, 1, 0, 0, .null) := by decide +kernel
theorem i_255_100 : aIns 255 100 = some (.getfield 408, 3, 12, 29, .null) := by decide +kernel
theorem i_255_103 : aIns 255 103 = some (.if_icmp .ge 48, 3, 0, 0, .null) := by decide +kernel
theorem i_255_106 : aIns 255 106 = some (.aload_n 0, 1, 0, 0, .null) := by decide +kernel
theorem i_255_107 : aIns 255 107 = some (.iload_n 3, 1, 0, 0, .null) := by decide +kernel
theorem i_255_108 : aIns 255 108 = some (.putfield 411, 3, 12, 30, .null) := by decide +kernel
theorem i_255_111 : aIns 255 111 = some (.aload_n 0, 1, 0, 0, .null) := by decide +kernel
theorem i_255_112 : aIns 255 112 = some (.iload 4, 2, 0, 0, .null) := by decide +kernel
theorem i_255_114 : aIns 255 114 = some (.putfield 408, 3, 12, 29, .null) := by decide +kernel
theorem i_255_117 : aIns 255 117 = some (.iconst 0, 1, 0, 0, .int (0)) := by decide +kernel
theorem i_255_118 : aIns 255 118 = some (.istore 5, 2, 0, 0, .null) := by decide +kernel
theorem i_255_120 : aIns 255 120 = some (.iload 5, 2, 0, 0, .null) := by decide +kernel
theorem i_255_122 : aIns 255 122 = some (.aload_n 0, 1, 0, 0, .null) := by decide +kernel
theorem i_255_123 : aIns 255 123 = some (.getfield 39, 3, 12, 20, .null) := by decide +kernel
theorem i_255_126 : aIns 255 126 = some (.iconst 1, 1, 0, 0, .int (1)) := by decide +kernel
theorem i_255_127 : aIns 255 127 = some (.iaload, 1, 0, 0, .null) := by decide +kernel
theorem i_255_128 : aIns 255 128 = some (.if_icmp .ge 23, 3, 0, 0, .null) := by decide +kernel
theorem i_255_131 : aIns 255 131 = some (.aload_n 0, 1, 0, 0, .null) := by decide +kernel
theorem i_255_132 : aIns 255 132 = some (.getfield 52, 3, 12, 28, .null) := by decide +kernel
theorem i_255_135 : aIns 255 135 = some (.iload 5, 2, 0, 0, .null) := by decide +kernel
theorem i_255_137 : aIns 255 137 = some (.aload_n 0, 1, 0, 0, .null) := by decide +kernel
theorem i_255_138 : aIns 255 138 = some (.getfield 67, 3, 12, 35, .null) := by decide +kernel
theorem i_255_141 : aIns 255 141 = some (.iload 5, 2, 0, 0, .null) := by decide +kernel
theorem i_255_143 : aIns 255 143 = some (.iaload, 1, 0, 0, .null) := by decide +kernel
theorem i_255_144 : aIns 255 144 = some (.iastore, 1, 0, 0, .null) := by decide +kernel
theorem i_255_145 : aIns 255 145 = some (.iinc 5 1, 3, 0, 0, .null) := by decide +kernel
theorem i_255_148 : aIns 255 148 = some (.goto (-28), 3, 0, 0, .null) := by decide +kernel
theorem i_255_151 : aIns 255 151 = some (.aload_n 0, 1, 0, 0, .null) := by decide +kernel
theorem i_255_152 : aIns 255 152 = some (.invokevirtual 483, 3, 254, 0, .int 12) := by decide +kernel
theorem i_255_155 : aIns 255 155 = some (.istore_n 2, 1, 0, 0, .null) := by decide +kernel
theorem i_255_156 : aIns 255 156 = some (.goto (-97), 3, 0, 0, .null) := by decide +kernel
theorem i_255_159 : aIns 255 159 = some (.iload_n 1, 1, 0, 0, .null) := by decide +kernel
theorem i_255_160 : aIns 255 160 = some (.ifCond .ne 10, 3, 0, 0, .null) := by decide +kernel
theorem i_255_163 : aIns 255 163 = some (.aload_n 0, 1, 0, 0, .null) := by decide +kernel
theorem i_255_164 : aIns 255 164 = some (.getfield 411, 3, 12, 30, .null) := by decide +kernel
theorem i_255_167 : aIns 255 167 = some (.goto 26, 3, 0, 0, .null) := by decide +kernel
theorem i_255_170 : aIns 255 170 = some (.iload_n 1, 1, 0, 0, .null) := by decide +kernel
theorem i_255_171 : aIns 255 171 = some (.aload_n 0, 1, 0, 0, .null) := by decide +kernel
theorem i_255_172 : aIns 255 172 = some (.getfield 39, 3, 12, 20, .null) := by decide +kernel
theorem i_255_175 : aIns 255 175 = some (.iconst 1, 1, 0, 0, .int (1)) := by decide +kernel
theorem i_255_176 : aIns 255 176 = some (.iaload, 1, 0, 0, .null) := by decide +kernel
theorem i_255_177 : aIns 255 177 = some (.if_icmp .gt 14, 3, 0, 0, .null) := by decide +kernel
theorem i_255_180 : aIns 255 180 = some (.aload_n 0, 1, 0, 0, .null) := by decide +kernel
theorem i_255_181 : aIns 255 181 = some (.getfield 52, 3, 12, 28, .null) := by decide +kernel
theorem i_255_184 : aIns 255 184 = some (.iload_n 1, 1, 0, 0, .null) := by decide +kernel
theorem i_255_185 : aIns 255 185 = some (.iconst 1, 1, 0, 0, .int (1)) := by decide +kernel
theorem i_255_186 : aIns 255 186 = some (.isub, 1, 0, 0, .null) := by decide +kernel
theorem i_255_187 : aIns 255 187 = some (.iaload, 1, 0, 0, .null) := by decide +kernel
theorem i_255_188 : aIns 255 188 = some (.goto 5, 3, 0, 0, .null) := by decide +kernel
theorem i_255_191 : aIns 255 191 = some (.bipush (-2), 2, 0, 0, .int (-2)) := by decide +kernel
theorem i_255_193 : aIns 255 193 = some (.ireturn, 1, 0, 0, .null) := by decide +kernel
def l_241 (g n tag : Nat) (x1 : Int32) (x2 : Int32) (x3 : Int32) (s0 : Int32) (s1 : Int32) (s2 : Int32) (S : rS) : Option (Int32 × rS) := match n with
  | 0 => none
  | n + 1 => if tag = 0 then (if aIn (2 : Int32) 181 = true then (if ((S.2.1 20) (2 : Int32).toNatClampNeg) ≤ x2 then some (x1, S) else (if aIn x2 6 = true then (l_241 g n 1 x1 x2 (0 : Int32) 0 0 0 (rA S 33 (upd (S.2.1 33) x2.toNatClampNeg (0 : Int32)))) else none)) else none) else if tag = 1 then (if aIn (2 : Int32) 181 = true then (if ((S.2.1 20) (2 : Int32).toNatClampNeg) ≤ x3 then (if aIn x2 6 = true then (if ¬ ((S.2.1 33) x2.toNatClampNeg) = 0 then (if aIn x2 6 = true then ((d_208 g ((S.2.1 33) x2.toNatClampNeg) S).bind (fun z_11 => (l_241 g n 3 x1 x2 x3 z_11.1 x1 0 z_11.2))) else none) else (l_241 g n 3 x1 x2 x3 (0 : Int32) x1 0 S)) else none) else (if aIn x2 6 = true then (if aIn x3 6 = true then (if ¬ ((S.2.1 32) x3.toNatClampNeg) = x2 then (l_241 g n 2 x1 x2 x3 (0 : Int32) ((S.2.1 33) x2.toNatClampNeg) x2 S) else ((d_240 g x3 S).bind (fun z_19 => ((d_200 g z_19.1 z_19.2).bind (fun z_24 => (l_241 g n 2 x1 x2 x3 z_24.1 ((S.2.1 33) x2.toNatClampNeg) x2 z_24.2)))))) else none) else none)) else none) else if tag = 2 then (if aIn s2 6 = true then (l_241 g n 1 x1 x2 (x3 + (1 : Int32)) 0 0 0 (rA S 33 (upd (S.2.1 33) s2.toNatClampNeg (s1 + s0)))) else none) else if tag = 3 then (l_241 g n 0 (s1 + s0) (x2 + (1 : Int32)) 0 0 0 0 S) else none
set_option maxHeartbeats 4000000 in
set_option maxRecDepth 100000 in
theorem l_241_ok {X : aX} {g d : Nat} (hdp : 6 ≤ d) : ∀ n, (∀ (x1 : Int32) (x2 : Int32) (x3 : Int32) (s0 : Int32) (s1 : Int32) (s2 : Int32) (S : rS) (h0 : aH) (zz : Int32 × rS), rm h0 S → l_241 g n 0 x1 x2 x3 s0 s1 s2 S = some zz → aWp X d 241 4 [some (.ref 382), some (.int x1), some (.int x2), none] [] h0 (fun w h' => w = some (.int zz.1) ∧ rTo h0 zz.2 h')) ∧ (∀ (x1 : Int32) (x2 : Int32) (x3 : Int32) (s0 : Int32) (s1 : Int32) (s2 : Int32) (S : rS) (h0 : aH) (zz : Int32 × rS), rm h0 S → l_241 g n 1 x1 x2 x3 s0 s1 s2 S = some zz → aWp X d 241 23 [some (.ref 382), some (.int x1), some (.int x2), some (.int x3)] [] h0 (fun w h' => w = some (.int zz.1) ∧ rTo h0 zz.2 h')) ∧ (∀ (x1 : Int32) (x2 : Int32) (x3 : Int32) (s0 : Int32) (s1 : Int32) (s2 : Int32) (S : rS) (h0 : aH) (zz : Int32 × rS), rm h0 S → l_241 g n 2 x1 x2 x3 s0 s1 s2 S = some zz → aWp X d 241 63 [some (.ref 382), some (.int x1), some (.int x2), some (.int x3)] [.int s0, .int s1, .int s2, .ref 398] h0 (fun w h' => w = some (.int zz.1) ∧ rTo h0 zz.2 h')) ∧ (∀ (x1 : Int32) (x2 : Int32) (x3 : Int32) (s0 : Int32) (s1 : Int32) (s2 : Int32) (S : rS) (h0 : aH) (zz : Int32 × rS), rm h0 S → l_241 g n 3 x1 x2 x3 s0 s1 s2 S = some zz → aWp X d 241 95 [some (.ref 382), some (.int x1), some (.int x2), some (.int x3)] [.int s0, .int s1] h0 (fun w h' => w = some (.int zz.1) ∧ rTo h0 zz.2 h')) := by
  intro n
  induction n with
  | zero => exact ⟨fun _ _ _ _ _ _ _ _ _ _ hd => by simp [l_241] at hd, fun _ _ _ _ _ _ _ _ _ _ hd => by simp [l_241] at hd, fun _ _ _ _ _ _ _ _ _ _ hd => by simp [l_241] at hd, fun _ _ _ _ _ _ _ _ _ _ hd => by simp [l_241] at hd⟩
  | succ n ih =>
    refine ⟨?_, ?_, ?_, ?_⟩
    · intro x1 x2 x3 s0 s1 s2 S h0 zz HS hd
      unfold l_241 at hd
      rw [if_pos rfl] at hd
      have HH := rTo.rf HS
      obtain ⟨e, rfl⟩ : ∃ e, d = e + 1 := ⟨d - 1, by omega⟩
      refine wp_s 5 [some (.ref 382), some (.int x1), some (.int x2), none] [.int x2] h0 i_241_4 rfl ?_
      refine wp_s 6 [some (.ref 382), some (.int x1), some (.int x2), none] [.ref 382, .int x2] h0 i_241_5 rfl ?_
      refine wp_get (v := .ref 392) 9 rfl i_241_6 (HH.1 0 (by decide)) rfl ?_
      refine wp_s 10 [some (.ref 382), some (.int x1), some (.int x2), none] [.int (2 : Int32), .ref 392, .int x2] h0 i_241_9 rfl ?_
      obtain ⟨b_1, hd⟩ := dk_if hd
      refine wp_iald (f := (S.2.1 20)) 11 rfl i_241_10 (HH.1 10 (by decide)) b_1 ?_
      refine wp_cmp_ge 103 14 rfl rfl i_241_11 (fun c_2 => ?_) (fun c_2 => ?_)
      · rw [if_pos c_2] at hd
        refine wp_s 104 [some (.ref 382), some (.int x1), some (.int x2), none] [.int x1] h0 i_241_103 rfl ?_
        obtain rfl := Option.some.inj hd
        exact wp_iret i_241_104 ⟨rfl, HH⟩
      · rw [if_neg c_2] at hd
        refine wp_s 15 [some (.ref 382), some (.int x1), some (.int x2), none] [.ref 382] h0 i_241_14 rfl ?_
        refine wp_get (v := .ref 398) 18 rfl i_241_15 (HH.1 0 (by decide)) rfl ?_
        refine wp_s 19 [some (.ref 382), some (.int x1), some (.int x2), none] [.int x2, .ref 398] h0 i_241_18 rfl ?_
        refine wp_s 20 [some (.ref 382), some (.int x1), some (.int x2), none] [.int (0 : Int32), .int x2, .ref 398] h0 i_241_19 rfl ?_
        obtain ⟨b_3, hd⟩ := dk_if hd
        refine rq_A33 21 rfl i_241_20 HH b_3 (fun h_4 H_5 => ?_)
        refine wp_s 22 [some (.ref 382), some (.int x1), some (.int x2), none] [.int (0 : Int32)] h_4 i_241_21 rfl ?_
        refine wp_s 23 [some (.ref 382), some (.int x1), some (.int x2), some (.int (0 : Int32))] [] h_4 i_241_22 rfl ?_
        exact aWp.post (aWp.forget (ih.2.1 _ _ _ _ _ _ _ _ _ H_5.1 hd) ((lvS (lvS (lvS (lvS lvE)))))) (fun _ _ hq => ⟨hq.1, H_5.tr hq.2⟩)
    · intro x1 x2 x3 s0 s1 s2 S h0 zz HS hd
      unfold l_241 at hd
      rw [if_neg (by decide), if_pos rfl] at hd
      have HH := rTo.rf HS
      obtain ⟨e, rfl⟩ : ∃ e, d = e + 1 := ⟨d - 1, by omega⟩
      refine wp_s 24 [some (.ref 382), some (.int x1), some (.int x2), some (.int x3)] [.int x3] h0 i_241_23 rfl ?_
      refine wp_s 25 [some (.ref 382), some (.int x1), some (.int x2), some (.int x3)] [.ref 382, .int x3] h0 i_241_24 rfl ?_
      refine wp_get (v := .ref 392) 28 rfl i_241_25 (HH.1 0 (by decide)) rfl ?_
      refine wp_s 29 [some (.ref 382), some (.int x1), some (.int x2), some (.int x3)] [.int (2 : Int32), .ref 392, .int x3] h0 i_241_28 rfl ?_
      obtain ⟨b_6, hd⟩ := dk_if hd
      refine wp_iald (f := (S.2.1 20)) 30 rfl i_241_29 (HH.1 10 (by decide)) b_6 ?_
      refine wp_cmp_ge 71 33 rfl rfl i_241_30 (fun c_7 => ?_) (fun c_7 => ?_)
      · rw [if_pos c_7] at hd
        refine wp_s 72 [some (.ref 382), some (.int x1), some (.int x2), some (.int x3)] [.int x1] h0 i_241_71 rfl ?_
        refine wp_s 73 [some (.ref 382), some (.int x1), some (.int x2), some (.int x3)] [.ref 382, .int x1] h0 i_241_72 rfl ?_
        refine wp_get (v := .ref 398) 76 rfl i_241_73 (HH.1 0 (by decide)) rfl ?_
        refine wp_s 77 [some (.ref 382), some (.int x1), some (.int x2), some (.int x3)] [.int x2, .ref 398, .int x1] h0 i_241_76 rfl ?_
        obtain ⟨b_8, hd⟩ := dk_if hd
        refine wp_iald (f := (S.2.1 33)) 78 rfl i_241_77 (HH.1 16 (by decide)) b_8 ?_
        refine wp_if_ne 85 81 rfl rfl i_241_78 (fun c_9 => ?_) (fun c_9 => ?_)
        · rw [if_pos c_9] at hd
          refine wp_s 86 [some (.ref 382), some (.int x1), some (.int x2), some (.int x3)] [.ref 382, .int x1] h0 i_241_85 rfl ?_
          refine wp_s 87 [some (.ref 382), some (.int x1), some (.int x2), some (.int x3)] [.ref 382, .ref 382, .int x1] h0 i_241_86 rfl ?_
          refine wp_get (v := .ref 398) 90 rfl i_241_87 (HH.1 0 (by decide)) rfl ?_
          refine wp_s 91 [some (.ref 382), some (.int x1), some (.int x2), some (.int x3)] [.int x2, .ref 398, .ref 382, .int x1] h0 i_241_90 rfl ?_
          obtain ⟨b_10, hd⟩ := dk_if hd
          refine wp_iald (f := (S.2.1 33)) 92 rfl i_241_91 (HH.1 16 (by decide)) b_10 ?_
          obtain ⟨z_11, q_12, hd⟩ := dk_bind hd
          refine wp_callV 95 rfl i_241_92 (by decide) rfl (vs := [.int ((S.2.1 33) x2.toNatClampNeg)]) (rest := [.int x1]) rfl rfl rfl (HH.1 0 (by decide)) (y := m_208) rfl (Nat.le_of_ble_eq_true rfl) (d_208_ok (d := e) (by omega) HH.1 q_12) ?_
          rintro v_15 h_13 ⟨rfl, H_14⟩
          have H_14 := HH.tr H_14
          exact aWp.post (aWp.forget (ih.2.2.2 _ _ _ _ _ _ _ _ _ H_14.1 hd) ((lvS (lvS (lvS (lvS lvE)))))) (fun _ _ hq => ⟨hq.1, H_14.tr hq.2⟩)
        · rw [if_neg c_9] at hd
          refine wp_s 82 [some (.ref 382), some (.int x1), some (.int x2), some (.int x3)] [.int (0 : Int32), .int x1] h0 i_241_81 rfl ?_
          refine wp_s 95 [some (.ref 382), some (.int x1), some (.int x2), some (.int x3)] [.int (0 : Int32), .int x1] h0 i_241_82 rfl ?_
          exact aWp.post (aWp.forget (ih.2.2.2 _ _ _ _ _ _ _ _ _ HH.1 hd) ((lvS (lvS (lvS (lvS lvE)))))) (fun _ _ hq => ⟨hq.1, HH.tr hq.2⟩)
      · rw [if_neg c_7] at hd
        refine wp_s 34 [some (.ref 382), some (.int x1), some (.int x2), some (.int x3)] [.ref 382] h0 i_241_33 rfl ?_
        refine wp_get (v := .ref 398) 37 rfl i_241_34 (HH.1 0 (by decide)) rfl ?_
        refine wp_s 38 [some (.ref 382), some (.int x1), some (.int x2), some (.int x3)] [.int x2, .ref 398] h0 i_241_37 rfl ?_
        refine wp_s 39 [some (.ref 382), some (.int x1), some (.int x2), some (.int x3)] [.int x2, .ref 398, .int x2, .ref 398] h0 i_241_38 rfl ?_
        obtain ⟨b_16, hd⟩ := dk_if hd
        refine wp_iald (f := (S.2.1 33)) 40 rfl i_241_39 (HH.1 16 (by decide)) b_16 ?_
        refine wp_s 41 [some (.ref 382), some (.int x1), some (.int x2), some (.int x3)] [.ref 382, .int ((S.2.1 33) x2.toNatClampNeg), .int x2, .ref 398] h0 i_241_40 rfl ?_
        refine wp_get (v := .ref 397) 44 rfl i_241_41 (HH.1 0 (by decide)) rfl ?_
        refine wp_s 45 [some (.ref 382), some (.int x1), some (.int x2), some (.int x3)] [.int x3, .ref 397, .int ((S.2.1 33) x2.toNatClampNeg), .int x2, .ref 398] h0 i_241_44 rfl ?_
        obtain ⟨b_17, hd⟩ := dk_if hd
        refine wp_iald (f := (S.2.1 32)) 46 rfl i_241_45 (HH.1 15 (by decide)) b_17 ?_
        refine wp_s 47 [some (.ref 382), some (.int x1), some (.int x2), some (.int x3)] [.int x2, .int ((S.2.1 32) x3.toNatClampNeg), .int ((S.2.1 33) x2.toNatClampNeg), .int x2, .ref 398] h0 i_241_46 rfl ?_
        refine wp_cmp_ne 62 50 rfl rfl i_241_47 (fun c_18 => ?_) (fun c_18 => ?_)
        · rw [if_pos c_18] at hd
          refine wp_s 63 [some (.ref 382), some (.int x1), some (.int x2), some (.int x3)] [.int (0 : Int32), .int ((S.2.1 33) x2.toNatClampNeg), .int x2, .ref 398] h0 i_241_62 rfl ?_
          exact aWp.post (aWp.forget (ih.2.2.1 _ _ _ _ _ _ _ _ _ HH.1 hd) ((lvS (lvS (lvS (lvS lvE)))))) (fun _ _ hq => ⟨hq.1, HH.tr hq.2⟩)
        · rw [if_neg c_18] at hd
          refine wp_s 51 [some (.ref 382), some (.int x1), some (.int x2), some (.int x3)] [.ref 382, .int ((S.2.1 33) x2.toNatClampNeg), .int x2, .ref 398] h0 i_241_50 rfl ?_
          refine wp_s 52 [some (.ref 382), some (.int x1), some (.int x2), some (.int x3)] [.ref 382, .ref 382, .int ((S.2.1 33) x2.toNatClampNeg), .int x2, .ref 398] h0 i_241_51 rfl ?_
          refine wp_s 53 [some (.ref 382), some (.int x1), some (.int x2), some (.int x3)] [.int x3, .ref 382, .ref 382, .int ((S.2.1 33) x2.toNatClampNeg), .int x2, .ref 398] h0 i_241_52 rfl ?_
          obtain ⟨z_19, q_20, hd⟩ := dk_bind hd
          refine wp_callV 56 rfl i_241_53 (by decide) rfl (vs := [.int x3]) (rest := [.ref 382, .int ((S.2.1 33) x2.toNatClampNeg), .int x2, .ref 398]) rfl rfl rfl (HH.1 0 (by decide)) (y := m_240) rfl (Nat.le_of_ble_eq_true rfl) (d_240_ok (d := e) (by omega) HH.1 q_20) ?_
          rintro v_23 h_21 ⟨rfl, H_22⟩
          have H_22 := HH.tr H_22
          obtain ⟨z_24, q_25, hd⟩ := dk_bind hd
          refine wp_callV 59 rfl i_241_56 (by decide) rfl (vs := [.int z_19.1]) (rest := [.int ((S.2.1 33) x2.toNatClampNeg), .int x2, .ref 398]) rfl rfl rfl (H_22.1 0 (by decide)) (y := m_200) rfl (Nat.le_of_ble_eq_true rfl) (d_200_ok (d := e) (by omega) H_22.1 q_25) ?_
          rintro v_28 h_26 ⟨rfl, H_27⟩
          have H_27 := H_22.tr H_27
          refine wp_s 63 [some (.ref 382), some (.int x1), some (.int x2), some (.int x3)] [.int z_24.1, .int ((S.2.1 33) x2.toNatClampNeg), .int x2, .ref 398] h_26 i_241_59 rfl ?_
          exact aWp.post (aWp.forget (ih.2.2.1 _ _ _ _ _ _ _ _ _ H_27.1 hd) ((lvS (lvS (lvS (lvS lvE)))))) (fun _ _ hq => ⟨hq.1, H_27.tr hq.2⟩)
    · intro x1 x2 x3 s0 s1 s2 S h0 zz HS hd
      unfold l_241 at hd
      rw [if_neg (by decide), if_neg (by decide), if_pos rfl] at hd
      have HH := rTo.rf HS
      obtain ⟨e, rfl⟩ : ∃ e, d = e + 1 := ⟨d - 1, by omega⟩
      refine wp_s 64 [some (.ref 382), some (.int x1), some (.int x2), some (.int x3)] [.int (s1 + s0), .int s2, .ref 398] h0 i_241_63 rfl ?_
      obtain ⟨b_29, hd⟩ := dk_if hd
      refine rq_A33 65 rfl i_241_64 HH b_29 (fun h_30 H_31 => ?_)
      refine wp_s 68 [some (.ref 382), some (.int x1), some (.int x2), some (.int (x3 + (1 : Int32)))] [] h_30 i_241_65 rfl ?_
      refine wp_s 23 [some (.ref 382), some (.int x1), some (.int x2), some (.int (x3 + (1 : Int32)))] [] h_30 i_241_68 rfl ?_
      exact aWp.post (aWp.forget (ih.2.1 _ _ _ _ _ _ _ _ _ H_31.1 hd) ((lvS (lvS (lvS (lvS lvE)))))) (fun _ _ hq => ⟨hq.1, H_31.tr hq.2⟩)
    · intro x1 x2 x3 s0 s1 s2 S h0 zz HS hd
      unfold l_241 at hd
      rw [if_neg (by decide), if_neg (by decide), if_neg (by decide), if_pos rfl] at hd
      have HH := rTo.rf HS
      obtain ⟨e, rfl⟩ : ∃ e, d = e + 1 := ⟨d - 1, by omega⟩
      refine wp_s 96 [some (.ref 382), some (.int x1), some (.int x2), some (.int x3)] [.int (s1 + s0)] h0 i_241_95 rfl ?_
      refine wp_s 97 [some (.ref 382), some (.int (s1 + s0)), some (.int x2), some (.int x3)] [] h0 i_241_96 rfl ?_
      refine wp_s 100 [some (.ref 382), some (.int (s1 + s0)), some (.int (x2 + (1 : Int32))), some (.int x3)] [] h0 i_241_97 rfl ?_
      refine wp_s 4 [some (.ref 382), some (.int (s1 + s0)), some (.int (x2 + (1 : Int32))), some (.int x3)] [] h0 i_241_100 rfl ?_
      exact aWp.post (aWp.forget (ih.1 _ _ _ _ _ _ _ _ _ HH.1 hd) ((lvS (lvS (lvS (lvN lvE)))))) (fun _ _ hq => ⟨hq.1, HH.tr hq.2⟩)
def d_241 (g : Nat)  (S : rS) : Option (Int32 × rS) := (l_241 g g 0 (0 : Int32) (0 : Int32) 0 0 0 0 S)
set_option maxHeartbeats 4000000 in
set_option maxRecDepth 100000 in
theorem d_241_ok {X : aX} {g d : Nat}  {S : rS} {h0 : aH} {zz : Int32 × rS} (hdp : 6 ≤ d) (HS : rm h0 S) (hd : d_241 g  S = some zz) : aWp X d 241 0 (aEntL [.ref 382] 4) [] h0 (fun w h' => w = some (.int zz.1) ∧ rTo h0 zz.2 h') := by
  unfold d_241 at hd
  have HH := rTo.rf HS
  refine wp_lv (l2 := [some (.ref 382), none, none, none]) rfl ?_
  obtain ⟨e, rfl⟩ : ∃ e, d = e + 1 := ⟨d - 1, by omega⟩
  refine wp_s 1 [some (.ref 382), none, none, none] [.int (0 : Int32)] h0 i_241_0 rfl ?_
  refine wp_s 2 [some (.ref 382), some (.int (0 : Int32)), none, none] [] h0 i_241_1 rfl ?_
  refine wp_s 3 [some (.ref 382), some (.int (0 : Int32)), none, none] [.int (0 : Int32)] h0 i_241_2 rfl ?_
  refine wp_s 4 [some (.ref 382), some (.int (0 : Int32)), some (.int (0 : Int32)), none] [] h0 i_241_3 rfl ?_
  exact aWp.post (aWp.forget ((l_241_ok hdp g).1 _ _ _ _ _ _ _ _ _ HH.1 hd) ((lvS (lvS (lvS (lvN lvE)))))) (fun _ _ hq => ⟨hq.1, HH.tr hq.2⟩)
def l_242 (g n tag : Nat) (x1 : Int32) (x2 : Int32) (S : rS) : Option (rS) := match n with
  | 0 => none
  | n + 1 => if tag = 0 then (if aIn (2 : Int32) 181 = true then (l_242 g n 1 x1 (0 : Int32) (rF (rF S 29 ((S.2.1 20) (2 : Int32).toNatClampNeg)) 30 x1)) else none) else if tag = 1 then (if aIn (2 : Int32) 181 = true then (if ((S.2.1 20) (2 : Int32).toNatClampNeg) ≤ x2 then some S else (if aIn x2 6 = true then (if aIn x2 8 = true then (l_242 g n 1 x1 (x2 + (1 : Int32)) (rA S 28 (upd (S.2.1 28) x2.toNatClampNeg ((S.2.1 32) x2.toNatClampNeg)))) else none) else none)) else none) else none
set_option maxHeartbeats 4000000 in
set_option maxRecDepth 100000 in
theorem l_242_ok {X : aX} {g d : Nat} (hdp : 0 ≤ d) : ∀ n, (∀ (x1 : Int32) (x2 : Int32) (S : rS) (h0 : aH) (zz : rS), rm h0 S → l_242 g n 0 x1 x2 S = some zz → aWp X d 242 16 [some (.ref 382), some (.int x1), none] [] h0 (fun w h' => w = none ∧ rTo h0 zz h')) ∧ (∀ (x1 : Int32) (x2 : Int32) (S : rS) (h0 : aH) (zz : rS), rm h0 S → l_242 g n 1 x1 x2 S = some zz → aWp X d 242 33 [some (.ref 382), some (.int x1), some (.int x2)] [] h0 (fun w h' => w = none ∧ rTo h0 zz h')) := by
  intro n
  induction n with
  | zero => exact ⟨fun _ _ _ _ _ _ hd => by simp [l_242] at hd, fun _ _ _ _ _ _ hd => by simp [l_242] at hd⟩
  | succ n ih =>
    refine ⟨?_, ?_⟩
    · intro x1 x2 S h0 zz HS hd
      unfold l_242 at hd
      rw [if_pos rfl] at hd
      have HH := rTo.rf HS
      refine wp_s 17 [some (.ref 382), some (.int x1), none] [.ref 382] h0 i_242_16 rfl ?_
      refine wp_s 18 [some (.ref 382), some (.int x1), none] [.ref 382, .ref 382] h0 i_242_17 rfl ?_
      refine wp_get (v := .ref 392) 21 rfl i_242_18 (HH.1 0 (by decide)) rfl ?_
      refine wp_s 22 [some (.ref 382), some (.int x1), none] [.int (2 : Int32), .ref 392, .ref 382] h0 i_242_21 rfl ?_
      obtain ⟨b_1, hd⟩ := dk_if hd
      refine wp_iald (f := (S.2.1 20)) 23 rfl i_242_22 (HH.1 10 (by decide)) b_1 ?_
      refine rq_F29 26 rfl i_242_23 HH (fun h_2 H_3 => ?_)
      refine wp_s 27 [some (.ref 382), some (.int x1), none] [.ref 382] h_2 i_242_26 rfl ?_
      refine wp_s 28 [some (.ref 382), some (.int x1), none] [.int x1, .ref 382] h_2 i_242_27 rfl ?_
      refine rq_F30 31 rfl i_242_28 H_3 (fun h_4 H_5 => ?_)
      refine wp_s 32 [some (.ref 382), some (.int x1), none] [.int (0 : Int32)] h_4 i_242_31 rfl ?_
      refine wp_s 33 [some (.ref 382), some (.int x1), some (.int (0 : Int32))] [] h_4 i_242_32 rfl ?_
      exact aWp.post (aWp.forget (ih.2 _ _ _ _ _ H_5.1 hd) ((lvS (lvS (lvS lvE))))) (fun _ _ hq => ⟨hq.1, H_5.tr hq.2⟩)
    · intro x1 x2 S h0 zz HS hd
      unfold l_242 at hd
      rw [if_neg (by decide), if_pos rfl] at hd
      have HH := rTo.rf HS
      refine wp_s 34 [some (.ref 382), some (.int x1), some (.int x2)] [.int x2] h0 i_242_33 rfl ?_
      refine wp_s 35 [some (.ref 382), some (.int x1), some (.int x2)] [.ref 382, .int x2] h0 i_242_34 rfl ?_
      refine wp_get (v := .ref 392) 38 rfl i_242_35 (HH.1 0 (by decide)) rfl ?_
      refine wp_s 39 [some (.ref 382), some (.int x1), some (.int x2)] [.int (2 : Int32), .ref 392, .int x2] h0 i_242_38 rfl ?_
      obtain ⟨b_6, hd⟩ := dk_if hd
      refine wp_iald (f := (S.2.1 20)) 40 rfl i_242_39 (HH.1 10 (by decide)) b_6 ?_
      refine wp_cmp_ge 61 43 rfl rfl i_242_40 (fun c_7 => ?_) (fun c_7 => ?_)
      · rw [if_pos c_7] at hd
        obtain rfl := Option.some.inj hd
        exact wp_ret i_242_61 rfl ⟨rfl, HH⟩
      · rw [if_neg c_7] at hd
        refine wp_s 44 [some (.ref 382), some (.int x1), some (.int x2)] [.ref 382] h0 i_242_43 rfl ?_
        refine wp_get (v := .ref 395) 47 rfl i_242_44 (HH.1 0 (by decide)) rfl ?_
        refine wp_s 48 [some (.ref 382), some (.int x1), some (.int x2)] [.int x2, .ref 395] h0 i_242_47 rfl ?_
        refine wp_s 49 [some (.ref 382), some (.int x1), some (.int x2)] [.ref 382, .int x2, .ref 395] h0 i_242_48 rfl ?_
        refine wp_get (v := .ref 397) 52 rfl i_242_49 (HH.1 0 (by decide)) rfl ?_
        refine wp_s 53 [some (.ref 382), some (.int x1), some (.int x2)] [.int x2, .ref 397, .int x2, .ref 395] h0 i_242_52 rfl ?_
        obtain ⟨b_8, hd⟩ := dk_if hd
        refine wp_iald (f := (S.2.1 32)) 54 rfl i_242_53 (HH.1 15 (by decide)) b_8 ?_
        obtain ⟨b_9, hd⟩ := dk_if hd
        refine rq_A28 55 rfl i_242_54 HH b_9 (fun h_10 H_11 => ?_)
        refine wp_s 58 [some (.ref 382), some (.int x1), some (.int (x2 + (1 : Int32)))] [] h_10 i_242_55 rfl ?_
        refine wp_s 33 [some (.ref 382), some (.int x1), some (.int (x2 + (1 : Int32)))] [] h_10 i_242_58 rfl ?_
        exact aWp.post (aWp.forget (ih.2 _ _ _ _ _ H_11.1 hd) ((lvS (lvS (lvS lvE))))) (fun _ _ hq => ⟨hq.1, H_11.tr hq.2⟩)
def d_242 (g : Nat) (x1 : Int32) (S : rS) : Option (rS) := (if (S.1 29) < 0 then (l_242 g g 0 x1 0 S) else (if x1 < (S.1 30) then (l_242 g g 0 x1 0 S) else some S))
set_option maxHeartbeats 4000000 in
set_option maxRecDepth 100000 in
theorem d_242_ok {X : aX} {g d : Nat} {x1 : Int32} {S : rS} {h0 : aH} {zz : rS} (hdp : 0 ≤ d) (HS : rm h0 S) (hd : d_242 g x1 S = some zz) : aWp X d 242 0 (aEntL [.ref 382, .int x1] 3) [] h0 (fun w h' => w = none ∧ rTo h0 zz h') := by
  unfold d_242 at hd
  have HH := rTo.rf HS
  refine wp_lv (l2 := [some (.ref 382), some (.int x1), none]) rfl ?_
  refine wp_s 1 [some (.ref 382), some (.int x1), none] [.ref 382] h0 i_242_0 rfl ?_
  refine wp_get (v := .int (S.1 29)) 4 rfl i_242_1 (HH.1 0 (by decide)) rfl ?_
  refine wp_if_lt 16 7 rfl rfl i_242_4 (fun c_1001 => ?_) (fun c_1001 => ?_)
  · rw [if_pos c_1001] at hd
    exact aWp.post (aWp.forget ((l_242_ok hdp g).1 _ _ _ _ _ HH.1 hd) ((lvS (lvS (lvN lvE))))) (fun _ _ hq => ⟨hq.1, HH.tr hq.2⟩)
  · rw [if_neg c_1001] at hd
    refine wp_s 8 [some (.ref 382), some (.int x1), none] [.int x1] h0 i_242_7 rfl ?_
    refine wp_s 9 [some (.ref 382), some (.int x1), none] [.ref 382, .int x1] h0 i_242_8 rfl ?_
    refine wp_get (v := .int (S.1 30)) 12 rfl i_242_9 (HH.1 0 (by decide)) rfl ?_
    refine wp_cmp_lt 16 15 rfl rfl i_242_12 (fun c_1002 => ?_) (fun c_1002 => ?_)
    · rw [if_pos c_1002] at hd
      exact aWp.post (aWp.forget ((l_242_ok hdp g).1 _ _ _ _ _ HH.1 hd) ((lvS (lvS (lvN lvE))))) (fun _ _ hq => ⟨hq.1, HH.tr hq.2⟩)
    · rw [if_neg c_1002] at hd
      obtain rfl := Option.some.inj hd
      exact wp_ret i_242_15 rfl ⟨rfl, HH⟩
def l_243 (g n tag : Nat) (x1 : Int32) (x2 : Int32) (x3 : Int32) (s0 : Int32) (S : rS) : Option (Int32 × rS) := match n with
  | 0 => none
  | n + 1 => if tag = 0 then (if x1 ≤ x3 then some (x2, S) else (if aIn x3 6 = true then (if ((S.2.1 32) x3.toNatClampNeg) ≤ x2 then (l_243 g n 1 x1 x2 x3 x2 S) else (if aIn x3 6 = true then (l_243 g n 1 x1 x2 x3 ((S.2.1 32) x3.toNatClampNeg) S) else none)) else none)) else if tag = 1 then (l_243 g n 0 x1 s0 (x3 + (1 : Int32)) 0 S) else none
set_option maxHeartbeats 4000000 in
set_option maxRecDepth 100000 in
theorem l_243_ok {X : aX} {g d : Nat} (hdp : 0 ≤ d) : ∀ n, (∀ (x1 : Int32) (x2 : Int32) (x3 : Int32) (s0 : Int32) (S : rS) (h0 : aH) (zz : Int32 × rS), rm h0 S → l_243 g n 0 x1 x2 x3 s0 S = some zz → aWp X d 243 4 [some (.ref 382), some (.int x1), some (.int x2), some (.int x3)] [] h0 (fun w h' => w = some (.int zz.1) ∧ rTo h0 zz.2 h')) ∧ (∀ (x1 : Int32) (x2 : Int32) (x3 : Int32) (s0 : Int32) (S : rS) (h0 : aH) (zz : Int32 × rS), rm h0 S → l_243 g n 1 x1 x2 x3 s0 S = some zz → aWp X d 243 29 [some (.ref 382), some (.int x1), some (.int x2), some (.int x3)] [.int s0] h0 (fun w h' => w = some (.int zz.1) ∧ rTo h0 zz.2 h')) := by
  intro n
  induction n with
  | zero => exact ⟨fun _ _ _ _ _ _ _ _ hd => by simp [l_243] at hd, fun _ _ _ _ _ _ _ _ hd => by simp [l_243] at hd⟩
  | succ n ih =>
    refine ⟨?_, ?_⟩
    · intro x1 x2 x3 s0 S h0 zz HS hd
      unfold l_243 at hd
      rw [if_pos rfl] at hd
      have HH := rTo.rf HS
      refine wp_s 5 [some (.ref 382), some (.int x1), some (.int x2), some (.int x3)] [.int x3] h0 i_243_4 rfl ?_
      refine wp_s 6 [some (.ref 382), some (.int x1), some (.int x2), some (.int x3)] [.int x1, .int x3] h0 i_243_5 rfl ?_
      refine wp_cmp_ge 36 9 rfl rfl i_243_6 (fun c_1 => ?_) (fun c_1 => ?_)
      · rw [if_pos c_1] at hd
        refine wp_s 37 [some (.ref 382), some (.int x1), some (.int x2), some (.int x3)] [.int x2] h0 i_243_36 rfl ?_
        obtain rfl := Option.some.inj hd
        exact wp_iret i_243_37 ⟨rfl, HH⟩
      · rw [if_neg c_1] at hd
        refine wp_s 10 [some (.ref 382), some (.int x1), some (.int x2), some (.int x3)] [.ref 382] h0 i_243_9 rfl ?_
        refine wp_get (v := .ref 397) 13 rfl i_243_10 (HH.1 0 (by decide)) rfl ?_
        refine wp_s 14 [some (.ref 382), some (.int x1), some (.int x2), some (.int x3)] [.int x3, .ref 397] h0 i_243_13 rfl ?_
        obtain ⟨b_2, hd⟩ := dk_if hd
        refine wp_iald (f := (S.2.1 32)) 15 rfl i_243_14 (HH.1 15 (by decide)) b_2 ?_
        refine wp_s 16 [some (.ref 382), some (.int x1), some (.int x2), some (.int x3)] [.int x2, .int ((S.2.1 32) x3.toNatClampNeg)] h0 i_243_15 rfl ?_
        refine wp_cmp_le 28 19 rfl rfl i_243_16 (fun c_3 => ?_) (fun c_3 => ?_)
        · rw [if_pos c_3] at hd
          refine wp_s 29 [some (.ref 382), some (.int x1), some (.int x2), some (.int x3)] [.int x2] h0 i_243_28 rfl ?_
          exact aWp.post (aWp.forget (ih.2 _ _ _ _ _ _ _ HH.1 hd) ((lvS (lvS (lvS (lvS lvE)))))) (fun _ _ hq => ⟨hq.1, HH.tr hq.2⟩)
        · rw [if_neg c_3] at hd
          refine wp_s 20 [some (.ref 382), some (.int x1), some (.int x2), some (.int x3)] [.ref 382] h0 i_243_19 rfl ?_
          refine wp_get (v := .ref 397) 23 rfl i_243_20 (HH.1 0 (by decide)) rfl ?_
          refine wp_s 24 [some (.ref 382), some (.int x1), some (.int x2), some (.int x3)] [.int x3, .ref 397] h0 i_243_23 rfl ?_
          obtain ⟨b_4, hd⟩ := dk_if hd
          refine wp_iald (f := (S.2.1 32)) 25 rfl i_243_24 (HH.1 15 (by decide)) b_4 ?_
          refine wp_s 29 [some (.ref 382), some (.int x1), some (.int x2), some (.int x3)] [.int ((S.2.1 32) x3.toNatClampNeg)] h0 i_243_25 rfl ?_
          exact aWp.post (aWp.forget (ih.2 _ _ _ _ _ _ _ HH.1 hd) ((lvS (lvS (lvS (lvS lvE)))))) (fun _ _ hq => ⟨hq.1, HH.tr hq.2⟩)
    · intro x1 x2 x3 s0 S h0 zz HS hd
      unfold l_243 at hd
      rw [if_neg (by decide), if_pos rfl] at hd
      have HH := rTo.rf HS
      refine wp_s 30 [some (.ref 382), some (.int x1), some (.int s0), some (.int x3)] [] h0 i_243_29 rfl ?_
      refine wp_s 33 [some (.ref 382), some (.int x1), some (.int s0), some (.int (x3 + (1 : Int32)))] [] h0 i_243_30 rfl ?_
      refine wp_s 4 [some (.ref 382), some (.int x1), some (.int s0), some (.int (x3 + (1 : Int32)))] [] h0 i_243_33 rfl ?_
      exact aWp.post (aWp.forget (ih.1 _ _ _ _ _ _ _ HH.1 hd) ((lvS (lvS (lvS (lvS lvE)))))) (fun _ _ hq => ⟨hq.1, HH.tr hq.2⟩)
def d_243 (g : Nat) (x1 : Int32) (S : rS) : Option (Int32 × rS) := (l_243 g g 0 x1 (-1 : Int32) (0 : Int32) 0 S)
set_option maxHeartbeats 4000000 in
set_option maxRecDepth 100000 in
theorem d_243_ok {X : aX} {g d : Nat} {x1 : Int32} {S : rS} {h0 : aH} {zz : Int32 × rS} (hdp : 0 ≤ d) (HS : rm h0 S) (hd : d_243 g x1 S = some zz) : aWp X d 243 0 (aEntL [.ref 382, .int x1] 4) [] h0 (fun w h' => w = some (.int zz.1) ∧ rTo h0 zz.2 h') := by
  unfold d_243 at hd
  have HH := rTo.rf HS
  refine wp_lv (l2 := [some (.ref 382), some (.int x1), none, none]) rfl ?_
  refine wp_s 1 [some (.ref 382), some (.int x1), none, none] [.int (-1 : Int32)] h0 i_243_0 rfl ?_
  refine wp_s 2 [some (.ref 382), some (.int x1), some (.int (-1 : Int32)), none] [] h0 i_243_1 rfl ?_
  refine wp_s 3 [some (.ref 382), some (.int x1), some (.int (-1 : Int32)), none] [.int (0 : Int32)] h0 i_243_2 rfl ?_
  refine wp_s 4 [some (.ref 382), some (.int x1), some (.int (-1 : Int32)), some (.int (0 : Int32))] [] h0 i_243_3 rfl ?_
  exact aWp.post (aWp.forget ((l_243_ok hdp g).1 _ _ _ _ _ _ _ HH.1 hd) ((lvS (lvS (lvS (lvS lvE)))))) (fun _ _ hq => ⟨hq.1, HH.tr hq.2⟩)
def l_244 (g n tag : Nat) (x1 : Int32) (x2 : Int32) (S : rS) : Option (Int32 × rS) := match n with
  | 0 => none
  | n + 1 => if tag = 0 then (if x1 < 0 then (l_244 g n 1 x1 0 S) else (if aIn x1 6 = true then ((d_243 g x1 S).bind (fun z_3 => (if ((S.2.1 32) x1.toNatClampNeg) ≤ z_3.1 then (l_244 g n 1 x1 0 z_3.2) else (l_244 g n 0 (x1 + (-1 : Int32)) 0 z_3.2)))) else none)) else if tag = 1 then (if 0 ≤ x1 then (if aIn x1 6 = true then (if aIn x1 6 = true then (l_244 g n 2 x1 (x1 + (1 : Int32)) (rA S 32 (upd (S.2.1 32) x1.toNatClampNeg (((S.2.1 32) x1.toNatClampNeg) + (1 : Int32))))) else none) else none) else some ((0 : Int32), S)) else if tag = 2 then (if aIn (2 : Int32) 181 = true then (if ((S.2.1 20) (2 : Int32).toNatClampNeg) ≤ x2 then some ((1 : Int32), S) else (if aIn x2 6 = true then (l_244 g n 2 x1 (x2 + (1 : Int32)) (rA S 32 (upd (S.2.1 32) x2.toNatClampNeg (0 : Int32)))) else none)) else none) else none
set_option maxHeartbeats 4000000 in
set_option maxRecDepth 100000 in
theorem l_244_ok {X : aX} {g d : Nat} (hdp : 1 ≤ d) : ∀ n, (∀ (x1 : Int32) (x2 : Int32) (S : rS) (h0 : aH) (zz : Int32 × rS), rm h0 S → l_244 g n 0 x1 x2 S = some zz → aWp X d 244 9 [some (.ref 382), some (.int x1), none] [] h0 (fun w h' => w = some (.int zz.1) ∧ rTo h0 zz.2 h')) ∧ (∀ (x1 : Int32) (x2 : Int32) (S : rS) (h0 : aH) (zz : Int32 × rS), rm h0 S → l_244 g n 1 x1 x2 S = some zz → aWp X d 244 33 [some (.ref 382), some (.int x1), none] [] h0 (fun w h' => w = some (.int zz.1) ∧ rTo h0 zz.2 h')) ∧ (∀ (x1 : Int32) (x2 : Int32) (S : rS) (h0 : aH) (zz : Int32 × rS), rm h0 S → l_244 g n 2 x1 x2 S = some zz → aWp X d 244 53 [some (.ref 382), some (.int x1), some (.int x2)] [] h0 (fun w h' => w = some (.int zz.1) ∧ rTo h0 zz.2 h')) := by
  intro n
  induction n with
  | zero => exact ⟨fun _ _ _ _ _ _ hd => by simp [l_244] at hd, fun _ _ _ _ _ _ hd => by simp [l_244] at hd, fun _ _ _ _ _ _ hd => by simp [l_244] at hd⟩
  | succ n ih =>
    refine ⟨?_, ?_, ?_⟩
    · intro x1 x2 S h0 zz HS hd
      unfold l_244 at hd
      rw [if_pos rfl] at hd
      have HH := rTo.rf HS
      obtain ⟨e, rfl⟩ : ∃ e, d = e + 1 := ⟨d - 1, by omega⟩
      refine wp_s 10 [some (.ref 382), some (.int x1), none] [.int x1] h0 i_244_9 rfl ?_
      refine wp_if_lt 33 13 rfl rfl i_244_10 (fun c_1 => ?_) (fun c_1 => ?_)
      · rw [if_pos c_1] at hd
        exact aWp.post (aWp.forget (ih.2.1 _ _ _ _ _ HH.1 hd) ((lvS (lvS (lvN lvE))))) (fun _ _ hq => ⟨hq.1, HH.tr hq.2⟩)
      · rw [if_neg c_1] at hd
        refine wp_s 14 [some (.ref 382), some (.int x1), none] [.ref 382] h0 i_244_13 rfl ?_
        refine wp_get (v := .ref 397) 17 rfl i_244_14 (HH.1 0 (by decide)) rfl ?_
        refine wp_s 18 [some (.ref 382), some (.int x1), none] [.int x1, .ref 397] h0 i_244_17 rfl ?_
        obtain ⟨b_2, hd⟩ := dk_if hd
        refine wp_iald (f := (S.2.1 32)) 19 rfl i_244_18 (HH.1 15 (by decide)) b_2 ?_
        refine wp_s 20 [some (.ref 382), some (.int x1), none] [.ref 382, .int ((S.2.1 32) x1.toNatClampNeg)] h0 i_244_19 rfl ?_
        refine wp_s 21 [some (.ref 382), some (.int x1), none] [.int x1, .ref 382, .int ((S.2.1 32) x1.toNatClampNeg)] h0 i_244_20 rfl ?_
        obtain ⟨z_3, q_4, hd⟩ := dk_bind hd
        refine wp_callV 24 rfl i_244_21 (by decide) rfl (vs := [.int x1]) (rest := [.int ((S.2.1 32) x1.toNatClampNeg)]) rfl rfl rfl (HH.1 0 (by decide)) (y := m_243) rfl (Nat.le_of_ble_eq_true rfl) (d_243_ok (d := e) (by omega) HH.1 q_4) ?_
        rintro v_7 h_5 ⟨rfl, H_6⟩
        have H_6 := HH.tr H_6
        refine wp_cmp_le 33 27 rfl rfl i_244_24 (fun c_8 => ?_) (fun c_8 => ?_)
        · rw [if_pos c_8] at hd
          exact aWp.post (aWp.forget (ih.2.1 _ _ _ _ _ H_6.1 hd) ((lvS (lvS (lvN lvE))))) (fun _ _ hq => ⟨hq.1, H_6.tr hq.2⟩)
        · rw [if_neg c_8] at hd
          refine wp_s 30 [some (.ref 382), some (.int (x1 + (-1 : Int32))), none] [] h_5 i_244_27 rfl ?_
          refine wp_s 9 [some (.ref 382), some (.int (x1 + (-1 : Int32))), none] [] h_5 i_244_30 rfl ?_
          exact aWp.post (aWp.forget (ih.1 _ _ _ _ _ H_6.1 hd) ((lvS (lvS (lvN lvE))))) (fun _ _ hq => ⟨hq.1, H_6.tr hq.2⟩)
    · intro x1 x2 S h0 zz HS hd
      unfold l_244 at hd
      rw [if_neg (by decide), if_pos rfl] at hd
      have HH := rTo.rf HS
      obtain ⟨e, rfl⟩ : ∃ e, d = e + 1 := ⟨d - 1, by omega⟩
      refine wp_s 34 [some (.ref 382), some (.int x1), none] [.int x1] h0 i_244_33 rfl ?_
      refine wp_if_ge 39 37 rfl rfl i_244_34 (fun c_9 => ?_) (fun c_9 => ?_)
      · rw [if_pos c_9] at hd
        refine wp_s 40 [some (.ref 382), some (.int x1), none] [.ref 382] h0 i_244_39 rfl ?_
        refine wp_get (v := .ref 397) 43 rfl i_244_40 (HH.1 0 (by decide)) rfl ?_
        refine wp_s 44 [some (.ref 382), some (.int x1), none] [.int x1, .ref 397] h0 i_244_43 rfl ?_
        refine wp_s 45 [some (.ref 382), some (.int x1), none] [.int x1, .ref 397, .int x1, .ref 397] h0 i_244_44 rfl ?_
        obtain ⟨b_10, hd⟩ := dk_if hd
        refine wp_iald (f := (S.2.1 32)) 46 rfl i_244_45 (HH.1 15 (by decide)) b_10 ?_
        refine wp_s 47 [some (.ref 382), some (.int x1), none] [.int (1 : Int32), .int ((S.2.1 32) x1.toNatClampNeg), .int x1, .ref 397] h0 i_244_46 rfl ?_
        refine wp_s 48 [some (.ref 382), some (.int x1), none] [.int (((S.2.1 32) x1.toNatClampNeg) + (1 : Int32)), .int x1, .ref 397] h0 i_244_47 rfl ?_
        obtain ⟨b_11, hd⟩ := dk_if hd
        refine rq_A32 49 rfl i_244_48 HH b_11 (fun h_12 H_13 => ?_)
        refine wp_s 50 [some (.ref 382), some (.int x1), none] [.int x1] h_12 i_244_49 rfl ?_
        refine wp_s 51 [some (.ref 382), some (.int x1), none] [.int (1 : Int32), .int x1] h_12 i_244_50 rfl ?_
        refine wp_s 52 [some (.ref 382), some (.int x1), none] [.int (x1 + (1 : Int32))] h_12 i_244_51 rfl ?_
        refine wp_s 53 [some (.ref 382), some (.int x1), some (.int (x1 + (1 : Int32)))] [] h_12 i_244_52 rfl ?_
        exact aWp.post (aWp.forget (ih.2.2 _ _ _ _ _ H_13.1 hd) ((lvS (lvS (lvS lvE))))) (fun _ _ hq => ⟨hq.1, H_13.tr hq.2⟩)
      · rw [if_neg c_9] at hd
        refine wp_s 38 [some (.ref 382), some (.int x1), none] [.int (0 : Int32)] h0 i_244_37 rfl ?_
        obtain rfl := Option.some.inj hd
        exact wp_iretZ (z := 0) i_244_38 (by decide) ⟨rfl, HH⟩
    · intro x1 x2 S h0 zz HS hd
      unfold l_244 at hd
      rw [if_neg (by decide), if_neg (by decide), if_pos rfl] at hd
      have HH := rTo.rf HS
      obtain ⟨e, rfl⟩ : ∃ e, d = e + 1 := ⟨d - 1, by omega⟩
      refine wp_s 54 [some (.ref 382), some (.int x1), some (.int x2)] [.int x2] h0 i_244_53 rfl ?_
      refine wp_s 55 [some (.ref 382), some (.int x1), some (.int x2)] [.ref 382, .int x2] h0 i_244_54 rfl ?_
      refine wp_get (v := .ref 392) 58 rfl i_244_55 (HH.1 0 (by decide)) rfl ?_
      refine wp_s 59 [some (.ref 382), some (.int x1), some (.int x2)] [.int (2 : Int32), .ref 392, .int x2] h0 i_244_58 rfl ?_
      obtain ⟨b_14, hd⟩ := dk_if hd
      refine wp_iald (f := (S.2.1 20)) 60 rfl i_244_59 (HH.1 10 (by decide)) b_14 ?_
      refine wp_cmp_ge 76 63 rfl rfl i_244_60 (fun c_15 => ?_) (fun c_15 => ?_)
      · rw [if_pos c_15] at hd
        refine wp_s 77 [some (.ref 382), some (.int x1), some (.int x2)] [.int (1 : Int32)] h0 i_244_76 rfl ?_
        obtain rfl := Option.some.inj hd
        exact wp_iretZ (z := 0) i_244_77 (by decide) ⟨rfl, HH⟩
      · rw [if_neg c_15] at hd
        refine wp_s 64 [some (.ref 382), some (.int x1), some (.int x2)] [.ref 382] h0 i_244_63 rfl ?_
        refine wp_get (v := .ref 397) 67 rfl i_244_64 (HH.1 0 (by decide)) rfl ?_
        refine wp_s 68 [some (.ref 382), some (.int x1), some (.int x2)] [.int x2, .ref 397] h0 i_244_67 rfl ?_
        refine wp_s 69 [some (.ref 382), some (.int x1), some (.int x2)] [.int (0 : Int32), .int x2, .ref 397] h0 i_244_68 rfl ?_
        obtain ⟨b_16, hd⟩ := dk_if hd
        refine rq_A32 70 rfl i_244_69 HH b_16 (fun h_17 H_18 => ?_)
        refine wp_s 73 [some (.ref 382), some (.int x1), some (.int (x2 + (1 : Int32)))] [] h_17 i_244_70 rfl ?_
        refine wp_s 53 [some (.ref 382), some (.int x1), some (.int (x2 + (1 : Int32)))] [] h_17 i_244_73 rfl ?_
        exact aWp.post (aWp.forget (ih.2.2 _ _ _ _ _ H_18.1 hd) ((lvS (lvS (lvS lvE))))) (fun _ _ hq => ⟨hq.1, H_18.tr hq.2⟩)
def d_244 (g : Nat)  (S : rS) : Option (Int32 × rS) := (if aIn (2 : Int32) 181 = true then (l_244 g g 0 (((S.2.1 20) (2 : Int32).toNatClampNeg) - (1 : Int32)) 0 S) else none)
set_option maxHeartbeats 4000000 in
set_option maxRecDepth 100000 in
theorem d_244_ok {X : aX} {g d : Nat}  {S : rS} {h0 : aH} {zz : Int32 × rS} (hdp : 1 ≤ d) (HS : rm h0 S) (hd : d_244 g  S = some zz) : aWp X d 244 0 (aEntL [.ref 382] 3) [] h0 (fun w h' => w = some (.int zz.1) ∧ rTo h0 zz.2 h') := by
  unfold d_244 at hd
  have HH := rTo.rf HS
  refine wp_lv (l2 := [some (.ref 382), none, none]) rfl ?_
  obtain ⟨e, rfl⟩ : ∃ e, d = e + 1 := ⟨d - 1, by omega⟩
  refine wp_s 1 [some (.ref 382), none, none] [.ref 382] h0 i_244_0 rfl ?_
  refine wp_get (v := .ref 392) 4 rfl i_244_1 (HH.1 0 (by decide)) rfl ?_
  refine wp_s 5 [some (.ref 382), none, none] [.int (2 : Int32), .ref 392] h0 i_244_4 rfl ?_
  obtain ⟨b_1001, hd⟩ := dk_if hd
  refine wp_iald (f := (S.2.1 20)) 6 rfl i_244_5 (HH.1 10 (by decide)) b_1001 ?_
  refine wp_s 7 [some (.ref 382), none, none] [.int (1 : Int32), .int ((S.2.1 20) (2 : Int32).toNatClampNeg)] h0 i_244_6 rfl ?_
  refine wp_s 8 [some (.ref 382), none, none] [.int (((S.2.1 20) (2 : Int32).toNatClampNeg) - (1 : Int32))] h0 i_244_7 rfl ?_
  refine wp_s 9 [some (.ref 382), some (.int (((S.2.1 20) (2 : Int32).toNatClampNeg) - (1 : Int32))), none] [] h0 i_244_8 rfl ?_
  exact aWp.post (aWp.forget ((l_244_ok hdp g).1 _ _ _ _ _ HH.1 hd) ((lvS (lvS (lvN lvE))))) (fun _ _ hq => ⟨hq.1, HH.tr hq.2⟩)
def l_245 (g n tag : Nat) (x1 : Int32) (x2 : Int32) (x3 : Int32) (x4 : Int32) (s0 : Int32) (S : rS) : Option (Int32 × rS) := match n with
  | 0 => none
  | n + 1 => if tag = 0 then (if aIn (2 : Int32) 181 = true then (if ((S.2.1 20) (2 : Int32).toNatClampNeg) ≤ x2 then (l_245 g n 1 x1 (1 : Int32) 0 0 0 S) else (if aIn x2 6 = true then (l_245 g n 0 x1 (x2 + (1 : Int32)) 0 0 0 (rA S 32 (upd (S.2.1 32) x2.toNatClampNeg (0 : Int32)))) else none)) else none) else if tag = 1 then (if x2 = 0 then (if ¬ x1 = 0 then (if (7 : Int32) ≤ x1 then (l_245 g n 2 x1 x2 (-1 : Int32) (0 : Int32) 0 S) else (if aIn (2 : Int32) 181 = true then (if ((S.2.1 20) (2 : Int32).toNatClampNeg) < x1 then some ((-2 : Int32), S) else (if aIn (x1 - (1 : Int32)) 8 = true then some (((S.2.1 28) (x1 - (1 : Int32)).toNatClampNeg), S) else none)) else none)) else some ((S.1 30), S)) else ((d_241 g  S).bind (fun z_12 => ((d_242 g z_12.1 z_12.2).bind (fun z_17 => ((d_244 g  z_17).bind (fun z_22 => (l_245 g n 1 x1 z_22.1 0 0 0 z_22.2)))))))) else if tag = 2 then (if aIn (2 : Int32) 181 = true then (if ((S.2.1 20) (2 : Int32).toNatClampNeg) ≤ x4 then some ((x3 + (1 : Int32)), S) else (if aIn x4 8 = true then (if ((S.2.1 28) x4.toNatClampNeg) ≤ x3 then (l_245 g n 3 x1 x2 x3 x4 x3 S) else (if aIn x4 8 = true then (l_245 g n 3 x1 x2 x3 x4 ((S.2.1 28) x4.toNatClampNeg) S) else none)) else none)) else none) else if tag = 3 then (l_245 g n 2 x1 x2 s0 (x4 + (1 : Int32)) 0 S) else none
set_option maxHeartbeats 4000000 in
set_option maxRecDepth 100000 in
theorem l_245_ok {X : aX} {g d : Nat} (hdp : 7 ≤ d) : ∀ n, (∀ (x1 : Int32) (x2 : Int32) (x3 : Int32) (x4 : Int32) (s0 : Int32) (S : rS) (h0 : aH) (zz : Int32 × rS), rm h0 S → l_245 g n 0 x1 x2 x3 x4 s0 S = some zz → aWp X d 245 29 [some (.ref 382), some (.int x1), some (.int x2), none, none] [] h0 (fun w h' => w = some (.int zz.1) ∧ rTo h0 zz.2 h')) ∧ (∀ (x1 : Int32) (x2 : Int32) (x3 : Int32) (x4 : Int32) (s0 : Int32) (S : rS) (h0 : aH) (zz : Int32 × rS), rm h0 S → l_245 g n 1 x1 x2 x3 x4 s0 S = some zz → aWp X d 245 54 [some (.ref 382), some (.int x1), some (.int x2), none, none] [] h0 (fun w h' => w = some (.int zz.1) ∧ rTo h0 zz.2 h')) ∧ (∀ (x1 : Int32) (x2 : Int32) (x3 : Int32) (x4 : Int32) (s0 : Int32) (S : rS) (h0 : aH) (zz : Int32 × rS), rm h0 S → l_245 g n 2 x1 x2 x3 x4 s0 S = some zz → aWp X d 245 118 [some (.ref 382), some (.int x1), some (.int x2), some (.int x3), some (.int x4)] [] h0 (fun w h' => w = some (.int zz.1) ∧ rTo h0 zz.2 h')) ∧ (∀ (x1 : Int32) (x2 : Int32) (x3 : Int32) (x4 : Int32) (s0 : Int32) (S : rS) (h0 : aH) (zz : Int32 × rS), rm h0 S → l_245 g n 3 x1 x2 x3 x4 s0 S = some zz → aWp X d 245 151 [some (.ref 382), some (.int x1), some (.int x2), some (.int x3), some (.int x4)] [.int s0] h0 (fun w h' => w = some (.int zz.1) ∧ rTo h0 zz.2 h')) := by
  intro n
  induction n with
  | zero => exact ⟨fun _ _ _ _ _ _ _ _ _ hd => by simp [l_245] at hd, fun _ _ _ _ _ _ _ _ _ hd => by simp [l_245] at hd, fun _ _ _ _ _ _ _ _ _ hd => by simp [l_245] at hd, fun _ _ _ _ _ _ _ _ _ hd => by simp [l_245] at hd⟩
  | succ n ih =>
    refine ⟨?_, ?_, ?_, ?_⟩
    · intro x1 x2 x3 x4 s0 S h0 zz HS hd
      unfold l_245 at hd
      rw [if_pos rfl] at hd
      have HH := rTo.rf HS
      obtain ⟨e, rfl⟩ : ∃ e, d = e + 1 := ⟨d - 1, by omega⟩
      refine wp_s 30 [some (.ref 382), some (.int x1), some (.int x2), none, none] [.int x2] h0 i_245_29 rfl ?_
      refine wp_s 31 [some (.ref 382), some (.int x1), some (.int x2), none, none] [.ref 382, .int x2] h0 i_245_30 rfl ?_
      refine wp_get (v := .ref 392) 34 rfl i_245_31 (HH.1 0 (by decide)) rfl ?_
      refine wp_s 35 [some (.ref 382), some (.int x1), some (.int x2), none, none] [.int (2 : Int32), .ref 392, .int x2] h0 i_245_34 rfl ?_
      obtain ⟨b_1, hd⟩ := dk_if hd
      refine wp_iald (f := (S.2.1 20)) 36 rfl i_245_35 (HH.1 10 (by decide)) b_1 ?_
      refine wp_cmp_ge 52 39 rfl rfl i_245_36 (fun c_2 => ?_) (fun c_2 => ?_)
      · rw [if_pos c_2] at hd
        refine wp_s 53 [some (.ref 382), some (.int x1), some (.int x2), none, none] [.int (1 : Int32)] h0 i_245_52 rfl ?_
        refine wp_s 54 [some (.ref 382), some (.int x1), some (.int (1 : Int32)), none, none] [] h0 i_245_53 rfl ?_
        exact aWp.post (aWp.forget (ih.2.1 _ _ _ _ _ _ _ _ HH.1 hd) ((lvS (lvS (lvS (lvN (lvN lvE))))))) (fun _ _ hq => ⟨hq.1, HH.tr hq.2⟩)
      · rw [if_neg c_2] at hd
        refine wp_s 40 [some (.ref 382), some (.int x1), some (.int x2), none, none] [.ref 382] h0 i_245_39 rfl ?_
        refine wp_get (v := .ref 397) 43 rfl i_245_40 (HH.1 0 (by decide)) rfl ?_
        refine wp_s 44 [some (.ref 382), some (.int x1), some (.int x2), none, none] [.int x2, .ref 397] h0 i_245_43 rfl ?_
        refine wp_s 45 [some (.ref 382), some (.int x1), some (.int x2), none, none] [.int (0 : Int32), .int x2, .ref 397] h0 i_245_44 rfl ?_
        obtain ⟨b_3, hd⟩ := dk_if hd
        refine rq_A32 46 rfl i_245_45 HH b_3 (fun h_4 H_5 => ?_)
        refine wp_s 49 [some (.ref 382), some (.int x1), some (.int (x2 + (1 : Int32))), none, none] [] h_4 i_245_46 rfl ?_
        refine wp_s 29 [some (.ref 382), some (.int x1), some (.int (x2 + (1 : Int32))), none, none] [] h_4 i_245_49 rfl ?_
        exact aWp.post (aWp.forget (ih.1 _ _ _ _ _ _ _ _ H_5.1 hd) ((lvS (lvS (lvS (lvN (lvN lvE))))))) (fun _ _ hq => ⟨hq.1, H_5.tr hq.2⟩)
    · intro x1 x2 x3 x4 s0 S h0 zz HS hd
      unfold l_245 at hd
      rw [if_neg (by decide), if_pos rfl] at hd
      have HH := rTo.rf HS
      obtain ⟨e, rfl⟩ : ∃ e, d = e + 1 := ⟨d - 1, by omega⟩
      refine wp_s 55 [some (.ref 382), some (.int x1), some (.int x2), none, none] [.int x2] h0 i_245_54 rfl ?_
      refine wp_if_eq 74 58 rfl rfl i_245_55 (fun c_6 => ?_) (fun c_6 => ?_)
      · rw [if_pos c_6] at hd
        refine wp_s 75 [some (.ref 382), some (.int x1), some (.int x2), none, none] [.int x1] h0 i_245_74 rfl ?_
        refine wp_if_ne 83 78 rfl rfl i_245_75 (fun c_7 => ?_) (fun c_7 => ?_)
        · rw [if_pos c_7] at hd
          refine wp_s 84 [some (.ref 382), some (.int x1), some (.int x2), none, none] [.int x1] h0 i_245_83 rfl ?_
          refine wp_s 86 [some (.ref 382), some (.int x1), some (.int x2), none, none] [.int (7 : Int32), .int x1] h0 i_245_84 rfl ?_
          refine wp_cmp_ge 113 89 rfl rfl i_245_86 (fun c_8 => ?_) (fun c_8 => ?_)
          · rw [if_pos c_8] at hd
            refine wp_s 114 [some (.ref 382), some (.int x1), some (.int x2), none, none] [.int (-1 : Int32)] h0 i_245_113 rfl ?_
            refine wp_s 115 [some (.ref 382), some (.int x1), some (.int x2), some (.int (-1 : Int32)), none] [] h0 i_245_114 rfl ?_
            refine wp_s 116 [some (.ref 382), some (.int x1), some (.int x2), some (.int (-1 : Int32)), none] [.int (0 : Int32)] h0 i_245_115 rfl ?_
            refine wp_s 118 [some (.ref 382), some (.int x1), some (.int x2), some (.int (-1 : Int32)), some (.int (0 : Int32))] [] h0 i_245_116 rfl ?_
            exact aWp.post (aWp.forget (ih.2.2.1 _ _ _ _ _ _ _ _ HH.1 hd) ((lvS (lvS (lvS (lvS (lvS lvE))))))) (fun _ _ hq => ⟨hq.1, HH.tr hq.2⟩)
          · rw [if_neg c_8] at hd
            refine wp_s 90 [some (.ref 382), some (.int x1), some (.int x2), none, none] [.int x1] h0 i_245_89 rfl ?_
            refine wp_s 91 [some (.ref 382), some (.int x1), some (.int x2), none, none] [.ref 382, .int x1] h0 i_245_90 rfl ?_
            refine wp_get (v := .ref 392) 94 rfl i_245_91 (HH.1 0 (by decide)) rfl ?_
            refine wp_s 95 [some (.ref 382), some (.int x1), some (.int x2), none, none] [.int (2 : Int32), .ref 392, .int x1] h0 i_245_94 rfl ?_
            obtain ⟨b_9, hd⟩ := dk_if hd
            refine wp_iald (f := (S.2.1 20)) 96 rfl i_245_95 (HH.1 10 (by decide)) b_9 ?_
            refine wp_cmp_gt 110 99 rfl rfl i_245_96 (fun c_10 => ?_) (fun c_10 => ?_)
            · rw [if_pos c_10] at hd
              refine wp_s 112 [some (.ref 382), some (.int x1), some (.int x2), none, none] [.int (-2 : Int32)] h0 i_245_110 rfl ?_
              obtain rfl := Option.some.inj hd
              exact wp_iret i_245_112 ⟨rfl, HH⟩
            · rw [if_neg c_10] at hd
              refine wp_s 100 [some (.ref 382), some (.int x1), some (.int x2), none, none] [.ref 382] h0 i_245_99 rfl ?_
              refine wp_get (v := .ref 395) 103 rfl i_245_100 (HH.1 0 (by decide)) rfl ?_
              refine wp_s 104 [some (.ref 382), some (.int x1), some (.int x2), none, none] [.int x1, .ref 395] h0 i_245_103 rfl ?_
              refine wp_s 105 [some (.ref 382), some (.int x1), some (.int x2), none, none] [.int (1 : Int32), .int x1, .ref 395] h0 i_245_104 rfl ?_
              refine wp_s 106 [some (.ref 382), some (.int x1), some (.int x2), none, none] [.int (x1 - (1 : Int32)), .ref 395] h0 i_245_105 rfl ?_
              obtain ⟨b_11, hd⟩ := dk_if hd
              refine wp_iald (f := (S.2.1 28)) 107 rfl i_245_106 (HH.1 13 (by decide)) b_11 ?_
              refine wp_s 112 [some (.ref 382), some (.int x1), some (.int x2), none, none] [.int ((S.2.1 28) (x1 - (1 : Int32)).toNatClampNeg)] h0 i_245_107 rfl ?_
              obtain rfl := Option.some.inj hd
              exact wp_iret i_245_112 ⟨rfl, HH⟩
        · rw [if_neg c_7] at hd
          refine wp_s 79 [some (.ref 382), some (.int x1), some (.int x2), none, none] [.ref 382] h0 i_245_78 rfl ?_
          refine wp_get (v := .int (S.1 30)) 82 rfl i_245_79 (HH.1 0 (by decide)) rfl ?_
          obtain rfl := Option.some.inj hd
          exact wp_iret i_245_82 ⟨rfl, HH⟩
      · rw [if_neg c_6] at hd
        refine wp_s 59 [some (.ref 382), some (.int x1), some (.int x2), none, none] [.ref 382] h0 i_245_58 rfl ?_
        refine wp_s 60 [some (.ref 382), some (.int x1), some (.int x2), none, none] [.ref 382, .ref 382] h0 i_245_59 rfl ?_
        obtain ⟨z_12, q_13, hd⟩ := dk_bind hd
        refine wp_callV 63 rfl i_245_60 (by decide) rfl (vs := []) (rest := [.ref 382]) rfl rfl rfl (HH.1 0 (by decide)) (y := m_241) rfl (Nat.le_of_ble_eq_true rfl) (d_241_ok (d := e) (by omega) HH.1 q_13) ?_
        rintro v_16 h_14 ⟨rfl, H_15⟩
        have H_15 := HH.tr H_15
        obtain ⟨z_17, q_18, hd⟩ := dk_bind hd
        refine wp_callV 66 rfl i_245_63 (by decide) rfl (vs := [.int z_12.1]) (rest := []) rfl rfl rfl (H_15.1 0 (by decide)) (y := m_242) rfl (Nat.le_of_ble_eq_true rfl) (d_242_ok (d := e) (by omega) H_15.1 q_18) ?_
        rintro v_21 h_19 ⟨rfl, H_20⟩
        have H_20 := H_15.tr H_20
        refine wp_s 67 [some (.ref 382), some (.int x1), some (.int x2), none, none] [.ref 382] h_19 i_245_66 rfl ?_
        obtain ⟨z_22, q_23, hd⟩ := dk_bind hd
        refine wp_callV 70 rfl i_245_67 (by decide) rfl (vs := []) (rest := []) rfl rfl rfl (H_20.1 0 (by decide)) (y := m_244) rfl (Nat.le_of_ble_eq_true rfl) (d_244_ok (d := e) (by omega) H_20.1 q_23) ?_
        rintro v_26 h_24 ⟨rfl, H_25⟩
        have H_25 := H_20.tr H_25
        refine wp_s 71 [some (.ref 382), some (.int x1), some (.int z_22.1), none, none] [] h_24 i_245_70 rfl ?_
        refine wp_s 54 [some (.ref 382), some (.int x1), some (.int z_22.1), none, none] [] h_24 i_245_71 rfl ?_
        exact aWp.post (aWp.forget (ih.2.1 _ _ _ _ _ _ _ _ H_25.1 hd) ((lvS (lvS (lvS (lvN (lvN lvE))))))) (fun _ _ hq => ⟨hq.1, H_25.tr hq.2⟩)
    · intro x1 x2 x3 x4 s0 S h0 zz HS hd
      unfold l_245 at hd
      rw [if_neg (by decide), if_neg (by decide), if_pos rfl] at hd
      have HH := rTo.rf HS
      obtain ⟨e, rfl⟩ : ∃ e, d = e + 1 := ⟨d - 1, by omega⟩
      refine wp_s 120 [some (.ref 382), some (.int x1), some (.int x2), some (.int x3), some (.int x4)] [.int x4] h0 i_245_118 rfl ?_
      refine wp_s 121 [some (.ref 382), some (.int x1), some (.int x2), some (.int x3), some (.int x4)] [.ref 382, .int x4] h0 i_245_120 rfl ?_
      refine wp_get (v := .ref 392) 124 rfl i_245_121 (HH.1 0 (by decide)) rfl ?_
      refine wp_s 125 [some (.ref 382), some (.int x1), some (.int x2), some (.int x3), some (.int x4)] [.int (2 : Int32), .ref 392, .int x4] h0 i_245_124 rfl ?_
      obtain ⟨b_27, hd⟩ := dk_if hd
      refine wp_iald (f := (S.2.1 20)) 126 rfl i_245_125 (HH.1 10 (by decide)) b_27 ?_
      refine wp_cmp_ge 158 129 rfl rfl i_245_126 (fun c_28 => ?_) (fun c_28 => ?_)
      · rw [if_pos c_28] at hd
        refine wp_s 159 [some (.ref 382), some (.int x1), some (.int x2), some (.int x3), some (.int x4)] [.int x3] h0 i_245_158 rfl ?_
        refine wp_s 160 [some (.ref 382), some (.int x1), some (.int x2), some (.int x3), some (.int x4)] [.int (1 : Int32), .int x3] h0 i_245_159 rfl ?_
        refine wp_s 161 [some (.ref 382), some (.int x1), some (.int x2), some (.int x3), some (.int x4)] [.int (x3 + (1 : Int32))] h0 i_245_160 rfl ?_
        obtain rfl := Option.some.inj hd
        exact wp_iret i_245_161 ⟨rfl, HH⟩
      · rw [if_neg c_28] at hd
        refine wp_s 130 [some (.ref 382), some (.int x1), some (.int x2), some (.int x3), some (.int x4)] [.ref 382] h0 i_245_129 rfl ?_
        refine wp_get (v := .ref 395) 133 rfl i_245_130 (HH.1 0 (by decide)) rfl ?_
        refine wp_s 135 [some (.ref 382), some (.int x1), some (.int x2), some (.int x3), some (.int x4)] [.int x4, .ref 395] h0 i_245_133 rfl ?_
        obtain ⟨b_29, hd⟩ := dk_if hd
        refine wp_iald (f := (S.2.1 28)) 136 rfl i_245_135 (HH.1 13 (by decide)) b_29 ?_
        refine wp_s 137 [some (.ref 382), some (.int x1), some (.int x2), some (.int x3), some (.int x4)] [.int x3, .int ((S.2.1 28) x4.toNatClampNeg)] h0 i_245_136 rfl ?_
        refine wp_cmp_le 150 140 rfl rfl i_245_137 (fun c_30 => ?_) (fun c_30 => ?_)
        · rw [if_pos c_30] at hd
          refine wp_s 151 [some (.ref 382), some (.int x1), some (.int x2), some (.int x3), some (.int x4)] [.int x3] h0 i_245_150 rfl ?_
          exact aWp.post (aWp.forget (ih.2.2.2 _ _ _ _ _ _ _ _ HH.1 hd) ((lvS (lvS (lvS (lvS (lvS lvE))))))) (fun _ _ hq => ⟨hq.1, HH.tr hq.2⟩)
        · rw [if_neg c_30] at hd
          refine wp_s 141 [some (.ref 382), some (.int x1), some (.int x2), some (.int x3), some (.int x4)] [.ref 382] h0 i_245_140 rfl ?_
          refine wp_get (v := .ref 395) 144 rfl i_245_141 (HH.1 0 (by decide)) rfl ?_
          refine wp_s 146 [some (.ref 382), some (.int x1), some (.int x2), some (.int x3), some (.int x4)] [.int x4, .ref 395] h0 i_245_144 rfl ?_
          obtain ⟨b_31, hd⟩ := dk_if hd
          refine wp_iald (f := (S.2.1 28)) 147 rfl i_245_146 (HH.1 13 (by decide)) b_31 ?_
          refine wp_s 151 [some (.ref 382), some (.int x1), some (.int x2), some (.int x3), some (.int x4)] [.int ((S.2.1 28) x4.toNatClampNeg)] h0 i_245_147 rfl ?_
          exact aWp.post (aWp.forget (ih.2.2.2 _ _ _ _ _ _ _ _ HH.1 hd) ((lvS (lvS (lvS (lvS (lvS lvE))))))) (fun _ _ hq => ⟨hq.1, HH.tr hq.2⟩)
    · intro x1 x2 x3 x4 s0 S h0 zz HS hd
      unfold l_245 at hd
      rw [if_neg (by decide), if_neg (by decide), if_neg (by decide), if_pos rfl] at hd
      have HH := rTo.rf HS
      obtain ⟨e, rfl⟩ : ∃ e, d = e + 1 := ⟨d - 1, by omega⟩
      refine wp_s 152 [some (.ref 382), some (.int x1), some (.int x2), some (.int s0), some (.int x4)] [] h0 i_245_151 rfl ?_
      refine wp_s 155 [some (.ref 382), some (.int x1), some (.int x2), some (.int s0), some (.int (x4 + (1 : Int32)))] [] h0 i_245_152 rfl ?_
      refine wp_s 118 [some (.ref 382), some (.int x1), some (.int x2), some (.int s0), some (.int (x4 + (1 : Int32)))] [] h0 i_245_155 rfl ?_
      exact aWp.post (aWp.forget (ih.2.2.1 _ _ _ _ _ _ _ _ HH.1 hd) ((lvS (lvS (lvS (lvS (lvS lvE))))))) (fun _ _ hq => ⟨hq.1, HH.tr hq.2⟩)
def d_245 (g : Nat) (x1 : Int32) (S : rS) : Option (Int32 × rS) := ((d_187 g  S).bind (fun z_1001 => (if z_1001.1 = 0 then some ((-3 : Int32), z_1001.2) else ((d_140 g (x1.toInt64) (0 : Int64) (7 : Int64) z_1001.2).bind (fun z_1007 => (if ¬ z_1007.1 = 0 then (l_245 g g 0 x1 (0 : Int32) 0 0 0 (rF z_1007.2 29 (-1 : Int32))) else some ((-3 : Int32), z_1007.2)))))))
set_option maxHeartbeats 4000000 in
set_option maxRecDepth 100000 in
theorem d_245_ok {X : aX} {g d : Nat} {x1 : Int32} {S : rS} {h0 : aH} {zz : Int32 × rS} (hdp : 7 ≤ d) (HS : rm h0 S) (hd : d_245 g x1 S = some zz) : aWp X d 245 0 (aEntL [.ref 382, .int x1] 5) [] h0 (fun w h' => w = some (.int zz.1) ∧ rTo h0 zz.2 h') := by
  unfold d_245 at hd
  have HH := rTo.rf HS
  refine wp_lv (l2 := [some (.ref 382), some (.int x1), none, none, none]) rfl ?_
  obtain ⟨e, rfl⟩ : ∃ e, d = e + 1 := ⟨d - 1, by omega⟩
  refine wp_s 1 [some (.ref 382), some (.int x1), none, none, none] [.ref 382] h0 i_245_0 rfl ?_
  obtain ⟨z_1001, q_1002, hd⟩ := dk_bind hd
  refine wp_callV 4 rfl i_245_1 (by decide) rfl (vs := []) (rest := []) rfl rfl rfl (HH.1 0 (by decide)) (y := m_187) rfl (Nat.le_of_ble_eq_true rfl) (d_187_ok (d := e) (by omega) HH.1 q_1002) ?_
  rintro v_1005 h_1003 ⟨rfl, H_1004⟩
  have H_1004 := HH.tr H_1004
  refine wp_if_eq 19 7 rfl rfl i_245_4 (fun c_1006 => ?_) (fun c_1006 => ?_)
  · rw [if_pos c_1006] at hd
    refine wp_s 21 [some (.ref 382), some (.int x1), none, none, none] [.int (-3 : Int32)] h_1003 i_245_19 rfl ?_
    obtain rfl := Option.some.inj hd
    exact wp_iret i_245_21 ⟨rfl, H_1004⟩
  · rw [if_neg c_1006] at hd
    refine wp_s 8 [some (.ref 382), some (.int x1), none, none, none] [.int x1] h_1003 i_245_7 rfl ?_
    refine wp_s 9 [some (.ref 382), some (.int x1), none, none, none] [.long (x1.toInt64)] h_1003 i_245_8 rfl ?_
    refine wp_s 10 [some (.ref 382), some (.int x1), none, none, none] [.long (0 : Int64), .long (x1.toInt64)] h_1003 i_245_9 rfl ?_
    refine wp_s 13 [some (.ref 382), some (.int x1), none, none, none] [.long (7 : Int64), .long (0 : Int64), .long (x1.toInt64)] h_1003 i_245_10 rfl ?_
    obtain ⟨z_1007, q_1008, hd⟩ := dk_bind hd
    refine wp_callS 16 rfl i_245_13 (by decide) (vs := [.long (x1.toInt64), .long (0 : Int64), .long (7 : Int64)]) (rest := []) rfl rfl rfl (y := m_140) rfl (Nat.le_of_ble_eq_true rfl) (d_140_ok (d := e) (by omega) H_1004.1 q_1008) ?_
    rintro v_1011 h_1009 ⟨rfl, H_1010⟩
    have H_1010 := H_1004.tr H_1010
    refine wp_if_ne 22 19 rfl rfl i_245_16 (fun c_1012 => ?_) (fun c_1012 => ?_)
    · rw [if_pos c_1012] at hd
      refine wp_s 23 [some (.ref 382), some (.int x1), none, none, none] [.ref 382] h_1009 i_245_22 rfl ?_
      refine wp_s 24 [some (.ref 382), some (.int x1), none, none, none] [.int (-1 : Int32), .ref 382] h_1009 i_245_23 rfl ?_
      refine rq_F29 27 rfl i_245_24 H_1010 (fun h_1013 H_1014 => ?_)
      refine wp_s 28 [some (.ref 382), some (.int x1), none, none, none] [.int (0 : Int32)] h_1013 i_245_27 rfl ?_
      refine wp_s 29 [some (.ref 382), some (.int x1), some (.int (0 : Int32)), none, none] [] h_1013 i_245_28 rfl ?_
      exact aWp.post (aWp.forget ((l_245_ok hdp g).1 _ _ _ _ _ _ _ _ H_1014.1 hd) ((lvS (lvS (lvS (lvN (lvN lvE))))))) (fun _ _ hq => ⟨hq.1, H_1014.tr hq.2⟩)
    · rw [if_neg c_1012] at hd
      refine wp_s 21 [some (.ref 382), some (.int x1), none, none, none] [.int (-3 : Int32)] h_1009 i_245_19 rfl ?_
      obtain rfl := Option.some.inj hd
      exact wp_iret i_245_21 ⟨rfl, H_1010⟩
def d_246 (g : Nat) (x1 : Int32) (S : rS) : Option (Int32 × rS) := (if aIn (((96 : Int32) + ((2 : Int32) * x1)) + (1 : Int32)) 181 = true then (if aIn (7 : Int32) 181 = true then (if 0 ≤ (((S.2.1 20) (((96 : Int32) + ((2 : Int32) * x1)) + (1 : Int32)).toNatClampNeg) - ((S.2.1 20) (7 : Int32).toNatClampNeg)) then (if (((S.2.1 20) (((96 : Int32) + ((2 : Int32) * x1)) + (1 : Int32)).toNatClampNeg) - ((S.2.1 20) (7 : Int32).toNatClampNeg)) ≤ (4 : Int32) then some ((((S.2.1 20) (((96 : Int32) + ((2 : Int32) * x1)) + (1 : Int32)).toNatClampNeg) - ((S.2.1 20) (7 : Int32).toNatClampNeg)), S) else some ((4 : Int32), S)) else some ((0 : Int32), S)) else none) else none)
set_option maxHeartbeats 4000000 in
set_option maxRecDepth 100000 in
theorem d_246_ok {X : aX} {g d : Nat} {x1 : Int32} {S : rS} {h0 : aH} {zz : Int32 × rS} (hdp : 0 ≤ d) (HS : rm h0 S) (hd : d_246 g x1 S = some zz) : aWp X d 246 0 (aEntL [.ref 382, .int x1] 3) [] h0 (fun w h' => w = some (.int zz.1) ∧ rTo h0 zz.2 h') := by
  unfold d_246 at hd
  have HH := rTo.rf HS
  refine wp_lv (l2 := [some (.ref 382), some (.int x1), none]) rfl ?_
  refine wp_s 1 [some (.ref 382), some (.int x1), none] [.ref 382] h0 i_246_0 rfl ?_
  refine wp_get (v := .ref 392) 4 rfl i_246_1 (HH.1 0 (by decide)) rfl ?_
  refine wp_s 6 [some (.ref 382), some (.int x1), none] [.int (96 : Int32), .ref 392] h0 i_246_4 rfl ?_
  refine wp_s 7 [some (.ref 382), some (.int x1), none] [.int (2 : Int32), .int (96 : Int32), .ref 392] h0 i_246_6 rfl ?_
  refine wp_s 8 [some (.ref 382), some (.int x1), none] [.int x1, .int (2 : Int32), .int (96 : Int32), .ref 392] h0 i_246_7 rfl ?_
  refine wp_s 9 [some (.ref 382), some (.int x1), none] [.int ((2 : Int32) * x1), .int (96 : Int32), .ref 392] h0 i_246_8 rfl ?_
  refine wp_s 10 [some (.ref 382), some (.int x1), none] [.int ((96 : Int32) + ((2 : Int32) * x1)), .ref 392] h0 i_246_9 rfl ?_
  refine wp_s 11 [some (.ref 382), some (.int x1), none] [.int (1 : Int32), .int ((96 : Int32) + ((2 : Int32) * x1)), .ref 392] h0 i_246_10 rfl ?_
  refine wp_s 12 [some (.ref 382), some (.int x1), none] [.int (((96 : Int32) + ((2 : Int32) * x1)) + (1 : Int32)), .ref 392] h0 i_246_11 rfl ?_
  obtain ⟨b_1, hd⟩ := dk_if hd
  refine wp_iald (f := (S.2.1 20)) 13 rfl i_246_12 (HH.1 10 (by decide)) b_1 ?_
  refine wp_s 14 [some (.ref 382), some (.int x1), none] [.ref 382, .int ((S.2.1 20) (((96 : Int32) + ((2 : Int32) * x1)) + (1 : Int32)).toNatClampNeg)] h0 i_246_13 rfl ?_
  refine wp_get (v := .ref 392) 17 rfl i_246_14 (HH.1 0 (by decide)) rfl ?_
  refine wp_s 19 [some (.ref 382), some (.int x1), none] [.int (7 : Int32), .ref 392, .int ((S.2.1 20) (((96 : Int32) + ((2 : Int32) * x1)) + (1 : Int32)).toNatClampNeg)] h0 i_246_17 rfl ?_
  obtain ⟨b_2, hd⟩ := dk_if hd
  refine wp_iald (f := (S.2.1 20)) 20 rfl i_246_19 (HH.1 10 (by decide)) b_2 ?_
  refine wp_s 21 [some (.ref 382), some (.int x1), none] [.int (((S.2.1 20) (((96 : Int32) + ((2 : Int32) * x1)) + (1 : Int32)).toNatClampNeg) - ((S.2.1 20) (7 : Int32).toNatClampNeg))] h0 i_246_20 rfl ?_
  refine wp_s 22 [some (.ref 382), some (.int x1), some (.int (((S.2.1 20) (((96 : Int32) + ((2 : Int32) * x1)) + (1 : Int32)).toNatClampNeg) - ((S.2.1 20) (7 : Int32).toNatClampNeg)))] [] h0 i_246_21 rfl ?_
  refine wp_s 23 [some (.ref 382), some (.int x1), some (.int (((S.2.1 20) (((96 : Int32) + ((2 : Int32) * x1)) + (1 : Int32)).toNatClampNeg) - ((S.2.1 20) (7 : Int32).toNatClampNeg)))] [.int (((S.2.1 20) (((96 : Int32) + ((2 : Int32) * x1)) + (1 : Int32)).toNatClampNeg) - ((S.2.1 20) (7 : Int32).toNatClampNeg))] h0 i_246_22 rfl ?_
  refine wp_if_ge 30 26 rfl rfl i_246_23 (fun c_3 => ?_) (fun c_3 => ?_)
  · rw [if_pos c_3] at hd
    refine wp_s 31 [some (.ref 382), some (.int x1), some (.int (((S.2.1 20) (((96 : Int32) + ((2 : Int32) * x1)) + (1 : Int32)).toNatClampNeg) - ((S.2.1 20) (7 : Int32).toNatClampNeg)))] [.int (((S.2.1 20) (((96 : Int32) + ((2 : Int32) * x1)) + (1 : Int32)).toNatClampNeg) - ((S.2.1 20) (7 : Int32).toNatClampNeg))] h0 i_246_30 rfl ?_
    refine wp_s 32 [some (.ref 382), some (.int x1), some (.int (((S.2.1 20) (((96 : Int32) + ((2 : Int32) * x1)) + (1 : Int32)).toNatClampNeg) - ((S.2.1 20) (7 : Int32).toNatClampNeg)))] [.int (4 : Int32), .int (((S.2.1 20) (((96 : Int32) + ((2 : Int32) * x1)) + (1 : Int32)).toNatClampNeg) - ((S.2.1 20) (7 : Int32).toNatClampNeg))] h0 i_246_31 rfl ?_
    refine wp_cmp_le 39 35 rfl rfl i_246_32 (fun c_4 => ?_) (fun c_4 => ?_)
    · rw [if_pos c_4] at hd
      refine wp_s 40 [some (.ref 382), some (.int x1), some (.int (((S.2.1 20) (((96 : Int32) + ((2 : Int32) * x1)) + (1 : Int32)).toNatClampNeg) - ((S.2.1 20) (7 : Int32).toNatClampNeg)))] [.int (((S.2.1 20) (((96 : Int32) + ((2 : Int32) * x1)) + (1 : Int32)).toNatClampNeg) - ((S.2.1 20) (7 : Int32).toNatClampNeg))] h0 i_246_39 rfl ?_
      obtain rfl := Option.some.inj hd
      exact wp_iret i_246_40 ⟨rfl, HH⟩
    · rw [if_neg c_4] at hd
      refine wp_s 36 [some (.ref 382), some (.int x1), some (.int (((S.2.1 20) (((96 : Int32) + ((2 : Int32) * x1)) + (1 : Int32)).toNatClampNeg) - ((S.2.1 20) (7 : Int32).toNatClampNeg)))] [.int (4 : Int32)] h0 i_246_35 rfl ?_
      refine wp_s 40 [some (.ref 382), some (.int x1), some (.int (((S.2.1 20) (((96 : Int32) + ((2 : Int32) * x1)) + (1 : Int32)).toNatClampNeg) - ((S.2.1 20) (7 : Int32).toNatClampNeg)))] [.int (4 : Int32)] h0 i_246_36 rfl ?_
      obtain rfl := Option.some.inj hd
      exact wp_iret i_246_40 ⟨rfl, HH⟩
  · rw [if_neg c_3] at hd
    refine wp_s 27 [some (.ref 382), some (.int x1), some (.int (((S.2.1 20) (((96 : Int32) + ((2 : Int32) * x1)) + (1 : Int32)).toNatClampNeg) - ((S.2.1 20) (7 : Int32).toNatClampNeg)))] [.int (0 : Int32)] h0 i_246_26 rfl ?_
    refine wp_s 40 [some (.ref 382), some (.int x1), some (.int (((S.2.1 20) (((96 : Int32) + ((2 : Int32) * x1)) + (1 : Int32)).toNatClampNeg) - ((S.2.1 20) (7 : Int32).toNatClampNeg)))] [.int (0 : Int32)] h0 i_246_27 rfl ?_
    obtain rfl := Option.some.inj hd
    exact wp_iret i_246_40 ⟨rfl, HH⟩
def l_247 (g n tag : Nat) (x1 : Int32) (x2 : Int32) (x3 : Int32) (x4 : Int32) (s0 : Int32) (s1 : Int32) (S : rS) : Option (Int32 × rS) := match n with
  | 0 => none
  | n + 1 => if tag = 0 then (if (5 : Int32) ≤ x2 then some (x1, S) else (l_247 g n 1 x1 x2 (0 : Int32) (0 : Int32) 0 0 S)) else if tag = 1 then (if aIn (2 : Int32) 181 = true then (if ((S.2.1 20) (2 : Int32).toNatClampNeg) ≤ x4 then (if ¬ x3 = 0 then ((d_208 g x3 S).bind (fun z_5 => (l_247 g n 3 x1 x2 x3 x4 z_5.1 x1 z_5.2))) else (l_247 g n 3 x1 x2 x3 x4 (0 : Int32) x1 S)) else (if aIn x4 6 = true then (if ¬ ((S.2.1 32) x4.toNatClampNeg) = x2 then (l_247 g n 2 x1 x2 x3 x4 (0 : Int32) x3 S) else ((d_240 g x4 S).bind (fun z_12 => (if aIn (7 : Int32) 181 = true then ((d_199 g z_12.1 (((z_12.2.2.1 20) (7 : Int32).toNatClampNeg) + x2) z_12.2).bind (fun z_18 => (l_247 g n 2 x1 x2 x3 x4 z_18.1 x3 z_18.2))) else none)))) else none)) else none) else if tag = 2 then (l_247 g n 1 x1 x2 (s1 + s0) (x4 + (1 : Int32)) 0 0 S) else if tag = 3 then (l_247 g n 0 (s1 + s0) (x2 + (1 : Int32)) 0 0 0 0 S) else none
set_option maxHeartbeats 4000000 in
set_option maxRecDepth 100000 in
theorem l_247_ok {X : aX} {g d : Nat} (hdp : 5 ≤ d) : ∀ n, (∀ (x1 : Int32) (x2 : Int32) (x3 : Int32) (x4 : Int32) (s0 : Int32) (s1 : Int32) (S : rS) (h0 : aH) (zz : Int32 × rS), rm h0 S → l_247 g n 0 x1 x2 x3 x4 s0 s1 S = some zz → aWp X d 247 4 [some (.ref 382), some (.int x1), some (.int x2), none, none] [] h0 (fun w h' => w = some (.int zz.1) ∧ rTo h0 zz.2 h')) ∧ (∀ (x1 : Int32) (x2 : Int32) (x3 : Int32) (x4 : Int32) (s0 : Int32) (s1 : Int32) (S : rS) (h0 : aH) (zz : Int32 × rS), rm h0 S → l_247 g n 1 x1 x2 x3 x4 s0 s1 S = some zz → aWp X d 247 14 [some (.ref 382), some (.int x1), some (.int x2), some (.int x3), some (.int x4)] [] h0 (fun w h' => w = some (.int zz.1) ∧ rTo h0 zz.2 h')) ∧ (∀ (x1 : Int32) (x2 : Int32) (x3 : Int32) (x4 : Int32) (s0 : Int32) (s1 : Int32) (S : rS) (h0 : aH) (zz : Int32 × rS), rm h0 S → l_247 g n 2 x1 x2 x3 x4 s0 s1 S = some zz → aWp X d 247 60 [some (.ref 382), some (.int x1), some (.int x2), some (.int x3), some (.int x4)] [.int s0, .int s1] h0 (fun w h' => w = some (.int zz.1) ∧ rTo h0 zz.2 h')) ∧ (∀ (x1 : Int32) (x2 : Int32) (x3 : Int32) (x4 : Int32) (s0 : Int32) (s1 : Int32) (S : rS) (h0 : aH) (zz : Int32 × rS), rm h0 S → l_247 g n 3 x1 x2 x3 x4 s0 s1 S = some zz → aWp X d 247 82 [some (.ref 382), some (.int x1), some (.int x2), some (.int x3), some (.int x4)] [.int s0, .int s1] h0 (fun w h' => w = some (.int zz.1) ∧ rTo h0 zz.2 h')) := by
  intro n
  induction n with
  | zero => exact ⟨fun _ _ _ _ _ _ _ _ _ _ hd => by simp [l_247] at hd, fun _ _ _ _ _ _ _ _ _ _ hd => by simp [l_247] at hd, fun _ _ _ _ _ _ _ _ _ _ hd => by simp [l_247] at hd, fun _ _ _ _ _ _ _ _ _ _ hd => by simp [l_247] at hd⟩
  | succ n ih =>
    refine ⟨?_, ?_, ?_, ?_⟩
    · intro x1 x2 x3 x4 s0 s1 S h0 zz HS hd
      unfold l_247 at hd
      rw [if_pos rfl] at hd
      have HH := rTo.rf HS
      obtain ⟨e, rfl⟩ : ∃ e, d = e + 1 := ⟨d - 1, by omega⟩
      refine wp_s 5 [some (.ref 382), some (.int x1), some (.int x2), none, none] [.int x2] h0 i_247_4 rfl ?_
      refine wp_s 6 [some (.ref 382), some (.int x1), some (.int x2), none, none] [.int (5 : Int32), .int x2] h0 i_247_5 rfl ?_
      refine wp_cmp_ge 90 9 rfl rfl i_247_6 (fun c_1 => ?_) (fun c_1 => ?_)
      · rw [if_pos c_1] at hd
        refine wp_s 91 [some (.ref 382), some (.int x1), some (.int x2), none, none] [.int x1] h0 i_247_90 rfl ?_
        obtain rfl := Option.some.inj hd
        exact wp_iret i_247_91 ⟨rfl, HH⟩
      · rw [if_neg c_1] at hd
        refine wp_s 10 [some (.ref 382), some (.int x1), some (.int x2), none, none] [.int (0 : Int32)] h0 i_247_9 rfl ?_
        refine wp_s 11 [some (.ref 382), some (.int x1), some (.int x2), some (.int (0 : Int32)), none] [] h0 i_247_10 rfl ?_
        refine wp_s 12 [some (.ref 382), some (.int x1), some (.int x2), some (.int (0 : Int32)), none] [.int (0 : Int32)] h0 i_247_11 rfl ?_
        refine wp_s 14 [some (.ref 382), some (.int x1), some (.int x2), some (.int (0 : Int32)), some (.int (0 : Int32))] [] h0 i_247_12 rfl ?_
        exact aWp.post (aWp.forget (ih.2.1 _ _ _ _ _ _ _ _ _ HH.1 hd) ((lvS (lvS (lvS (lvS (lvS lvE))))))) (fun _ _ hq => ⟨hq.1, HH.tr hq.2⟩)
    · intro x1 x2 x3 x4 s0 s1 S h0 zz HS hd
      unfold l_247 at hd
      rw [if_neg (by decide), if_pos rfl] at hd
      have HH := rTo.rf HS
      obtain ⟨e, rfl⟩ : ∃ e, d = e + 1 := ⟨d - 1, by omega⟩
      refine wp_s 16 [some (.ref 382), some (.int x1), some (.int x2), some (.int x3), some (.int x4)] [.int x4] h0 i_247_14 rfl ?_
      refine wp_s 17 [some (.ref 382), some (.int x1), some (.int x2), some (.int x3), some (.int x4)] [.ref 382, .int x4] h0 i_247_16 rfl ?_
      refine wp_get (v := .ref 392) 20 rfl i_247_17 (HH.1 0 (by decide)) rfl ?_
      refine wp_s 21 [some (.ref 382), some (.int x1), some (.int x2), some (.int x3), some (.int x4)] [.int (2 : Int32), .ref 392, .int x4] h0 i_247_20 rfl ?_
      obtain ⟨b_2, hd⟩ := dk_if hd
      refine wp_iald (f := (S.2.1 20)) 22 rfl i_247_21 (HH.1 10 (by decide)) b_2 ?_
      refine wp_cmp_ge 68 25 rfl rfl i_247_22 (fun c_3 => ?_) (fun c_3 => ?_)
      · rw [if_pos c_3] at hd
        refine wp_s 69 [some (.ref 382), some (.int x1), some (.int x2), some (.int x3), some (.int x4)] [.int x1] h0 i_247_68 rfl ?_
        refine wp_s 70 [some (.ref 382), some (.int x1), some (.int x2), some (.int x3), some (.int x4)] [.int x3, .int x1] h0 i_247_69 rfl ?_
        refine wp_if_ne 77 73 rfl rfl i_247_70 (fun c_4 => ?_) (fun c_4 => ?_)
        · rw [if_pos c_4] at hd
          refine wp_s 78 [some (.ref 382), some (.int x1), some (.int x2), some (.int x3), some (.int x4)] [.ref 382, .int x1] h0 i_247_77 rfl ?_
          refine wp_s 79 [some (.ref 382), some (.int x1), some (.int x2), some (.int x3), some (.int x4)] [.int x3, .ref 382, .int x1] h0 i_247_78 rfl ?_
          obtain ⟨z_5, q_6, hd⟩ := dk_bind hd
          refine wp_callV 82 rfl i_247_79 (by decide) rfl (vs := [.int x3]) (rest := [.int x1]) rfl rfl rfl (HH.1 0 (by decide)) (y := m_208) rfl (Nat.le_of_ble_eq_true rfl) (d_208_ok (d := e) (by omega) HH.1 q_6) ?_
          rintro v_9 h_7 ⟨rfl, H_8⟩
          have H_8 := HH.tr H_8
          exact aWp.post (aWp.forget (ih.2.2.2 _ _ _ _ _ _ _ _ _ H_8.1 hd) ((lvS (lvS (lvS (lvS (lvS lvE))))))) (fun _ _ hq => ⟨hq.1, H_8.tr hq.2⟩)
        · rw [if_neg c_4] at hd
          refine wp_s 74 [some (.ref 382), some (.int x1), some (.int x2), some (.int x3), some (.int x4)] [.int (0 : Int32), .int x1] h0 i_247_73 rfl ?_
          refine wp_s 82 [some (.ref 382), some (.int x1), some (.int x2), some (.int x3), some (.int x4)] [.int (0 : Int32), .int x1] h0 i_247_74 rfl ?_
          exact aWp.post (aWp.forget (ih.2.2.2 _ _ _ _ _ _ _ _ _ HH.1 hd) ((lvS (lvS (lvS (lvS (lvS lvE))))))) (fun _ _ hq => ⟨hq.1, HH.tr hq.2⟩)
      · rw [if_neg c_3] at hd
        refine wp_s 26 [some (.ref 382), some (.int x1), some (.int x2), some (.int x3), some (.int x4)] [.int x3] h0 i_247_25 rfl ?_
        refine wp_s 27 [some (.ref 382), some (.int x1), some (.int x2), some (.int x3), some (.int x4)] [.ref 382, .int x3] h0 i_247_26 rfl ?_
        refine wp_get (v := .ref 397) 30 rfl i_247_27 (HH.1 0 (by decide)) rfl ?_
        refine wp_s 32 [some (.ref 382), some (.int x1), some (.int x2), some (.int x3), some (.int x4)] [.int x4, .ref 397, .int x3] h0 i_247_30 rfl ?_
        obtain ⟨b_10, hd⟩ := dk_if hd
        refine wp_iald (f := (S.2.1 32)) 33 rfl i_247_32 (HH.1 15 (by decide)) b_10 ?_
        refine wp_s 34 [some (.ref 382), some (.int x1), some (.int x2), some (.int x3), some (.int x4)] [.int x2, .int ((S.2.1 32) x4.toNatClampNeg), .int x3] h0 i_247_33 rfl ?_
        refine wp_cmp_ne 59 37 rfl rfl i_247_34 (fun c_11 => ?_) (fun c_11 => ?_)
        · rw [if_pos c_11] at hd
          refine wp_s 60 [some (.ref 382), some (.int x1), some (.int x2), some (.int x3), some (.int x4)] [.int (0 : Int32), .int x3] h0 i_247_59 rfl ?_
          exact aWp.post (aWp.forget (ih.2.2.1 _ _ _ _ _ _ _ _ _ HH.1 hd) ((lvS (lvS (lvS (lvS (lvS lvE))))))) (fun _ _ hq => ⟨hq.1, HH.tr hq.2⟩)
        · rw [if_neg c_11] at hd
          refine wp_s 38 [some (.ref 382), some (.int x1), some (.int x2), some (.int x3), some (.int x4)] [.ref 382, .int x3] h0 i_247_37 rfl ?_
          refine wp_s 39 [some (.ref 382), some (.int x1), some (.int x2), some (.int x3), some (.int x4)] [.ref 382, .ref 382, .int x3] h0 i_247_38 rfl ?_
          refine wp_s 41 [some (.ref 382), some (.int x1), some (.int x2), some (.int x3), some (.int x4)] [.int x4, .ref 382, .ref 382, .int x3] h0 i_247_39 rfl ?_
          obtain ⟨z_12, q_13, hd⟩ := dk_bind hd
          refine wp_callV 44 rfl i_247_41 (by decide) rfl (vs := [.int x4]) (rest := [.ref 382, .int x3]) rfl rfl rfl (HH.1 0 (by decide)) (y := m_240) rfl (Nat.le_of_ble_eq_true rfl) (d_240_ok (d := e) (by omega) HH.1 q_13) ?_
          rintro v_16 h_14 ⟨rfl, H_15⟩
          have H_15 := HH.tr H_15
          refine wp_s 45 [some (.ref 382), some (.int x1), some (.int x2), some (.int x3), some (.int x4)] [.ref 382, .int z_12.1, .ref 382, .int x3] h_14 i_247_44 rfl ?_
          refine wp_get (v := .ref 392) 48 rfl i_247_45 (H_15.1 0 (by decide)) rfl ?_
          refine wp_s 50 [some (.ref 382), some (.int x1), some (.int x2), some (.int x3), some (.int x4)] [.int (7 : Int32), .ref 392, .int z_12.1, .ref 382, .int x3] h_14 i_247_48 rfl ?_
          obtain ⟨b_17, hd⟩ := dk_if hd
          refine wp_iald (f := (z_12.2.2.1 20)) 51 rfl i_247_50 (H_15.1 10 (by decide)) b_17 ?_
          refine wp_s 52 [some (.ref 382), some (.int x1), some (.int x2), some (.int x3), some (.int x4)] [.int x2, .int ((z_12.2.2.1 20) (7 : Int32).toNatClampNeg), .int z_12.1, .ref 382, .int x3] h_14 i_247_51 rfl ?_
          refine wp_s 53 [some (.ref 382), some (.int x1), some (.int x2), some (.int x3), some (.int x4)] [.int (((z_12.2.2.1 20) (7 : Int32).toNatClampNeg) + x2), .int z_12.1, .ref 382, .int x3] h_14 i_247_52 rfl ?_
          obtain ⟨z_18, q_19, hd⟩ := dk_bind hd
          refine wp_callV 56 rfl i_247_53 (by decide) rfl (vs := [.int z_12.1, .int (((z_12.2.2.1 20) (7 : Int32).toNatClampNeg) + x2)]) (rest := [.int x3]) rfl rfl rfl (H_15.1 0 (by decide)) (y := m_199) rfl (Nat.le_of_ble_eq_true rfl) (d_199_ok (d := e) (by omega) H_15.1 q_19) ?_
          rintro v_22 h_20 ⟨rfl, H_21⟩
          have H_21 := H_15.tr H_21
          refine wp_s 60 [some (.ref 382), some (.int x1), some (.int x2), some (.int x3), some (.int x4)] [.int z_18.1, .int x3] h_20 i_247_56 rfl ?_
          exact aWp.post (aWp.forget (ih.2.2.1 _ _ _ _ _ _ _ _ _ H_21.1 hd) ((lvS (lvS (lvS (lvS (lvS lvE))))))) (fun _ _ hq => ⟨hq.1, H_21.tr hq.2⟩)
    · intro x1 x2 x3 x4 s0 s1 S h0 zz HS hd
      unfold l_247 at hd
      rw [if_neg (by decide), if_neg (by decide), if_pos rfl] at hd
      have HH := rTo.rf HS
      obtain ⟨e, rfl⟩ : ∃ e, d = e + 1 := ⟨d - 1, by omega⟩
      refine wp_s 61 [some (.ref 382), some (.int x1), some (.int x2), some (.int x3), some (.int x4)] [.int (s1 + s0)] h0 i_247_60 rfl ?_
      refine wp_s 62 [some (.ref 382), some (.int x1), some (.int x2), some (.int (s1 + s0)), some (.int x4)] [] h0 i_247_61 rfl ?_
      refine wp_s 65 [some (.ref 382), some (.int x1), some (.int x2), some (.int (s1 + s0)), some (.int (x4 + (1 : Int32)))] [] h0 i_247_62 rfl ?_
      refine wp_s 14 [some (.ref 382), some (.int x1), some (.int x2), some (.int (s1 + s0)), some (.int (x4 + (1 : Int32)))] [] h0 i_247_65 rfl ?_
      exact aWp.post (aWp.forget (ih.2.1 _ _ _ _ _ _ _ _ _ HH.1 hd) ((lvS (lvS (lvS (lvS (lvS lvE))))))) (fun _ _ hq => ⟨hq.1, HH.tr hq.2⟩)
    · intro x1 x2 x3 x4 s0 s1 S h0 zz HS hd
      unfold l_247 at hd
      rw [if_neg (by decide), if_neg (by decide), if_neg (by decide), if_pos rfl] at hd
      have HH := rTo.rf HS
      obtain ⟨e, rfl⟩ : ∃ e, d = e + 1 := ⟨d - 1, by omega⟩
      refine wp_s 83 [some (.ref 382), some (.int x1), some (.int x2), some (.int x3), some (.int x4)] [.int (s1 + s0)] h0 i_247_82 rfl ?_
      refine wp_s 84 [some (.ref 382), some (.int (s1 + s0)), some (.int x2), some (.int x3), some (.int x4)] [] h0 i_247_83 rfl ?_
      refine wp_s 87 [some (.ref 382), some (.int (s1 + s0)), some (.int (x2 + (1 : Int32))), some (.int x3), some (.int x4)] [] h0 i_247_84 rfl ?_
      refine wp_s 4 [some (.ref 382), some (.int (s1 + s0)), some (.int (x2 + (1 : Int32))), some (.int x3), some (.int x4)] [] h0 i_247_87 rfl ?_
      exact aWp.post (aWp.forget (ih.1 _ _ _ _ _ _ _ _ _ HH.1 hd) ((lvS (lvS (lvS (lvN (lvN lvE))))))) (fun _ _ hq => ⟨hq.1, HH.tr hq.2⟩)
def d_247 (g : Nat)  (S : rS) : Option (Int32 × rS) := (l_247 g g 0 (0 : Int32) (0 : Int32) 0 0 0 0 S)
set_option maxHeartbeats 4000000 in
set_option maxRecDepth 100000 in
theorem d_247_ok {X : aX} {g d : Nat}  {S : rS} {h0 : aH} {zz : Int32 × rS} (hdp : 5 ≤ d) (HS : rm h0 S) (hd : d_247 g  S = some zz) : aWp X d 247 0 (aEntL [.ref 382] 5) [] h0 (fun w h' => w = some (.int zz.1) ∧ rTo h0 zz.2 h') := by
  unfold d_247 at hd
  have HH := rTo.rf HS
  refine wp_lv (l2 := [some (.ref 382), none, none, none, none]) rfl ?_
  obtain ⟨e, rfl⟩ : ∃ e, d = e + 1 := ⟨d - 1, by omega⟩
  refine wp_s 1 [some (.ref 382), none, none, none, none] [.int (0 : Int32)] h0 i_247_0 rfl ?_
  refine wp_s 2 [some (.ref 382), some (.int (0 : Int32)), none, none, none] [] h0 i_247_1 rfl ?_
  refine wp_s 3 [some (.ref 382), some (.int (0 : Int32)), none, none, none] [.int (0 : Int32)] h0 i_247_2 rfl ?_
  refine wp_s 4 [some (.ref 382), some (.int (0 : Int32)), some (.int (0 : Int32)), none, none] [] h0 i_247_3 rfl ?_
  exact aWp.post (aWp.forget ((l_247_ok hdp g).1 _ _ _ _ _ _ _ _ _ HH.1 hd) ((lvS (lvS (lvS (lvN (lvN lvE))))))) (fun _ _ hq => ⟨hq.1, HH.tr hq.2⟩)
def l_248 (g n tag : Nat) (x1 : Int32) (x2 : Int32) (S : rS) : Option (Int32 × rS) := match n with
  | 0 => none
  | n + 1 => if tag = 0 then (if x1 < 0 then (l_248 g n 1 x1 0 S) else (if aIn x1 6 = true then ((d_246 g x1 S).bind (fun z_3 => (if ¬ ((S.2.1 32) x1.toNatClampNeg) = z_3.1 then (l_248 g n 1 x1 0 z_3.2) else (l_248 g n 0 (x1 + (-1 : Int32)) 0 z_3.2)))) else none)) else if tag = 1 then (if 0 ≤ x1 then (if aIn x1 6 = true then (if aIn x1 6 = true then (l_248 g n 2 x1 (x1 + (1 : Int32)) (rA S 32 (upd (S.2.1 32) x1.toNatClampNeg (((S.2.1 32) x1.toNatClampNeg) + (1 : Int32))))) else none) else none) else some ((0 : Int32), S)) else if tag = 2 then (if aIn (2 : Int32) 181 = true then (if ((S.2.1 20) (2 : Int32).toNatClampNeg) ≤ x2 then some ((1 : Int32), S) else (if aIn x2 6 = true then (l_248 g n 2 x1 (x2 + (1 : Int32)) (rA S 32 (upd (S.2.1 32) x2.toNatClampNeg (0 : Int32)))) else none)) else none) else none
set_option maxHeartbeats 4000000 in
set_option maxRecDepth 100000 in
theorem l_248_ok {X : aX} {g d : Nat} (hdp : 1 ≤ d) : ∀ n, (∀ (x1 : Int32) (x2 : Int32) (S : rS) (h0 : aH) (zz : Int32 × rS), rm h0 S → l_248 g n 0 x1 x2 S = some zz → aWp X d 248 9 [some (.ref 382), some (.int x1), none] [] h0 (fun w h' => w = some (.int zz.1) ∧ rTo h0 zz.2 h')) ∧ (∀ (x1 : Int32) (x2 : Int32) (S : rS) (h0 : aH) (zz : Int32 × rS), rm h0 S → l_248 g n 1 x1 x2 S = some zz → aWp X d 248 33 [some (.ref 382), some (.int x1), none] [] h0 (fun w h' => w = some (.int zz.1) ∧ rTo h0 zz.2 h')) ∧ (∀ (x1 : Int32) (x2 : Int32) (S : rS) (h0 : aH) (zz : Int32 × rS), rm h0 S → l_248 g n 2 x1 x2 S = some zz → aWp X d 248 53 [some (.ref 382), some (.int x1), some (.int x2)] [] h0 (fun w h' => w = some (.int zz.1) ∧ rTo h0 zz.2 h')) := by
  intro n
  induction n with
  | zero => exact ⟨fun _ _ _ _ _ _ hd => by simp [l_248] at hd, fun _ _ _ _ _ _ hd => by simp [l_248] at hd, fun _ _ _ _ _ _ hd => by simp [l_248] at hd⟩
  | succ n ih =>
    refine ⟨?_, ?_, ?_⟩
    · intro x1 x2 S h0 zz HS hd
      unfold l_248 at hd
      rw [if_pos rfl] at hd
      have HH := rTo.rf HS
      obtain ⟨e, rfl⟩ : ∃ e, d = e + 1 := ⟨d - 1, by omega⟩
      refine wp_s 10 [some (.ref 382), some (.int x1), none] [.int x1] h0 i_248_9 rfl ?_
      refine wp_if_lt 33 13 rfl rfl i_248_10 (fun c_1 => ?_) (fun c_1 => ?_)
      · rw [if_pos c_1] at hd
        exact aWp.post (aWp.forget (ih.2.1 _ _ _ _ _ HH.1 hd) ((lvS (lvS (lvN lvE))))) (fun _ _ hq => ⟨hq.1, HH.tr hq.2⟩)
      · rw [if_neg c_1] at hd
        refine wp_s 14 [some (.ref 382), some (.int x1), none] [.ref 382] h0 i_248_13 rfl ?_
        refine wp_get (v := .ref 397) 17 rfl i_248_14 (HH.1 0 (by decide)) rfl ?_
        refine wp_s 18 [some (.ref 382), some (.int x1), none] [.int x1, .ref 397] h0 i_248_17 rfl ?_
        obtain ⟨b_2, hd⟩ := dk_if hd
        refine wp_iald (f := (S.2.1 32)) 19 rfl i_248_18 (HH.1 15 (by decide)) b_2 ?_
        refine wp_s 20 [some (.ref 382), some (.int x1), none] [.ref 382, .int ((S.2.1 32) x1.toNatClampNeg)] h0 i_248_19 rfl ?_
        refine wp_s 21 [some (.ref 382), some (.int x1), none] [.int x1, .ref 382, .int ((S.2.1 32) x1.toNatClampNeg)] h0 i_248_20 rfl ?_
        obtain ⟨z_3, q_4, hd⟩ := dk_bind hd
        refine wp_callV 24 rfl i_248_21 (by decide) rfl (vs := [.int x1]) (rest := [.int ((S.2.1 32) x1.toNatClampNeg)]) rfl rfl rfl (HH.1 0 (by decide)) (y := m_246) rfl (Nat.le_of_ble_eq_true rfl) (d_246_ok (d := e) (by omega) HH.1 q_4) ?_
        rintro v_7 h_5 ⟨rfl, H_6⟩
        have H_6 := HH.tr H_6
        refine wp_cmp_ne 33 27 rfl rfl i_248_24 (fun c_8 => ?_) (fun c_8 => ?_)
        · rw [if_pos c_8] at hd
          exact aWp.post (aWp.forget (ih.2.1 _ _ _ _ _ H_6.1 hd) ((lvS (lvS (lvN lvE))))) (fun _ _ hq => ⟨hq.1, H_6.tr hq.2⟩)
        · rw [if_neg c_8] at hd
          refine wp_s 30 [some (.ref 382), some (.int (x1 + (-1 : Int32))), none] [] h_5 i_248_27 rfl ?_
          refine wp_s 9 [some (.ref 382), some (.int (x1 + (-1 : Int32))), none] [] h_5 i_248_30 rfl ?_
          exact aWp.post (aWp.forget (ih.1 _ _ _ _ _ H_6.1 hd) ((lvS (lvS (lvN lvE))))) (fun _ _ hq => ⟨hq.1, H_6.tr hq.2⟩)
    · intro x1 x2 S h0 zz HS hd
      unfold l_248 at hd
      rw [if_neg (by decide), if_pos rfl] at hd
      have HH := rTo.rf HS
      obtain ⟨e, rfl⟩ : ∃ e, d = e + 1 := ⟨d - 1, by omega⟩
      refine wp_s 34 [some (.ref 382), some (.int x1), none] [.int x1] h0 i_248_33 rfl ?_
      refine wp_if_ge 39 37 rfl rfl i_248_34 (fun c_9 => ?_) (fun c_9 => ?_)
      · rw [if_pos c_9] at hd
        refine wp_s 40 [some (.ref 382), some (.int x1), none] [.ref 382] h0 i_248_39 rfl ?_
        refine wp_get (v := .ref 397) 43 rfl i_248_40 (HH.1 0 (by decide)) rfl ?_
        refine wp_s 44 [some (.ref 382), some (.int x1), none] [.int x1, .ref 397] h0 i_248_43 rfl ?_
        refine wp_s 45 [some (.ref 382), some (.int x1), none] [.int x1, .ref 397, .int x1, .ref 397] h0 i_248_44 rfl ?_
        obtain ⟨b_10, hd⟩ := dk_if hd
        refine wp_iald (f := (S.2.1 32)) 46 rfl i_248_45 (HH.1 15 (by decide)) b_10 ?_
        refine wp_s 47 [some (.ref 382), some (.int x1), none] [.int (1 : Int32), .int ((S.2.1 32) x1.toNatClampNeg), .int x1, .ref 397] h0 i_248_46 rfl ?_
        refine wp_s 48 [some (.ref 382), some (.int x1), none] [.int (((S.2.1 32) x1.toNatClampNeg) + (1 : Int32)), .int x1, .ref 397] h0 i_248_47 rfl ?_
        obtain ⟨b_11, hd⟩ := dk_if hd
        refine rq_A32 49 rfl i_248_48 HH b_11 (fun h_12 H_13 => ?_)
        refine wp_s 50 [some (.ref 382), some (.int x1), none] [.int x1] h_12 i_248_49 rfl ?_
        refine wp_s 51 [some (.ref 382), some (.int x1), none] [.int (1 : Int32), .int x1] h_12 i_248_50 rfl ?_
        refine wp_s 52 [some (.ref 382), some (.int x1), none] [.int (x1 + (1 : Int32))] h_12 i_248_51 rfl ?_
        refine wp_s 53 [some (.ref 382), some (.int x1), some (.int (x1 + (1 : Int32)))] [] h_12 i_248_52 rfl ?_
        exact aWp.post (aWp.forget (ih.2.2 _ _ _ _ _ H_13.1 hd) ((lvS (lvS (lvS lvE))))) (fun _ _ hq => ⟨hq.1, H_13.tr hq.2⟩)
      · rw [if_neg c_9] at hd
        refine wp_s 38 [some (.ref 382), some (.int x1), none] [.int (0 : Int32)] h0 i_248_37 rfl ?_
        obtain rfl := Option.some.inj hd
        exact wp_iretZ (z := 0) i_248_38 (by decide) ⟨rfl, HH⟩
    · intro x1 x2 S h0 zz HS hd
      unfold l_248 at hd
      rw [if_neg (by decide), if_neg (by decide), if_pos rfl] at hd
      have HH := rTo.rf HS
      obtain ⟨e, rfl⟩ : ∃ e, d = e + 1 := ⟨d - 1, by omega⟩
      refine wp_s 54 [some (.ref 382), some (.int x1), some (.int x2)] [.int x2] h0 i_248_53 rfl ?_
      refine wp_s 55 [some (.ref 382), some (.int x1), some (.int x2)] [.ref 382, .int x2] h0 i_248_54 rfl ?_
      refine wp_get (v := .ref 392) 58 rfl i_248_55 (HH.1 0 (by decide)) rfl ?_
      refine wp_s 59 [some (.ref 382), some (.int x1), some (.int x2)] [.int (2 : Int32), .ref 392, .int x2] h0 i_248_58 rfl ?_
      obtain ⟨b_14, hd⟩ := dk_if hd
      refine wp_iald (f := (S.2.1 20)) 60 rfl i_248_59 (HH.1 10 (by decide)) b_14 ?_
      refine wp_cmp_ge 76 63 rfl rfl i_248_60 (fun c_15 => ?_) (fun c_15 => ?_)
      · rw [if_pos c_15] at hd
        refine wp_s 77 [some (.ref 382), some (.int x1), some (.int x2)] [.int (1 : Int32)] h0 i_248_76 rfl ?_
        obtain rfl := Option.some.inj hd
        exact wp_iretZ (z := 0) i_248_77 (by decide) ⟨rfl, HH⟩
      · rw [if_neg c_15] at hd
        refine wp_s 64 [some (.ref 382), some (.int x1), some (.int x2)] [.ref 382] h0 i_248_63 rfl ?_
        refine wp_get (v := .ref 397) 67 rfl i_248_64 (HH.1 0 (by decide)) rfl ?_
        refine wp_s 68 [some (.ref 382), some (.int x1), some (.int x2)] [.int x2, .ref 397] h0 i_248_67 rfl ?_
        refine wp_s 69 [some (.ref 382), some (.int x1), some (.int x2)] [.int (0 : Int32), .int x2, .ref 397] h0 i_248_68 rfl ?_
        obtain ⟨b_16, hd⟩ := dk_if hd
        refine rq_A32 70 rfl i_248_69 HH b_16 (fun h_17 H_18 => ?_)
        refine wp_s 73 [some (.ref 382), some (.int x1), some (.int (x2 + (1 : Int32)))] [] h_17 i_248_70 rfl ?_
        refine wp_s 53 [some (.ref 382), some (.int x1), some (.int (x2 + (1 : Int32)))] [] h_17 i_248_73 rfl ?_
        exact aWp.post (aWp.forget (ih.2.2 _ _ _ _ _ H_18.1 hd) ((lvS (lvS (lvS lvE))))) (fun _ _ hq => ⟨hq.1, H_18.tr hq.2⟩)
def d_248 (g : Nat)  (S : rS) : Option (Int32 × rS) := (if aIn (2 : Int32) 181 = true then (l_248 g g 0 (((S.2.1 20) (2 : Int32).toNatClampNeg) - (1 : Int32)) 0 S) else none)
set_option maxHeartbeats 4000000 in
set_option maxRecDepth 100000 in
theorem d_248_ok {X : aX} {g d : Nat}  {S : rS} {h0 : aH} {zz : Int32 × rS} (hdp : 1 ≤ d) (HS : rm h0 S) (hd : d_248 g  S = some zz) : aWp X d 248 0 (aEntL [.ref 382] 3) [] h0 (fun w h' => w = some (.int zz.1) ∧ rTo h0 zz.2 h') := by
  unfold d_248 at hd
  have HH := rTo.rf HS
  refine wp_lv (l2 := [some (.ref 382), none, none]) rfl ?_
  obtain ⟨e, rfl⟩ : ∃ e, d = e + 1 := ⟨d - 1, by omega⟩
  refine wp_s 1 [some (.ref 382), none, none] [.ref 382] h0 i_248_0 rfl ?_
  refine wp_get (v := .ref 392) 4 rfl i_248_1 (HH.1 0 (by decide)) rfl ?_
  refine wp_s 5 [some (.ref 382), none, none] [.int (2 : Int32), .ref 392] h0 i_248_4 rfl ?_
  obtain ⟨b_1001, hd⟩ := dk_if hd
  refine wp_iald (f := (S.2.1 20)) 6 rfl i_248_5 (HH.1 10 (by decide)) b_1001 ?_
  refine wp_s 7 [some (.ref 382), none, none] [.int (1 : Int32), .int ((S.2.1 20) (2 : Int32).toNatClampNeg)] h0 i_248_6 rfl ?_
  refine wp_s 8 [some (.ref 382), none, none] [.int (((S.2.1 20) (2 : Int32).toNatClampNeg) - (1 : Int32))] h0 i_248_7 rfl ?_
  refine wp_s 9 [some (.ref 382), some (.int (((S.2.1 20) (2 : Int32).toNatClampNeg) - (1 : Int32))), none] [] h0 i_248_8 rfl ?_
  exact aWp.post (aWp.forget ((l_248_ok hdp g).1 _ _ _ _ _ HH.1 hd) ((lvS (lvS (lvN lvE))))) (fun _ _ hq => ⟨hq.1, HH.tr hq.2⟩)
def l_249 (g n tag : Nat) (x1 : Int32) (x2 : Int32) (S : rS) : Option (Int32 × rS) := match n with
  | 0 => none
  | n + 1 => if tag = 0 then (if aIn (2 : Int32) 181 = true then (if ((S.2.1 20) (2 : Int32).toNatClampNeg) ≤ x2 then (l_249 g n 1 x1 (1 : Int32) S) else (if aIn x2 6 = true then (l_249 g n 0 x1 (x2 + (1 : Int32)) (rA S 32 (upd (S.2.1 32) x2.toNatClampNeg (0 : Int32)))) else none)) else none) else if tag = 1 then (if x2 = 0 then (if ¬ x1 = 0 then (if aIn (2 : Int32) 181 = true then (if ((S.2.1 20) (2 : Int32).toNatClampNeg) < x1 then some ((-2 : Int32), S) else (if aIn (x1 - (1 : Int32)) 8 = true then some (((S.2.1 28) (x1 - (1 : Int32)).toNatClampNeg), S) else none)) else none) else some ((S.1 30), S)) else ((d_247 g  S).bind (fun z_11 => ((d_242 g z_11.1 z_11.2).bind (fun z_16 => ((d_248 g  z_16).bind (fun z_21 => (l_249 g n 1 x1 z_21.1 z_21.2)))))))) else none
set_option maxHeartbeats 4000000 in
set_option maxRecDepth 100000 in
theorem l_249_ok {X : aX} {g d : Nat} (hdp : 6 ≤ d) : ∀ n, (∀ (x1 : Int32) (x2 : Int32) (S : rS) (h0 : aH) (zz : Int32 × rS), rm h0 S → l_249 g n 0 x1 x2 S = some zz → aWp X d 249 29 [some (.ref 382), some (.int x1), some (.int x2)] [] h0 (fun w h' => w = some (.int zz.1) ∧ rTo h0 zz.2 h')) ∧ (∀ (x1 : Int32) (x2 : Int32) (S : rS) (h0 : aH) (zz : Int32 × rS), rm h0 S → l_249 g n 1 x1 x2 S = some zz → aWp X d 249 54 [some (.ref 382), some (.int x1), some (.int x2)] [] h0 (fun w h' => w = some (.int zz.1) ∧ rTo h0 zz.2 h')) := by
  intro n
  induction n with
  | zero => exact ⟨fun _ _ _ _ _ _ hd => by simp [l_249] at hd, fun _ _ _ _ _ _ hd => by simp [l_249] at hd⟩
  | succ n ih =>
    refine ⟨?_, ?_⟩
    · intro x1 x2 S h0 zz HS hd
      unfold l_249 at hd
      rw [if_pos rfl] at hd
      have HH := rTo.rf HS
      obtain ⟨e, rfl⟩ : ∃ e, d = e + 1 := ⟨d - 1, by omega⟩
      refine wp_s 30 [some (.ref 382), some (.int x1), some (.int x2)] [.int x2] h0 i_249_29 rfl ?_
      refine wp_s 31 [some (.ref 382), some (.int x1), some (.int x2)] [.ref 382, .int x2] h0 i_249_30 rfl ?_
      refine wp_get (v := .ref 392) 34 rfl i_249_31 (HH.1 0 (by decide)) rfl ?_
      refine wp_s 35 [some (.ref 382), some (.int x1), some (.int x2)] [.int (2 : Int32), .ref 392, .int x2] h0 i_249_34 rfl ?_
      obtain ⟨b_1, hd⟩ := dk_if hd
      refine wp_iald (f := (S.2.1 20)) 36 rfl i_249_35 (HH.1 10 (by decide)) b_1 ?_
      refine wp_cmp_ge 52 39 rfl rfl i_249_36 (fun c_2 => ?_) (fun c_2 => ?_)
      · rw [if_pos c_2] at hd
        refine wp_s 53 [some (.ref 382), some (.int x1), some (.int x2)] [.int (1 : Int32)] h0 i_249_52 rfl ?_
        refine wp_s 54 [some (.ref 382), some (.int x1), some (.int (1 : Int32))] [] h0 i_249_53 rfl ?_
        exact aWp.post (aWp.forget (ih.2 _ _ _ _ _ HH.1 hd) ((lvS (lvS (lvS lvE))))) (fun _ _ hq => ⟨hq.1, HH.tr hq.2⟩)
      · rw [if_neg c_2] at hd
        refine wp_s 40 [some (.ref 382), some (.int x1), some (.int x2)] [.ref 382] h0 i_249_39 rfl ?_
        refine wp_get (v := .ref 397) 43 rfl i_249_40 (HH.1 0 (by decide)) rfl ?_
        refine wp_s 44 [some (.ref 382), some (.int x1), some (.int x2)] [.int x2, .ref 397] h0 i_249_43 rfl ?_
        refine wp_s 45 [some (.ref 382), some (.int x1), some (.int x2)] [.int (0 : Int32), .int x2, .ref 397] h0 i_249_44 rfl ?_
        obtain ⟨b_3, hd⟩ := dk_if hd
        refine rq_A32 46 rfl i_249_45 HH b_3 (fun h_4 H_5 => ?_)
        refine wp_s 49 [some (.ref 382), some (.int x1), some (.int (x2 + (1 : Int32)))] [] h_4 i_249_46 rfl ?_
        refine wp_s 29 [some (.ref 382), some (.int x1), some (.int (x2 + (1 : Int32)))] [] h_4 i_249_49 rfl ?_
        exact aWp.post (aWp.forget (ih.1 _ _ _ _ _ H_5.1 hd) ((lvS (lvS (lvS lvE))))) (fun _ _ hq => ⟨hq.1, H_5.tr hq.2⟩)
    · intro x1 x2 S h0 zz HS hd
      unfold l_249 at hd
      rw [if_neg (by decide), if_pos rfl] at hd
      have HH := rTo.rf HS
      obtain ⟨e, rfl⟩ : ∃ e, d = e + 1 := ⟨d - 1, by omega⟩
      refine wp_s 55 [some (.ref 382), some (.int x1), some (.int x2)] [.int x2] h0 i_249_54 rfl ?_
      refine wp_if_eq 74 58 rfl rfl i_249_55 (fun c_6 => ?_) (fun c_6 => ?_)
      · rw [if_pos c_6] at hd
        refine wp_s 75 [some (.ref 382), some (.int x1), some (.int x2)] [.int x1] h0 i_249_74 rfl ?_
        refine wp_if_ne 85 78 rfl rfl i_249_75 (fun c_7 => ?_) (fun c_7 => ?_)
        · rw [if_pos c_7] at hd
          refine wp_s 86 [some (.ref 382), some (.int x1), some (.int x2)] [.int x1] h0 i_249_85 rfl ?_
          refine wp_s 87 [some (.ref 382), some (.int x1), some (.int x2)] [.ref 382, .int x1] h0 i_249_86 rfl ?_
          refine wp_get (v := .ref 392) 90 rfl i_249_87 (HH.1 0 (by decide)) rfl ?_
          refine wp_s 91 [some (.ref 382), some (.int x1), some (.int x2)] [.int (2 : Int32), .ref 392, .int x1] h0 i_249_90 rfl ?_
          obtain ⟨b_8, hd⟩ := dk_if hd
          refine wp_iald (f := (S.2.1 20)) 92 rfl i_249_91 (HH.1 10 (by decide)) b_8 ?_
          refine wp_cmp_gt 106 95 rfl rfl i_249_92 (fun c_9 => ?_) (fun c_9 => ?_)
          · rw [if_pos c_9] at hd
            refine wp_s 108 [some (.ref 382), some (.int x1), some (.int x2)] [.int (-2 : Int32)] h0 i_249_106 rfl ?_
            obtain rfl := Option.some.inj hd
            exact wp_iret i_249_108 ⟨rfl, HH⟩
          · rw [if_neg c_9] at hd
            refine wp_s 96 [some (.ref 382), some (.int x1), some (.int x2)] [.ref 382] h0 i_249_95 rfl ?_
            refine wp_get (v := .ref 395) 99 rfl i_249_96 (HH.1 0 (by decide)) rfl ?_
            refine wp_s 100 [some (.ref 382), some (.int x1), some (.int x2)] [.int x1, .ref 395] h0 i_249_99 rfl ?_
            refine wp_s 101 [some (.ref 382), some (.int x1), some (.int x2)] [.int (1 : Int32), .int x1, .ref 395] h0 i_249_100 rfl ?_
            refine wp_s 102 [some (.ref 382), some (.int x1), some (.int x2)] [.int (x1 - (1 : Int32)), .ref 395] h0 i_249_101 rfl ?_
            obtain ⟨b_10, hd⟩ := dk_if hd
            refine wp_iald (f := (S.2.1 28)) 103 rfl i_249_102 (HH.1 13 (by decide)) b_10 ?_
            refine wp_s 108 [some (.ref 382), some (.int x1), some (.int x2)] [.int ((S.2.1 28) (x1 - (1 : Int32)).toNatClampNeg)] h0 i_249_103 rfl ?_
            obtain rfl := Option.some.inj hd
            exact wp_iret i_249_108 ⟨rfl, HH⟩
        · rw [if_neg c_7] at hd
          refine wp_s 79 [some (.ref 382), some (.int x1), some (.int x2)] [.ref 382] h0 i_249_78 rfl ?_
          refine wp_get (v := .int (S.1 30)) 82 rfl i_249_79 (HH.1 0 (by decide)) rfl ?_
          refine wp_s 108 [some (.ref 382), some (.int x1), some (.int x2)] [.int (S.1 30)] h0 i_249_82 rfl ?_
          obtain rfl := Option.some.inj hd
          exact wp_iret i_249_108 ⟨rfl, HH⟩
      · rw [if_neg c_6] at hd
        refine wp_s 59 [some (.ref 382), some (.int x1), some (.int x2)] [.ref 382] h0 i_249_58 rfl ?_
        refine wp_s 60 [some (.ref 382), some (.int x1), some (.int x2)] [.ref 382, .ref 382] h0 i_249_59 rfl ?_
        obtain ⟨z_11, q_12, hd⟩ := dk_bind hd
        refine wp_callV 63 rfl i_249_60 (by decide) rfl (vs := []) (rest := [.ref 382]) rfl rfl rfl (HH.1 0 (by decide)) (y := m_247) rfl (Nat.le_of_ble_eq_true rfl) (d_247_ok (d := e) (by omega) HH.1 q_12) ?_
        rintro v_15 h_13 ⟨rfl, H_14⟩
        have H_14 := HH.tr H_14
        obtain ⟨z_16, q_17, hd⟩ := dk_bind hd
        refine wp_callV 66 rfl i_249_63 (by decide) rfl (vs := [.int z_11.1]) (rest := []) rfl rfl rfl (H_14.1 0 (by decide)) (y := m_242) rfl (Nat.le_of_ble_eq_true rfl) (d_242_ok (d := e) (by omega) H_14.1 q_17) ?_
        rintro v_20 h_18 ⟨rfl, H_19⟩
        have H_19 := H_14.tr H_19
        refine wp_s 67 [some (.ref 382), some (.int x1), some (.int x2)] [.ref 382] h_18 i_249_66 rfl ?_
        obtain ⟨z_21, q_22, hd⟩ := dk_bind hd
        refine wp_callV 70 rfl i_249_67 (by decide) rfl (vs := []) (rest := []) rfl rfl rfl (H_19.1 0 (by decide)) (y := m_248) rfl (Nat.le_of_ble_eq_true rfl) (d_248_ok (d := e) (by omega) H_19.1 q_22) ?_
        rintro v_25 h_23 ⟨rfl, H_24⟩
        have H_24 := H_19.tr H_24
        refine wp_s 71 [some (.ref 382), some (.int x1), some (.int z_21.1)] [] h_23 i_249_70 rfl ?_
        refine wp_s 54 [some (.ref 382), some (.int x1), some (.int z_21.1)] [] h_23 i_249_71 rfl ?_
        exact aWp.post (aWp.forget (ih.2 _ _ _ _ _ H_24.1 hd) ((lvS (lvS (lvS lvE))))) (fun _ _ hq => ⟨hq.1, H_24.tr hq.2⟩)
def d_249 (g : Nat) (x1 : Int32) (S : rS) : Option (Int32 × rS) := ((d_187 g  S).bind (fun z_1001 => (if z_1001.1 = 0 then some ((-3 : Int32), z_1001.2) else ((d_140 g (x1.toInt64) (0 : Int64) (6 : Int64) z_1001.2).bind (fun z_1007 => (if ¬ z_1007.1 = 0 then (l_249 g g 0 x1 (0 : Int32) (rF z_1007.2 29 (-1 : Int32))) else some ((-3 : Int32), z_1007.2)))))))
set_option maxHeartbeats 4000000 in
set_option maxRecDepth 100000 in
theorem d_249_ok {X : aX} {g d : Nat} {x1 : Int32} {S : rS} {h0 : aH} {zz : Int32 × rS} (hdp : 6 ≤ d) (HS : rm h0 S) (hd : d_249 g x1 S = some zz) : aWp X d 249 0 (aEntL [.ref 382, .int x1] 3) [] h0 (fun w h' => w = some (.int zz.1) ∧ rTo h0 zz.2 h') := by
  unfold d_249 at hd
  have HH := rTo.rf HS
  refine wp_lv (l2 := [some (.ref 382), some (.int x1), none]) rfl ?_
  obtain ⟨e, rfl⟩ : ∃ e, d = e + 1 := ⟨d - 1, by omega⟩
  refine wp_s 1 [some (.ref 382), some (.int x1), none] [.ref 382] h0 i_249_0 rfl ?_
  obtain ⟨z_1001, q_1002, hd⟩ := dk_bind hd
  refine wp_callV 4 rfl i_249_1 (by decide) rfl (vs := []) (rest := []) rfl rfl rfl (HH.1 0 (by decide)) (y := m_187) rfl (Nat.le_of_ble_eq_true rfl) (d_187_ok (d := e) (by omega) HH.1 q_1002) ?_
  rintro v_1005 h_1003 ⟨rfl, H_1004⟩
  have H_1004 := HH.tr H_1004
  refine wp_if_eq 19 7 rfl rfl i_249_4 (fun c_1006 => ?_) (fun c_1006 => ?_)
  · rw [if_pos c_1006] at hd
    refine wp_s 21 [some (.ref 382), some (.int x1), none] [.int (-3 : Int32)] h_1003 i_249_19 rfl ?_
    obtain rfl := Option.some.inj hd
    exact wp_iret i_249_21 ⟨rfl, H_1004⟩
  · rw [if_neg c_1006] at hd
    refine wp_s 8 [some (.ref 382), some (.int x1), none] [.int x1] h_1003 i_249_7 rfl ?_
    refine wp_s 9 [some (.ref 382), some (.int x1), none] [.long (x1.toInt64)] h_1003 i_249_8 rfl ?_
    refine wp_s 10 [some (.ref 382), some (.int x1), none] [.long (0 : Int64), .long (x1.toInt64)] h_1003 i_249_9 rfl ?_
    refine wp_s 13 [some (.ref 382), some (.int x1), none] [.long (6 : Int64), .long (0 : Int64), .long (x1.toInt64)] h_1003 i_249_10 rfl ?_
    obtain ⟨z_1007, q_1008, hd⟩ := dk_bind hd
    refine wp_callS 16 rfl i_249_13 (by decide) (vs := [.long (x1.toInt64), .long (0 : Int64), .long (6 : Int64)]) (rest := []) rfl rfl rfl (y := m_140) rfl (Nat.le_of_ble_eq_true rfl) (d_140_ok (d := e) (by omega) H_1004.1 q_1008) ?_
    rintro v_1011 h_1009 ⟨rfl, H_1010⟩
    have H_1010 := H_1004.tr H_1010
    refine wp_if_ne 22 19 rfl rfl i_249_16 (fun c_1012 => ?_) (fun c_1012 => ?_)
    · rw [if_pos c_1012] at hd
      refine wp_s 23 [some (.ref 382), some (.int x1), none] [.ref 382] h_1009 i_249_22 rfl ?_
      refine wp_s 24 [some (.ref 382), some (.int x1), none] [.int (-1 : Int32), .ref 382] h_1009 i_249_23 rfl ?_
      refine rq_F29 27 rfl i_249_24 H_1010 (fun h_1013 H_1014 => ?_)
      refine wp_s 28 [some (.ref 382), some (.int x1), none] [.int (0 : Int32)] h_1013 i_249_27 rfl ?_
      refine wp_s 29 [some (.ref 382), some (.int x1), some (.int (0 : Int32))] [] h_1013 i_249_28 rfl ?_
      exact aWp.post (aWp.forget ((l_249_ok hdp g).1 _ _ _ _ _ H_1014.1 hd) ((lvS (lvS (lvS lvE))))) (fun _ _ hq => ⟨hq.1, H_1014.tr hq.2⟩)
    · rw [if_neg c_1012] at hd
      refine wp_s 21 [some (.ref 382), some (.int x1), none] [.int (-3 : Int32)] h_1009 i_249_19 rfl ?_
      obtain rfl := Option.some.inj hd
      exact wp_iret i_249_21 ⟨rfl, H_1010⟩
def l_250 (g n tag : Nat) (x1 : Int32) (S : rS) : Option (rS) := match n with
  | 0 => none
  | n + 1 => if tag = 0 then (if (80 : Int32) ≤ x1 then some S else (if aIn x1 181 = true then (if aIn x1 80 = true then (l_250 g n 0 (x1 + (1 : Int32)) (rA S 34 (upd (S.2.1 34) x1.toNatClampNeg ((S.2.1 20) x1.toNatClampNeg)))) else none) else none)) else none
set_option maxHeartbeats 4000000 in
set_option maxRecDepth 100000 in
theorem l_250_ok {X : aX} {g d : Nat} (hdp : 0 ≤ d) : ∀ n, (∀ (x1 : Int32) (S : rS) (h0 : aH) (zz : rS), rm h0 S → l_250 g n 0 x1 S = some zz → aWp X d 250 2 [some (.ref 382), some (.int x1)] [] h0 (fun w h' => w = none ∧ rTo h0 zz h')) := by
  intro n
  induction n with
  | zero => exact fun _ _ _ _ _ hd => by simp [l_250] at hd
  | succ n ih =>
    intro x1 S h0 zz HS hd
    unfold l_250 at hd
    rw [if_pos rfl] at hd
    have HH := rTo.rf HS
    refine wp_s 3 [some (.ref 382), some (.int x1)] [.int x1] h0 i_250_2 rfl ?_
    refine wp_s 5 [some (.ref 382), some (.int x1)] [.int (80 : Int32), .int x1] h0 i_250_3 rfl ?_
    refine wp_cmp_ge 26 8 rfl rfl i_250_5 (fun c_1 => ?_) (fun c_1 => ?_)
    · rw [if_pos c_1] at hd
      obtain rfl := Option.some.inj hd
      exact wp_ret i_250_26 rfl ⟨rfl, HH⟩
    · rw [if_neg c_1] at hd
      refine wp_s 9 [some (.ref 382), some (.int x1)] [.ref 382] h0 i_250_8 rfl ?_
      refine wp_get (v := .ref 399) 12 rfl i_250_9 (HH.1 0 (by decide)) rfl ?_
      refine wp_s 13 [some (.ref 382), some (.int x1)] [.int x1, .ref 399] h0 i_250_12 rfl ?_
      refine wp_s 14 [some (.ref 382), some (.int x1)] [.ref 382, .int x1, .ref 399] h0 i_250_13 rfl ?_
      refine wp_get (v := .ref 392) 17 rfl i_250_14 (HH.1 0 (by decide)) rfl ?_
      refine wp_s 18 [some (.ref 382), some (.int x1)] [.int x1, .ref 392, .int x1, .ref 399] h0 i_250_17 rfl ?_
      obtain ⟨b_2, hd⟩ := dk_if hd
      refine wp_iald (f := (S.2.1 20)) 19 rfl i_250_18 (HH.1 10 (by decide)) b_2 ?_
      obtain ⟨b_3, hd⟩ := dk_if hd
      refine rq_A34 20 rfl i_250_19 HH b_3 (fun h_4 H_5 => ?_)
      refine wp_s 23 [some (.ref 382), some (.int (x1 + (1 : Int32)))] [] h_4 i_250_20 rfl ?_
      refine wp_s 2 [some (.ref 382), some (.int (x1 + (1 : Int32)))] [] h_4 i_250_23 rfl ?_
      exact aWp.post (aWp.forget (ih _ _ _ _ H_5.1 hd) ((lvS (lvS lvE)))) (fun _ _ hq => ⟨hq.1, H_5.tr hq.2⟩)
def d_250 (g : Nat)  (S : rS) : Option (rS) := (l_250 g g 0 (0 : Int32) S)
set_option maxHeartbeats 4000000 in
set_option maxRecDepth 100000 in
theorem d_250_ok {X : aX} {g d : Nat}  {S : rS} {h0 : aH} {zz : rS} (hdp : 0 ≤ d) (HS : rm h0 S) (hd : d_250 g  S = some zz) : aWp X d 250 0 (aEntL [.ref 382] 2) [] h0 (fun w h' => w = none ∧ rTo h0 zz h') := by
  unfold d_250 at hd
  have HH := rTo.rf HS
  refine wp_lv (l2 := [some (.ref 382), none]) rfl ?_
  refine wp_s 1 [some (.ref 382), none] [.int (0 : Int32)] h0 i_250_0 rfl ?_
  refine wp_s 2 [some (.ref 382), some (.int (0 : Int32))] [] h0 i_250_1 rfl ?_
  exact aWp.post (aWp.forget ((l_250_ok hdp g) _ _ _ _ HH.1 hd) ((lvS (lvS lvE)))) (fun _ _ hq => ⟨hq.1, HH.tr hq.2⟩)
def l_251 (g n tag : Nat) (x1 : Int32) (S : rS) : Option (rS) := match n with
  | 0 => none
  | n + 1 => if tag = 0 then (if (80 : Int32) ≤ x1 then some S else (if aIn x1 80 = true then (if aIn x1 181 = true then (l_251 g n 0 (x1 + (1 : Int32)) (rA S 20 (upd (S.2.1 20) x1.toNatClampNeg ((S.2.1 34) x1.toNatClampNeg)))) else none) else none)) else none
set_option maxHeartbeats 4000000 in
set_option maxRecDepth 100000 in
theorem l_251_ok {X : aX} {g d : Nat} (hdp : 0 ≤ d) : ∀ n, (∀ (x1 : Int32) (S : rS) (h0 : aH) (zz : rS), rm h0 S → l_251 g n 0 x1 S = some zz → aWp X d 251 2 [some (.ref 382), some (.int x1)] [] h0 (fun w h' => w = none ∧ rTo h0 zz h')) := by
  intro n
  induction n with
  | zero => exact fun _ _ _ _ _ hd => by simp [l_251] at hd
  | succ n ih =>
    intro x1 S h0 zz HS hd
    unfold l_251 at hd
    rw [if_pos rfl] at hd
    have HH := rTo.rf HS
    refine wp_s 3 [some (.ref 382), some (.int x1)] [.int x1] h0 i_251_2 rfl ?_
    refine wp_s 5 [some (.ref 382), some (.int x1)] [.int (80 : Int32), .int x1] h0 i_251_3 rfl ?_
    refine wp_cmp_ge 26 8 rfl rfl i_251_5 (fun c_1 => ?_) (fun c_1 => ?_)
    · rw [if_pos c_1] at hd
      obtain rfl := Option.some.inj hd
      exact wp_ret i_251_26 rfl ⟨rfl, HH⟩
    · rw [if_neg c_1] at hd
      refine wp_s 9 [some (.ref 382), some (.int x1)] [.ref 382] h0 i_251_8 rfl ?_
      refine wp_get (v := .ref 392) 12 rfl i_251_9 (HH.1 0 (by decide)) rfl ?_
      refine wp_s 13 [some (.ref 382), some (.int x1)] [.int x1, .ref 392] h0 i_251_12 rfl ?_
      refine wp_s 14 [some (.ref 382), some (.int x1)] [.ref 382, .int x1, .ref 392] h0 i_251_13 rfl ?_
      refine wp_get (v := .ref 399) 17 rfl i_251_14 (HH.1 0 (by decide)) rfl ?_
      refine wp_s 18 [some (.ref 382), some (.int x1)] [.int x1, .ref 399, .int x1, .ref 392] h0 i_251_17 rfl ?_
      obtain ⟨b_2, hd⟩ := dk_if hd
      refine wp_iald (f := (S.2.1 34)) 19 rfl i_251_18 (HH.1 17 (by decide)) b_2 ?_
      obtain ⟨b_3, hd⟩ := dk_if hd
      refine rq_A20 20 rfl i_251_19 HH b_3 (fun h_4 H_5 => ?_)
      refine wp_s 23 [some (.ref 382), some (.int (x1 + (1 : Int32)))] [] h_4 i_251_20 rfl ?_
      refine wp_s 2 [some (.ref 382), some (.int (x1 + (1 : Int32)))] [] h_4 i_251_23 rfl ?_
      exact aWp.post (aWp.forget (ih _ _ _ _ H_5.1 hd) ((lvS (lvS lvE)))) (fun _ _ hq => ⟨hq.1, H_5.tr hq.2⟩)
def d_251 (g : Nat)  (S : rS) : Option (rS) := (l_251 g g 0 (0 : Int32) S)
set_option maxHeartbeats 4000000 in
set_option maxRecDepth 100000 in
theorem d_251_ok {X : aX} {g d : Nat}  {S : rS} {h0 : aH} {zz : rS} (hdp : 0 ≤ d) (HS : rm h0 S) (hd : d_251 g  S = some zz) : aWp X d 251 0 (aEntL [.ref 382] 2) [] h0 (fun w h' => w = none ∧ rTo h0 zz h') := by
  unfold d_251 at hd
  have HH := rTo.rf HS
  refine wp_lv (l2 := [some (.ref 382), none]) rfl ?_
  refine wp_s 1 [some (.ref 382), none] [.int (0 : Int32)] h0 i_251_0 rfl ?_
  refine wp_s 2 [some (.ref 382), some (.int (0 : Int32))] [] h0 i_251_1 rfl ?_
  exact aWp.post (aWp.forget ((l_251_ok hdp g) _ _ _ _ HH.1 hd) ((lvS (lvS lvE)))) (fun _ _ hq => ⟨hq.1, HH.tr hq.2⟩)
def l_252 (g n tag : Nat) (x1 : Int32) (x2 : Int32) (x3 : Int32) (S : rS) : Option (Int32 × rS) := match n with
  | 0 => none
  | n + 1 => if tag = 0 then (if aIn (1 : Int32) 181 = true then (if ((S.2.1 20) (1 : Int32).toNatClampNeg) ≤ x2 then ((d_251 g  S).bind (fun z_3 => some (x1, z_3))) else (l_252 g n 1 x1 x2 (0 : Int32) S)) else none) else if tag = 1 then (if aIn x2 8 = true then (if ((S.2.1 35) x2.toNatClampNeg) ≤ x3 then (l_252 g n 0 x1 (x2 + (1 : Int32)) 0 S) else ((d_228 g x2 S).bind (fun z_10 => ((d_193 g x2 z_10.2).bind (fun z_15 => (l_252 g n 1 (x1 + (z_10.1 - z_15.1)) x2 (x3 + (1 : Int32)) z_15.2)))))) else none) else none
set_option maxHeartbeats 4000000 in
set_option maxRecDepth 100000 in
theorem l_252_ok {X : aX} {g d : Nat} (hdp : 4 ≤ d) : ∀ n, (∀ (x1 : Int32) (x2 : Int32) (x3 : Int32) (S : rS) (h0 : aH) (zz : Int32 × rS), rm h0 S → l_252 g n 0 x1 x2 x3 S = some zz → aWp X d 252 4 [some (.ref 382), some (.int x1), some (.int x2), none] [] h0 (fun w h' => w = some (.int zz.1) ∧ rTo h0 zz.2 h')) ∧ (∀ (x1 : Int32) (x2 : Int32) (x3 : Int32) (S : rS) (h0 : aH) (zz : Int32 × rS), rm h0 S → l_252 g n 1 x1 x2 x3 S = some zz → aWp X d 252 16 [some (.ref 382), some (.int x1), some (.int x2), some (.int x3)] [] h0 (fun w h' => w = some (.int zz.1) ∧ rTo h0 zz.2 h')) := by
  intro n
  induction n with
  | zero => exact ⟨fun _ _ _ _ _ _ _ hd => by simp [l_252] at hd, fun _ _ _ _ _ _ _ hd => by simp [l_252] at hd⟩
  | succ n ih =>
    refine ⟨?_, ?_⟩
    · intro x1 x2 x3 S h0 zz HS hd
      unfold l_252 at hd
      rw [if_pos rfl] at hd
      have HH := rTo.rf HS
      obtain ⟨e, rfl⟩ : ∃ e, d = e + 1 := ⟨d - 1, by omega⟩
      refine wp_s 5 [some (.ref 382), some (.int x1), some (.int x2), none] [.int x2] h0 i_252_4 rfl ?_
      refine wp_s 6 [some (.ref 382), some (.int x1), some (.int x2), none] [.ref 382, .int x2] h0 i_252_5 rfl ?_
      refine wp_get (v := .ref 392) 9 rfl i_252_6 (HH.1 0 (by decide)) rfl ?_
      refine wp_s 10 [some (.ref 382), some (.int x1), some (.int x2), none] [.int (1 : Int32), .ref 392, .int x2] h0 i_252_9 rfl ?_
      obtain ⟨b_1, hd⟩ := dk_if hd
      refine wp_iald (f := (S.2.1 20)) 11 rfl i_252_10 (HH.1 10 (by decide)) b_1 ?_
      refine wp_cmp_ge 52 14 rfl rfl i_252_11 (fun c_2 => ?_) (fun c_2 => ?_)
      · rw [if_pos c_2] at hd
        refine wp_s 53 [some (.ref 382), some (.int x1), some (.int x2), none] [.ref 382] h0 i_252_52 rfl ?_
        obtain ⟨z_3, q_4, hd⟩ := dk_bind hd
        refine wp_callV 56 rfl i_252_53 (by decide) rfl (vs := []) (rest := []) rfl rfl rfl (HH.1 0 (by decide)) (y := m_251) rfl (Nat.le_of_ble_eq_true rfl) (d_251_ok (d := e) (by omega) HH.1 q_4) ?_
        rintro v_7 h_5 ⟨rfl, H_6⟩
        have H_6 := HH.tr H_6
        refine wp_s 57 [some (.ref 382), some (.int x1), some (.int x2), none] [.int x1] h_5 i_252_56 rfl ?_
        obtain rfl := Option.some.inj hd
        exact wp_iret i_252_57 ⟨rfl, H_6⟩
      · rw [if_neg c_2] at hd
        refine wp_s 15 [some (.ref 382), some (.int x1), some (.int x2), none] [.int (0 : Int32)] h0 i_252_14 rfl ?_
        refine wp_s 16 [some (.ref 382), some (.int x1), some (.int x2), some (.int (0 : Int32))] [] h0 i_252_15 rfl ?_
        exact aWp.post (aWp.forget (ih.2 _ _ _ _ _ _ HH.1 hd) ((lvS (lvS (lvS (lvS lvE)))))) (fun _ _ hq => ⟨hq.1, HH.tr hq.2⟩)
    · intro x1 x2 x3 S h0 zz HS hd
      unfold l_252 at hd
      rw [if_neg (by decide), if_pos rfl] at hd
      have HH := rTo.rf HS
      obtain ⟨e, rfl⟩ : ∃ e, d = e + 1 := ⟨d - 1, by omega⟩
      refine wp_s 17 [some (.ref 382), some (.int x1), some (.int x2), some (.int x3)] [.int x3] h0 i_252_16 rfl ?_
      refine wp_s 18 [some (.ref 382), some (.int x1), some (.int x2), some (.int x3)] [.ref 382, .int x3] h0 i_252_17 rfl ?_
      refine wp_get (v := .ref 400) 21 rfl i_252_18 (HH.1 0 (by decide)) rfl ?_
      refine wp_s 22 [some (.ref 382), some (.int x1), some (.int x2), some (.int x3)] [.int x2, .ref 400, .int x3] h0 i_252_21 rfl ?_
      obtain ⟨b_8, hd⟩ := dk_if hd
      refine wp_iald (f := (S.2.1 35)) 23 rfl i_252_22 (HH.1 18 (by decide)) b_8 ?_
      refine wp_cmp_ge 46 26 rfl rfl i_252_23 (fun c_9 => ?_) (fun c_9 => ?_)
      · rw [if_pos c_9] at hd
        refine wp_s 49 [some (.ref 382), some (.int x1), some (.int (x2 + (1 : Int32))), some (.int x3)] [] h0 i_252_46 rfl ?_
        refine wp_s 4 [some (.ref 382), some (.int x1), some (.int (x2 + (1 : Int32))), some (.int x3)] [] h0 i_252_49 rfl ?_
        exact aWp.post (aWp.forget (ih.1 _ _ _ _ _ _ HH.1 hd) ((lvS (lvS (lvS (lvN lvE)))))) (fun _ _ hq => ⟨hq.1, HH.tr hq.2⟩)
      · rw [if_neg c_9] at hd
        refine wp_s 27 [some (.ref 382), some (.int x1), some (.int x2), some (.int x3)] [.int x1] h0 i_252_26 rfl ?_
        refine wp_s 28 [some (.ref 382), some (.int x1), some (.int x2), some (.int x3)] [.ref 382, .int x1] h0 i_252_27 rfl ?_
        refine wp_s 29 [some (.ref 382), some (.int x1), some (.int x2), some (.int x3)] [.int x2, .ref 382, .int x1] h0 i_252_28 rfl ?_
        obtain ⟨z_10, q_11, hd⟩ := dk_bind hd
        refine wp_callV 32 rfl i_252_29 (by decide) rfl (vs := [.int x2]) (rest := [.int x1]) rfl rfl rfl (HH.1 0 (by decide)) (y := m_228) rfl (Nat.le_of_ble_eq_true rfl) (d_228_ok (d := e) (by omega) HH.1 q_11) ?_
        rintro v_14 h_12 ⟨rfl, H_13⟩
        have H_13 := HH.tr H_13
        refine wp_s 33 [some (.ref 382), some (.int x1), some (.int x2), some (.int x3)] [.ref 382, .int z_10.1, .int x1] h_12 i_252_32 rfl ?_
        refine wp_s 34 [some (.ref 382), some (.int x1), some (.int x2), some (.int x3)] [.int x2, .ref 382, .int z_10.1, .int x1] h_12 i_252_33 rfl ?_
        obtain ⟨z_15, q_16, hd⟩ := dk_bind hd
        refine wp_callV 37 rfl i_252_34 (by decide) rfl (vs := [.int x2]) (rest := [.int z_10.1, .int x1]) rfl rfl rfl (H_13.1 0 (by decide)) (y := m_193) rfl (Nat.le_of_ble_eq_true rfl) (d_193_ok (d := e) (by omega) H_13.1 q_16) ?_
        rintro v_19 h_17 ⟨rfl, H_18⟩
        have H_18 := H_13.tr H_18
        refine wp_s 38 [some (.ref 382), some (.int x1), some (.int x2), some (.int x3)] [.int (z_10.1 - z_15.1), .int x1] h_17 i_252_37 rfl ?_
        refine wp_s 39 [some (.ref 382), some (.int x1), some (.int x2), some (.int x3)] [.int (x1 + (z_10.1 - z_15.1))] h_17 i_252_38 rfl ?_
        refine wp_s 40 [some (.ref 382), some (.int (x1 + (z_10.1 - z_15.1))), some (.int x2), some (.int x3)] [] h_17 i_252_39 rfl ?_
        refine wp_s 43 [some (.ref 382), some (.int (x1 + (z_10.1 - z_15.1))), some (.int x2), some (.int (x3 + (1 : Int32)))] [] h_17 i_252_40 rfl ?_
        refine wp_s 16 [some (.ref 382), some (.int (x1 + (z_10.1 - z_15.1))), some (.int x2), some (.int (x3 + (1 : Int32)))] [] h_17 i_252_43 rfl ?_
        exact aWp.post (aWp.forget (ih.2 _ _ _ _ _ _ H_18.1 hd) ((lvS (lvS (lvS (lvS lvE)))))) (fun _ _ hq => ⟨hq.1, H_18.tr hq.2⟩)
def d_252 (g : Nat)  (S : rS) : Option (Int32 × rS) := (l_252 g g 0 (0 : Int32) (0 : Int32) 0 S)
set_option maxHeartbeats 4000000 in
set_option maxRecDepth 100000 in
theorem d_252_ok {X : aX} {g d : Nat}  {S : rS} {h0 : aH} {zz : Int32 × rS} (hdp : 4 ≤ d) (HS : rm h0 S) (hd : d_252 g  S = some zz) : aWp X d 252 0 (aEntL [.ref 382] 4) [] h0 (fun w h' => w = some (.int zz.1) ∧ rTo h0 zz.2 h') := by
  unfold d_252 at hd
  have HH := rTo.rf HS
  refine wp_lv (l2 := [some (.ref 382), none, none, none]) rfl ?_
  obtain ⟨e, rfl⟩ : ∃ e, d = e + 1 := ⟨d - 1, by omega⟩
  refine wp_s 1 [some (.ref 382), none, none, none] [.int (0 : Int32)] h0 i_252_0 rfl ?_
  refine wp_s 2 [some (.ref 382), some (.int (0 : Int32)), none, none] [] h0 i_252_1 rfl ?_
  refine wp_s 3 [some (.ref 382), some (.int (0 : Int32)), none, none] [.int (0 : Int32)] h0 i_252_2 rfl ?_
  refine wp_s 4 [some (.ref 382), some (.int (0 : Int32)), some (.int (0 : Int32)), none] [] h0 i_252_3 rfl ?_
  exact aWp.post (aWp.forget ((l_252_ok hdp g).1 _ _ _ _ _ _ HH.1 hd) ((lvS (lvS (lvS (lvN lvE)))))) (fun _ _ hq => ⟨hq.1, HH.tr hq.2⟩)
def l_253 (g n tag : Nat) (x1 : Int32) (x2 : Int32) (S : rS) : Option (Int32 × rS) := match n with
  | 0 => none
  | n + 1 => if tag = 0 then (if aIn (1 : Int32) 181 = true then (if ((S.2.1 20) (1 : Int32).toNatClampNeg) ≤ x2 then some (x1, S) else (if aIn x2 8 = true then (l_253 g n 0 (x1 + ((S.2.1 35) x2.toNatClampNeg)) (x2 + (1 : Int32)) S) else none)) else none) else none
set_option maxHeartbeats 4000000 in
set_option maxRecDepth 100000 in
theorem l_253_ok {X : aX} {g d : Nat} (hdp : 0 ≤ d) : ∀ n, (∀ (x1 : Int32) (x2 : Int32) (S : rS) (h0 : aH) (zz : Int32 × rS), rm h0 S → l_253 g n 0 x1 x2 S = some zz → aWp X d 253 4 [some (.ref 382), some (.int x1), some (.int x2)] [] h0 (fun w h' => w = some (.int zz.1) ∧ rTo h0 zz.2 h')) := by
  intro n
  induction n with
  | zero => exact fun _ _ _ _ _ _ hd => by simp [l_253] at hd
  | succ n ih =>
    intro x1 x2 S h0 zz HS hd
    unfold l_253 at hd
    rw [if_pos rfl] at hd
    have HH := rTo.rf HS
    refine wp_s 5 [some (.ref 382), some (.int x1), some (.int x2)] [.int x2] h0 i_253_4 rfl ?_
    refine wp_s 6 [some (.ref 382), some (.int x1), some (.int x2)] [.ref 382, .int x2] h0 i_253_5 rfl ?_
    refine wp_get (v := .ref 392) 9 rfl i_253_6 (HH.1 0 (by decide)) rfl ?_
    refine wp_s 10 [some (.ref 382), some (.int x1), some (.int x2)] [.int (1 : Int32), .ref 392, .int x2] h0 i_253_9 rfl ?_
    obtain ⟨b_1, hd⟩ := dk_if hd
    refine wp_iald (f := (S.2.1 20)) 11 rfl i_253_10 (HH.1 10 (by decide)) b_1 ?_
    refine wp_cmp_ge 29 14 rfl rfl i_253_11 (fun c_2 => ?_) (fun c_2 => ?_)
    · rw [if_pos c_2] at hd
      refine wp_s 30 [some (.ref 382), some (.int x1), some (.int x2)] [.int x1] h0 i_253_29 rfl ?_
      obtain rfl := Option.some.inj hd
      exact wp_iret i_253_30 ⟨rfl, HH⟩
    · rw [if_neg c_2] at hd
      refine wp_s 15 [some (.ref 382), some (.int x1), some (.int x2)] [.int x1] h0 i_253_14 rfl ?_
      refine wp_s 16 [some (.ref 382), some (.int x1), some (.int x2)] [.ref 382, .int x1] h0 i_253_15 rfl ?_
      refine wp_get (v := .ref 400) 19 rfl i_253_16 (HH.1 0 (by decide)) rfl ?_
      refine wp_s 20 [some (.ref 382), some (.int x1), some (.int x2)] [.int x2, .ref 400, .int x1] h0 i_253_19 rfl ?_
      obtain ⟨b_3, hd⟩ := dk_if hd
      refine wp_iald (f := (S.2.1 35)) 21 rfl i_253_20 (HH.1 18 (by decide)) b_3 ?_
      refine wp_s 22 [some (.ref 382), some (.int x1), some (.int x2)] [.int (x1 + ((S.2.1 35) x2.toNatClampNeg))] h0 i_253_21 rfl ?_
      refine wp_s 23 [some (.ref 382), some (.int (x1 + ((S.2.1 35) x2.toNatClampNeg))), some (.int x2)] [] h0 i_253_22 rfl ?_
      refine wp_s 26 [some (.ref 382), some (.int (x1 + ((S.2.1 35) x2.toNatClampNeg))), some (.int (x2 + (1 : Int32)))] [] h0 i_253_23 rfl ?_
      refine wp_s 4 [some (.ref 382), some (.int (x1 + ((S.2.1 35) x2.toNatClampNeg))), some (.int (x2 + (1 : Int32)))] [] h0 i_253_26 rfl ?_
      exact aWp.post (aWp.forget (ih _ _ _ _ _ HH.1 hd) ((lvS (lvS (lvS lvE))))) (fun _ _ hq => ⟨hq.1, HH.tr hq.2⟩)
def d_253 (g : Nat)  (S : rS) : Option (Int32 × rS) := (l_253 g g 0 (0 : Int32) (0 : Int32) S)
set_option maxHeartbeats 4000000 in
set_option maxRecDepth 100000 in
theorem d_253_ok {X : aX} {g d : Nat}  {S : rS} {h0 : aH} {zz : Int32 × rS} (hdp : 0 ≤ d) (HS : rm h0 S) (hd : d_253 g  S = some zz) : aWp X d 253 0 (aEntL [.ref 382] 3) [] h0 (fun w h' => w = some (.int zz.1) ∧ rTo h0 zz.2 h') := by
  unfold d_253 at hd
  have HH := rTo.rf HS
  refine wp_lv (l2 := [some (.ref 382), none, none]) rfl ?_
  refine wp_s 1 [some (.ref 382), none, none] [.int (0 : Int32)] h0 i_253_0 rfl ?_
  refine wp_s 2 [some (.ref 382), some (.int (0 : Int32)), none] [] h0 i_253_1 rfl ?_
  refine wp_s 3 [some (.ref 382), some (.int (0 : Int32)), none] [.int (0 : Int32)] h0 i_253_2 rfl ?_
  refine wp_s 4 [some (.ref 382), some (.int (0 : Int32)), some (.int (0 : Int32))] [] h0 i_253_3 rfl ?_
  exact aWp.post (aWp.forget ((l_253_ok hdp g) _ _ _ _ _ HH.1 hd) ((lvS (lvS (lvS lvE))))) (fun _ _ hq => ⟨hq.1, HH.tr hq.2⟩)
def l_254 (g n tag : Nat) (x1 : Int32) (x2 : Int32) (S : rS) : Option (Int32 × rS) := match n with
  | 0 => none
  | n + 1 => if tag = 0 then (if x1 < 0 then (l_254 g n 1 x1 0 S) else (if aIn x1 8 = true then ((d_191 g x1 (4 : Int32) S).bind (fun z_3 => (if ¬ ((S.2.1 35) x1.toNatClampNeg) = z_3.1 then (l_254 g n 1 x1 0 z_3.2) else (l_254 g n 0 (x1 + (-1 : Int32)) 0 z_3.2)))) else none)) else if tag = 1 then (if 0 ≤ x1 then (if aIn x1 8 = true then (if aIn x1 8 = true then (l_254 g n 2 x1 (x1 + (1 : Int32)) (rA S 35 (upd (S.2.1 35) x1.toNatClampNeg (((S.2.1 35) x1.toNatClampNeg) + (1 : Int32))))) else none) else none) else some ((0 : Int32), S)) else if tag = 2 then (if aIn (1 : Int32) 181 = true then (if ((S.2.1 20) (1 : Int32).toNatClampNeg) ≤ x2 then some ((1 : Int32), S) else (if aIn x2 8 = true then (l_254 g n 2 x1 (x2 + (1 : Int32)) (rA S 35 (upd (S.2.1 35) x2.toNatClampNeg (0 : Int32)))) else none)) else none) else none
set_option maxHeartbeats 4000000 in
set_option maxRecDepth 100000 in
theorem l_254_ok {X : aX} {g d : Nat} (hdp : 1 ≤ d) : ∀ n, (∀ (x1 : Int32) (x2 : Int32) (S : rS) (h0 : aH) (zz : Int32 × rS), rm h0 S → l_254 g n 0 x1 x2 S = some zz → aWp X d 254 9 [some (.ref 382), some (.int x1), none] [] h0 (fun w h' => w = some (.int zz.1) ∧ rTo h0 zz.2 h')) ∧ (∀ (x1 : Int32) (x2 : Int32) (S : rS) (h0 : aH) (zz : Int32 × rS), rm h0 S → l_254 g n 1 x1 x2 S = some zz → aWp X d 254 34 [some (.ref 382), some (.int x1), none] [] h0 (fun w h' => w = some (.int zz.1) ∧ rTo h0 zz.2 h')) ∧ (∀ (x1 : Int32) (x2 : Int32) (S : rS) (h0 : aH) (zz : Int32 × rS), rm h0 S → l_254 g n 2 x1 x2 S = some zz → aWp X d 254 54 [some (.ref 382), some (.int x1), some (.int x2)] [] h0 (fun w h' => w = some (.int zz.1) ∧ rTo h0 zz.2 h')) := by
  intro n
  induction n with
  | zero => exact ⟨fun _ _ _ _ _ _ hd => by simp [l_254] at hd, fun _ _ _ _ _ _ hd => by simp [l_254] at hd, fun _ _ _ _ _ _ hd => by simp [l_254] at hd⟩
  | succ n ih =>
    refine ⟨?_, ?_, ?_⟩
    · intro x1 x2 S h0 zz HS hd
      unfold l_254 at hd
      rw [if_pos rfl] at hd
      have HH := rTo.rf HS
      obtain ⟨e, rfl⟩ : ∃ e, d = e + 1 := ⟨d - 1, by omega⟩
      refine wp_s 10 [some (.ref 382), some (.int x1), none] [.int x1] h0 i_254_9 rfl ?_
      refine wp_if_lt 34 13 rfl rfl i_254_10 (fun c_1 => ?_) (fun c_1 => ?_)
      · rw [if_pos c_1] at hd
        exact aWp.post (aWp.forget (ih.2.1 _ _ _ _ _ HH.1 hd) ((lvS (lvS (lvN lvE))))) (fun _ _ hq => ⟨hq.1, HH.tr hq.2⟩)
      · rw [if_neg c_1] at hd
        refine wp_s 14 [some (.ref 382), some (.int x1), none] [.ref 382] h0 i_254_13 rfl ?_
        refine wp_get (v := .ref 400) 17 rfl i_254_14 (HH.1 0 (by decide)) rfl ?_
        refine wp_s 18 [some (.ref 382), some (.int x1), none] [.int x1, .ref 400] h0 i_254_17 rfl ?_
        obtain ⟨b_2, hd⟩ := dk_if hd
        refine wp_iald (f := (S.2.1 35)) 19 rfl i_254_18 (HH.1 18 (by decide)) b_2 ?_
        refine wp_s 20 [some (.ref 382), some (.int x1), none] [.ref 382, .int ((S.2.1 35) x1.toNatClampNeg)] h0 i_254_19 rfl ?_
        refine wp_s 21 [some (.ref 382), some (.int x1), none] [.int x1, .ref 382, .int ((S.2.1 35) x1.toNatClampNeg)] h0 i_254_20 rfl ?_
        refine wp_s 22 [some (.ref 382), some (.int x1), none] [.int (4 : Int32), .int x1, .ref 382, .int ((S.2.1 35) x1.toNatClampNeg)] h0 i_254_21 rfl ?_
        obtain ⟨z_3, q_4, hd⟩ := dk_bind hd
        refine wp_callV 25 rfl i_254_22 (by decide) rfl (vs := [.int x1, .int (4 : Int32)]) (rest := [.int ((S.2.1 35) x1.toNatClampNeg)]) rfl rfl rfl (HH.1 0 (by decide)) (y := m_191) rfl (Nat.le_of_ble_eq_true rfl) (d_191_ok (d := e) (by omega) HH.1 q_4) ?_
        rintro v_7 h_5 ⟨rfl, H_6⟩
        have H_6 := HH.tr H_6
        refine wp_cmp_ne 34 28 rfl rfl i_254_25 (fun c_8 => ?_) (fun c_8 => ?_)
        · rw [if_pos c_8] at hd
          exact aWp.post (aWp.forget (ih.2.1 _ _ _ _ _ H_6.1 hd) ((lvS (lvS (lvN lvE))))) (fun _ _ hq => ⟨hq.1, H_6.tr hq.2⟩)
        · rw [if_neg c_8] at hd
          refine wp_s 31 [some (.ref 382), some (.int (x1 + (-1 : Int32))), none] [] h_5 i_254_28 rfl ?_
          refine wp_s 9 [some (.ref 382), some (.int (x1 + (-1 : Int32))), none] [] h_5 i_254_31 rfl ?_
          exact aWp.post (aWp.forget (ih.1 _ _ _ _ _ H_6.1 hd) ((lvS (lvS (lvN lvE))))) (fun _ _ hq => ⟨hq.1, H_6.tr hq.2⟩)
    · intro x1 x2 S h0 zz HS hd
      unfold l_254 at hd
      rw [if_neg (by decide), if_pos rfl] at hd
      have HH := rTo.rf HS
      obtain ⟨e, rfl⟩ : ∃ e, d = e + 1 := ⟨d - 1, by omega⟩
      refine wp_s 35 [some (.ref 382), some (.int x1), none] [.int x1] h0 i_254_34 rfl ?_
      refine wp_if_ge 40 38 rfl rfl i_254_35 (fun c_9 => ?_) (fun c_9 => ?_)
      · rw [if_pos c_9] at hd
        refine wp_s 41 [some (.ref 382), some (.int x1), none] [.ref 382] h0 i_254_40 rfl ?_
        refine wp_get (v := .ref 400) 44 rfl i_254_41 (HH.1 0 (by decide)) rfl ?_
        refine wp_s 45 [some (.ref 382), some (.int x1), none] [.int x1, .ref 400] h0 i_254_44 rfl ?_
        refine wp_s 46 [some (.ref 382), some (.int x1), none] [.int x1, .ref 400, .int x1, .ref 400] h0 i_254_45 rfl ?_
        obtain ⟨b_10, hd⟩ := dk_if hd
        refine wp_iald (f := (S.2.1 35)) 47 rfl i_254_46 (HH.1 18 (by decide)) b_10 ?_
        refine wp_s 48 [some (.ref 382), some (.int x1), none] [.int (1 : Int32), .int ((S.2.1 35) x1.toNatClampNeg), .int x1, .ref 400] h0 i_254_47 rfl ?_
        refine wp_s 49 [some (.ref 382), some (.int x1), none] [.int (((S.2.1 35) x1.toNatClampNeg) + (1 : Int32)), .int x1, .ref 400] h0 i_254_48 rfl ?_
        obtain ⟨b_11, hd⟩ := dk_if hd
        refine rq_A35 50 rfl i_254_49 HH b_11 (fun h_12 H_13 => ?_)
        refine wp_s 51 [some (.ref 382), some (.int x1), none] [.int x1] h_12 i_254_50 rfl ?_
        refine wp_s 52 [some (.ref 382), some (.int x1), none] [.int (1 : Int32), .int x1] h_12 i_254_51 rfl ?_
        refine wp_s 53 [some (.ref 382), some (.int x1), none] [.int (x1 + (1 : Int32))] h_12 i_254_52 rfl ?_
        refine wp_s 54 [some (.ref 382), some (.int x1), some (.int (x1 + (1 : Int32)))] [] h_12 i_254_53 rfl ?_
        exact aWp.post (aWp.forget (ih.2.2 _ _ _ _ _ H_13.1 hd) ((lvS (lvS (lvS lvE))))) (fun _ _ hq => ⟨hq.1, H_13.tr hq.2⟩)
      · rw [if_neg c_9] at hd
        refine wp_s 39 [some (.ref 382), some (.int x1), none] [.int (0 : Int32)] h0 i_254_38 rfl ?_
        obtain rfl := Option.some.inj hd
        exact wp_iretZ (z := 0) i_254_39 (by decide) ⟨rfl, HH⟩
    · intro x1 x2 S h0 zz HS hd
      unfold l_254 at hd
      rw [if_neg (by decide), if_neg (by decide), if_pos rfl] at hd
      have HH := rTo.rf HS
      obtain ⟨e, rfl⟩ : ∃ e, d = e + 1 := ⟨d - 1, by omega⟩
      refine wp_s 55 [some (.ref 382), some (.int x1), some (.int x2)] [.int x2] h0 i_254_54 rfl ?_
      refine wp_s 56 [some (.ref 382), some (.int x1), some (.int x2)] [.ref 382, .int x2] h0 i_254_55 rfl ?_
      refine wp_get (v := .ref 392) 59 rfl i_254_56 (HH.1 0 (by decide)) rfl ?_
      refine wp_s 60 [some (.ref 382), some (.int x1), some (.int x2)] [.int (1 : Int32), .ref 392, .int x2] h0 i_254_59 rfl ?_
      obtain ⟨b_14, hd⟩ := dk_if hd
      refine wp_iald (f := (S.2.1 20)) 61 rfl i_254_60 (HH.1 10 (by decide)) b_14 ?_
      refine wp_cmp_ge 77 64 rfl rfl i_254_61 (fun c_15 => ?_) (fun c_15 => ?_)
      · rw [if_pos c_15] at hd
        refine wp_s 78 [some (.ref 382), some (.int x1), some (.int x2)] [.int (1 : Int32)] h0 i_254_77 rfl ?_
        obtain rfl := Option.some.inj hd
        exact wp_iretZ (z := 0) i_254_78 (by decide) ⟨rfl, HH⟩
      · rw [if_neg c_15] at hd
        refine wp_s 65 [some (.ref 382), some (.int x1), some (.int x2)] [.ref 382] h0 i_254_64 rfl ?_
        refine wp_get (v := .ref 400) 68 rfl i_254_65 (HH.1 0 (by decide)) rfl ?_
        refine wp_s 69 [some (.ref 382), some (.int x1), some (.int x2)] [.int x2, .ref 400] h0 i_254_68 rfl ?_
        refine wp_s 70 [some (.ref 382), some (.int x1), some (.int x2)] [.int (0 : Int32), .int x2, .ref 400] h0 i_254_69 rfl ?_
        obtain ⟨b_16, hd⟩ := dk_if hd
        refine rq_A35 71 rfl i_254_70 HH b_16 (fun h_17 H_18 => ?_)
        refine wp_s 74 [some (.ref 382), some (.int x1), some (.int (x2 + (1 : Int32)))] [] h_17 i_254_71 rfl ?_
        refine wp_s 54 [some (.ref 382), some (.int x1), some (.int (x2 + (1 : Int32)))] [] h_17 i_254_74 rfl ?_
        exact aWp.post (aWp.forget (ih.2.2 _ _ _ _ _ H_18.1 hd) ((lvS (lvS (lvS lvE))))) (fun _ _ hq => ⟨hq.1, H_18.tr hq.2⟩)
def d_254 (g : Nat)  (S : rS) : Option (Int32 × rS) := (if aIn (1 : Int32) 181 = true then (l_254 g g 0 (((S.2.1 20) (1 : Int32).toNatClampNeg) - (1 : Int32)) 0 S) else none)
set_option maxHeartbeats 4000000 in
set_option maxRecDepth 100000 in
theorem d_254_ok {X : aX} {g d : Nat}  {S : rS} {h0 : aH} {zz : Int32 × rS} (hdp : 1 ≤ d) (HS : rm h0 S) (hd : d_254 g  S = some zz) : aWp X d 254 0 (aEntL [.ref 382] 3) [] h0 (fun w h' => w = some (.int zz.1) ∧ rTo h0 zz.2 h') := by
  unfold d_254 at hd
  have HH := rTo.rf HS
  refine wp_lv (l2 := [some (.ref 382), none, none]) rfl ?_
  obtain ⟨e, rfl⟩ : ∃ e, d = e + 1 := ⟨d - 1, by omega⟩
  refine wp_s 1 [some (.ref 382), none, none] [.ref 382] h0 i_254_0 rfl ?_
  refine wp_get (v := .ref 392) 4 rfl i_254_1 (HH.1 0 (by decide)) rfl ?_
  refine wp_s 5 [some (.ref 382), none, none] [.int (1 : Int32), .ref 392] h0 i_254_4 rfl ?_
  obtain ⟨b_1001, hd⟩ := dk_if hd
  refine wp_iald (f := (S.2.1 20)) 6 rfl i_254_5 (HH.1 10 (by decide)) b_1001 ?_
  refine wp_s 7 [some (.ref 382), none, none] [.int (1 : Int32), .int ((S.2.1 20) (1 : Int32).toNatClampNeg)] h0 i_254_6 rfl ?_
  refine wp_s 8 [some (.ref 382), none, none] [.int (((S.2.1 20) (1 : Int32).toNatClampNeg) - (1 : Int32))] h0 i_254_7 rfl ?_
  refine wp_s 9 [some (.ref 382), some (.int (((S.2.1 20) (1 : Int32).toNatClampNeg) - (1 : Int32))), none] [] h0 i_254_8 rfl ?_
  exact aWp.post (aWp.forget ((l_254_ok hdp g).1 _ _ _ _ _ HH.1 hd) ((lvS (lvS (lvN lvE))))) (fun _ _ hq => ⟨hq.1, HH.tr hq.2⟩)
def l_255 (g n tag : Nat) (x1 : Int32) (x2 : Int32) (x3 : Int32) (x4 : Int32) (x5 : Int32) (S : rS) : Option (Int32 × rS) := match n with
  | 0 => none
  | n + 1 => if tag = 0 then (if aIn (1 : Int32) 181 = true then (if ((S.2.1 20) (1 : Int32).toNatClampNeg) ≤ x2 then (l_255 g n 1 x1 (1 : Int32) 0 0 0 S) else (if aIn x2 8 = true then (l_255 g n 0 x1 (x2 + (1 : Int32)) 0 0 0 (rA S 35 (upd (S.2.1 35) x2.toNatClampNeg (0 : Int32)))) else none)) else none) else if tag = 1 then (if x2 = 0 then (if ¬ x1 = 0 then (if aIn (1 : Int32) 181 = true then (if ((S.2.1 20) (1 : Int32).toNatClampNeg) < x1 then some ((-2 : Int32), S) else (if aIn (x1 - (1 : Int32)) 8 = true then some (((S.2.1 28) (x1 - (1 : Int32)).toNatClampNeg), S) else none)) else none) else some ((S.1 30), S)) else ((d_252 g  S).bind (fun z_11 => ((d_253 g  z_11.2).bind (fun z_16 => (if (z_16.2.1 29) < 0 then (l_255 g n 2 x1 x2 z_11.1 z_16.1 0 z_16.2) else (if (z_16.2.1 30) < z_11.1 then (l_255 g n 2 x1 x2 z_11.1 z_16.1 0 z_16.2) else (if ¬ z_11.1 = (z_16.2.1 30) then (l_255 g n 4 x1 x2 z_11.1 z_16.1 0 z_16.2) else (if (z_16.2.1 29) ≤ z_16.1 then (l_255 g n 4 x1 x2 z_11.1 z_16.1 0 z_16.2) else (l_255 g n 2 x1 x2 z_11.1 z_16.1 0 z_16.2)))))))))) else if tag = 2 then (l_255 g n 3 x1 x2 x3 x4 (0 : Int32) (rF (rF S 30 x3) 29 x4)) else if tag = 3 then (if aIn (1 : Int32) 181 = true then (if ((S.2.1 20) (1 : Int32).toNatClampNeg) ≤ x5 then (l_255 g n 4 x1 x2 x3 x4 0 S) else (if aIn x5 8 = true then (if aIn x5 8 = true then (l_255 g n 3 x1 x2 x3 x4 (x5 + (1 : Int32)) (rA S 28 (upd (S.2.1 28) x5.toNatClampNeg ((S.2.1 35) x5.toNatClampNeg)))) else none) else none)) else none) else if tag = 4 then ((d_254 g  S).bind (fun z_35 => (l_255 g n 1 x1 z_35.1 0 0 0 z_35.2))) else none
set_option maxHeartbeats 4000000 in
set_option maxRecDepth 100000 in
theorem l_255_ok {X : aX} {g d : Nat} (hdp : 5 ≤ d) : ∀ n, (∀ (x1 : Int32) (x2 : Int32) (x3 : Int32) (x4 : Int32) (x5 : Int32) (S : rS) (h0 : aH) (zz : Int32 × rS), rm h0 S → l_255 g n 0 x1 x2 x3 x4 x5 S = some zz → aWp X d 255 34 [some (.ref 382), some (.int x1), some (.int x2), none, none, none] [] h0 (fun w h' => w = some (.int zz.1) ∧ rTo h0 zz.2 h')) ∧ (∀ (x1 : Int32) (x2 : Int32) (x3 : Int32) (x4 : Int32) (x5 : Int32) (S : rS) (h0 : aH) (zz : Int32 × rS), rm h0 S → l_255 g n 1 x1 x2 x3 x4 x5 S = some zz → aWp X d 255 59 [some (.ref 382), some (.int x1), some (.int x2), none, none, none] [] h0 (fun w h' => w = some (.int zz.1) ∧ rTo h0 zz.2 h')) ∧ (∀ (x1 : Int32) (x2 : Int32) (x3 : Int32) (x4 : Int32) (x5 : Int32) (S : rS) (h0 : aH) (zz : Int32 × rS), rm h0 S → l_255 g n 2 x1 x2 x3 x4 x5 S = some zz → aWp X d 255 106 [some (.ref 382), some (.int x1), some (.int x2), some (.int x3), some (.int x4), none] [] h0 (fun w h' => w = some (.int zz.1) ∧ rTo h0 zz.2 h')) ∧ (∀ (x1 : Int32) (x2 : Int32) (x3 : Int32) (x4 : Int32) (x5 : Int32) (S : rS) (h0 : aH) (zz : Int32 × rS), rm h0 S → l_255 g n 3 x1 x2 x3 x4 x5 S = some zz → aWp X d 255 120 [some (.ref 382), some (.int x1), some (.int x2), some (.int x3), some (.int x4), some (.int x5)] [] h0 (fun w h' => w = some (.int zz.1) ∧ rTo h0 zz.2 h')) ∧ (∀ (x1 : Int32) (x2 : Int32) (x3 : Int32) (x4 : Int32) (x5 : Int32) (S : rS) (h0 : aH) (zz : Int32 × rS), rm h0 S → l_255 g n 4 x1 x2 x3 x4 x5 S = some zz → aWp X d 255 151 [some (.ref 382), some (.int x1), some (.int x2), some (.int x3), some (.int x4), none] [] h0 (fun w h' => w = some (.int zz.1) ∧ rTo h0 zz.2 h')) := by
  intro n
  induction n with
  | zero => exact ⟨fun _ _ _ _ _ _ _ _ _ hd => by simp [l_255] at hd, fun _ _ _ _ _ _ _ _ _ hd => by simp [l_255] at hd, fun _ _ _ _ _ _ _ _ _ hd => by simp [l_255] at hd, fun _ _ _ _ _ _ _ _ _ hd => by simp [l_255] at hd, fun _ _ _ _ _ _ _ _ _ hd => by simp [l_255] at hd⟩
  | succ n ih =>
    refine ⟨?_, ?_, ?_, ?_, ?_⟩
    · intro x1 x2 x3 x4 x5 S h0 zz HS hd
      unfold l_255 at hd
      rw [if_pos rfl] at hd
      have HH := rTo.rf HS
      obtain ⟨e, rfl⟩ : ∃ e, d = e + 1 := ⟨d - 1, by omega⟩
      refine wp_s 35 [some (.ref 382), some (.int x1), some (.int x2), none, none, none] [.int x2] h0 i_255_34 rfl ?_
      refine wp_s 36 [some (.ref 382), some (.int x1), some (.int x2), none, none, none] [.ref 382, .int x2] h0 i_255_35 rfl ?_
      refine wp_get (v := .ref 392) 39 rfl i_255_36 (HH.1 0 (by decide)) rfl ?_
      refine wp_s 40 [some (.ref 382), some (.int x1), some (.int x2), none, none, none] [.int (1 : Int32), .ref 392, .int x2] h0 i_255_39 rfl ?_
      obtain ⟨b_1, hd⟩ := dk_if hd
      refine wp_iald (f := (S.2.1 20)) 41 rfl i_255_40 (HH.1 10 (by decide)) b_1 ?_
      refine wp_cmp_ge 57 44 rfl rfl i_255_41 (fun c_2 => ?_) (fun c_2 => ?_)
      · rw [if_pos c_2] at hd
        refine wp_s 58 [some (.ref 382), some (.int x1), some (.int x2), none, none, none] [.int (1 : Int32)] h0 i_255_57 rfl ?_
        refine wp_s 59 [some (.ref 382), some (.int x1), some (.int (1 : Int32)), none, none, none] [] h0 i_255_58 rfl ?_
        exact aWp.post (aWp.forget (ih.2.1 _ _ _ _ _ _ _ _ HH.1 hd) ((lvS (lvS (lvS (lvN (lvN (lvN lvE)))))))) (fun _ _ hq => ⟨hq.1, HH.tr hq.2⟩)
      · rw [if_neg c_2] at hd
        refine wp_s 45 [some (.ref 382), some (.int x1), some (.int x2), none, none, none] [.ref 382] h0 i_255_44 rfl ?_
        refine wp_get (v := .ref 400) 48 rfl i_255_45 (HH.1 0 (by decide)) rfl ?_
        refine wp_s 49 [some (.ref 382), some (.int x1), some (.int x2), none, none, none] [.int x2, .ref 400] h0 i_255_48 rfl ?_
        refine wp_s 50 [some (.ref 382), some (.int x1), some (.int x2), none, none, none] [.int (0 : Int32), .int x2, .ref 400] h0 i_255_49 rfl ?_
        obtain ⟨b_3, hd⟩ := dk_if hd
        refine rq_A35 51 rfl i_255_50 HH b_3 (fun h_4 H_5 => ?_)
        refine wp_s 54 [some (.ref 382), some (.int x1), some (.int (x2 + (1 : Int32))), none, none, none] [] h_4 i_255_51 rfl ?_
        refine wp_s 34 [some (.ref 382), some (.int x1), some (.int (x2 + (1 : Int32))), none, none, none] [] h_4 i_255_54 rfl ?_
        exact aWp.post (aWp.forget (ih.1 _ _ _ _ _ _ _ _ H_5.1 hd) ((lvS (lvS (lvS (lvN (lvN (lvN lvE)))))))) (fun _ _ hq => ⟨hq.1, H_5.tr hq.2⟩)
    · intro x1 x2 x3 x4 x5 S h0 zz HS hd
      unfold l_255 at hd
      rw [if_neg (by decide), if_pos rfl] at hd
      have HH := rTo.rf HS
      obtain ⟨e, rfl⟩ : ∃ e, d = e + 1 := ⟨d - 1, by omega⟩
      refine wp_s 60 [some (.ref 382), some (.int x1), some (.int x2), none, none, none] [.int x2] h0 i_255_59 rfl ?_
      refine wp_if_eq 159 63 rfl rfl i_255_60 (fun c_6 => ?_) (fun c_6 => ?_)
      · rw [if_pos c_6] at hd
        refine wp_s 160 [some (.ref 382), some (.int x1), some (.int x2), none, none, none] [.int x1] h0 i_255_159 rfl ?_
        refine wp_if_ne 170 163 rfl rfl i_255_160 (fun c_7 => ?_) (fun c_7 => ?_)
        · rw [if_pos c_7] at hd
          refine wp_s 171 [some (.ref 382), some (.int x1), some (.int x2), none, none, none] [.int x1] h0 i_255_170 rfl ?_
          refine wp_s 172 [some (.ref 382), some (.int x1), some (.int x2), none, none, none] [.ref 382, .int x1] h0 i_255_171 rfl ?_
          refine wp_get (v := .ref 392) 175 rfl i_255_172 (HH.1 0 (by decide)) rfl ?_
          refine wp_s 176 [some (.ref 382), some (.int x1), some (.int x2), none, none, none] [.int (1 : Int32), .ref 392, .int x1] h0 i_255_175 rfl ?_
          obtain ⟨b_8, hd⟩ := dk_if hd
          refine wp_iald (f := (S.2.1 20)) 177 rfl i_255_176 (HH.1 10 (by decide)) b_8 ?_
          refine wp_cmp_gt 191 180 rfl rfl i_255_177 (fun c_9 => ?_) (fun c_9 => ?_)
          · rw [if_pos c_9] at hd
            refine wp_s 193 [some (.ref 382), some (.int x1), some (.int x2), none, none, none] [.int (-2 : Int32)] h0 i_255_191 rfl ?_
            obtain rfl := Option.some.inj hd
            exact wp_iret i_255_193 ⟨rfl, HH⟩
          · rw [if_neg c_9] at hd
            refine wp_s 181 [some (.ref 382), some (.int x1), some (.int x2), none, none, none] [.ref 382] h0 i_255_180 rfl ?_
            refine wp_get (v := .ref 395) 184 rfl i_255_181 (HH.1 0 (by decide)) rfl ?_
            refine wp_s 185 [some (.ref 382), some (.int x1), some (.int x2), none, none, none] [.int x1, .ref 395] h0 i_255_184 rfl ?_
            refine wp_s 186 [some (.ref 382), some (.int x1), some (.int x2), none, none, none] [.int (1 : Int32), .int x1, .ref 395] h0 i_255_185 rfl ?_
            refine wp_s 187 [some (.ref 382), some (.int x1), some (.int x2), none, none, none] [.int (x1 - (1 : Int32)), .ref 395] h0 i_255_186 rfl ?_
            obtain ⟨b_10, hd⟩ := dk_if hd
            refine wp_iald (f := (S.2.1 28)) 188 rfl i_255_187 (HH.1 13 (by decide)) b_10 ?_
            refine wp_s 193 [some (.ref 382), some (.int x1), some (.int x2), none, none, none] [.int ((S.2.1 28) (x1 - (1 : Int32)).toNatClampNeg)] h0 i_255_188 rfl ?_
            obtain rfl := Option.some.inj hd
            exact wp_iret i_255_193 ⟨rfl, HH⟩
        · rw [if_neg c_7] at hd
          refine wp_s 164 [some (.ref 382), some (.int x1), some (.int x2), none, none, none] [.ref 382] h0 i_255_163 rfl ?_
          refine wp_get (v := .int (S.1 30)) 167 rfl i_255_164 (HH.1 0 (by decide)) rfl ?_
          refine wp_s 193 [some (.ref 382), some (.int x1), some (.int x2), none, none, none] [.int (S.1 30)] h0 i_255_167 rfl ?_
          obtain rfl := Option.some.inj hd
          exact wp_iret i_255_193 ⟨rfl, HH⟩
      · rw [if_neg c_6] at hd
        refine wp_s 64 [some (.ref 382), some (.int x1), some (.int x2), none, none, none] [.ref 382] h0 i_255_63 rfl ?_
        obtain ⟨z_11, q_12, hd⟩ := dk_bind hd
        refine wp_callV 67 rfl i_255_64 (by decide) rfl (vs := []) (rest := []) rfl rfl rfl (HH.1 0 (by decide)) (y := m_252) rfl (Nat.le_of_ble_eq_true rfl) (d_252_ok (d := e) (by omega) HH.1 q_12) ?_
        rintro v_15 h_13 ⟨rfl, H_14⟩
        have H_14 := HH.tr H_14
        refine wp_s 68 [some (.ref 382), some (.int x1), some (.int x2), some (.int z_11.1), none, none] [] h_13 i_255_67 rfl ?_
        refine wp_s 69 [some (.ref 382), some (.int x1), some (.int x2), some (.int z_11.1), none, none] [.ref 382] h_13 i_255_68 rfl ?_
        obtain ⟨z_16, q_17, hd⟩ := dk_bind hd
        refine wp_callV 72 rfl i_255_69 (by decide) rfl (vs := []) (rest := []) rfl rfl rfl (H_14.1 0 (by decide)) (y := m_253) rfl (Nat.le_of_ble_eq_true rfl) (d_253_ok (d := e) (by omega) H_14.1 q_17) ?_
        rintro v_20 h_18 ⟨rfl, H_19⟩
        have H_19 := H_14.tr H_19
        refine wp_s 74 [some (.ref 382), some (.int x1), some (.int x2), some (.int z_11.1), some (.int z_16.1), none] [] h_18 i_255_72 rfl ?_
        refine wp_s 75 [some (.ref 382), some (.int x1), some (.int x2), some (.int z_11.1), some (.int z_16.1), none] [.ref 382] h_18 i_255_74 rfl ?_
        refine wp_get (v := .int (z_16.2.1 29)) 78 rfl i_255_75 (H_19.1 0 (by decide)) rfl ?_
        refine wp_if_lt 106 81 rfl rfl i_255_78 (fun c_21 => ?_) (fun c_21 => ?_)
        · rw [if_pos c_21] at hd
          exact aWp.post (aWp.forget (ih.2.2.1 _ _ _ _ _ _ _ _ H_19.1 hd) ((lvS (lvS (lvS (lvS (lvS (lvN lvE)))))))) (fun _ _ hq => ⟨hq.1, H_19.tr hq.2⟩)
        · rw [if_neg c_21] at hd
          refine wp_s 82 [some (.ref 382), some (.int x1), some (.int x2), some (.int z_11.1), some (.int z_16.1), none] [.int z_11.1] h_18 i_255_81 rfl ?_
          refine wp_s 83 [some (.ref 382), some (.int x1), some (.int x2), some (.int z_11.1), some (.int z_16.1), none] [.ref 382, .int z_11.1] h_18 i_255_82 rfl ?_
          refine wp_get (v := .int (z_16.2.1 30)) 86 rfl i_255_83 (H_19.1 0 (by decide)) rfl ?_
          refine wp_cmp_gt 106 89 rfl rfl i_255_86 (fun c_22 => ?_) (fun c_22 => ?_)
          · rw [if_pos c_22] at hd
            exact aWp.post (aWp.forget (ih.2.2.1 _ _ _ _ _ _ _ _ H_19.1 hd) ((lvS (lvS (lvS (lvS (lvS (lvN lvE)))))))) (fun _ _ hq => ⟨hq.1, H_19.tr hq.2⟩)
          · rw [if_neg c_22] at hd
            refine wp_s 90 [some (.ref 382), some (.int x1), some (.int x2), some (.int z_11.1), some (.int z_16.1), none] [.int z_11.1] h_18 i_255_89 rfl ?_
            refine wp_s 91 [some (.ref 382), some (.int x1), some (.int x2), some (.int z_11.1), some (.int z_16.1), none] [.ref 382, .int z_11.1] h_18 i_255_90 rfl ?_
            refine wp_get (v := .int (z_16.2.1 30)) 94 rfl i_255_91 (H_19.1 0 (by decide)) rfl ?_
            refine wp_cmp_ne 151 97 rfl rfl i_255_94 (fun c_23 => ?_) (fun c_23 => ?_)
            · rw [if_pos c_23] at hd
              exact aWp.post (aWp.forget (ih.2.2.2.2 _ _ _ _ _ _ _ _ H_19.1 hd) ((lvS (lvS (lvS (lvS (lvS (lvN lvE)))))))) (fun _ _ hq => ⟨hq.1, H_19.tr hq.2⟩)
            · rw [if_neg c_23] at hd
              refine wp_s 99 [some (.ref 382), some (.int x1), some (.int x2), some (.int z_11.1), some (.int z_16.1), none] [.int z_16.1] h_18 i_255_97 rfl ?_
              refine wp_s 100 [some (.ref 382), some (.int x1), some (.int x2), some (.int z_11.1), some (.int z_16.1), none] [.ref 382, .int z_16.1] h_18 i_255_99 rfl ?_
              refine wp_get (v := .int (z_16.2.1 29)) 103 rfl i_255_100 (H_19.1 0 (by decide)) rfl ?_
              refine wp_cmp_ge 151 106 rfl rfl i_255_103 (fun c_24 => ?_) (fun c_24 => ?_)
              · rw [if_pos c_24] at hd
                exact aWp.post (aWp.forget (ih.2.2.2.2 _ _ _ _ _ _ _ _ H_19.1 hd) ((lvS (lvS (lvS (lvS (lvS (lvN lvE)))))))) (fun _ _ hq => ⟨hq.1, H_19.tr hq.2⟩)
              · rw [if_neg c_24] at hd
                exact aWp.post (aWp.forget (ih.2.2.1 _ _ _ _ _ _ _ _ H_19.1 hd) ((lvS (lvS (lvS (lvS (lvS (lvN lvE)))))))) (fun _ _ hq => ⟨hq.1, H_19.tr hq.2⟩)
    · intro x1 x2 x3 x4 x5 S h0 zz HS hd
      unfold l_255 at hd
      rw [if_neg (by decide), if_neg (by decide), if_pos rfl] at hd
      have HH := rTo.rf HS
      obtain ⟨e, rfl⟩ : ∃ e, d = e + 1 := ⟨d - 1, by omega⟩
      refine wp_s 107 [some (.ref 382), some (.int x1), some (.int x2), some (.int x3), some (.int x4), none] [.ref 382] h0 i_255_106 rfl ?_
      refine wp_s 108 [some (.ref 382), some (.int x1), some (.int x2), some (.int x3), some (.int x4), none] [.int x3, .ref 382] h0 i_255_107 rfl ?_
      refine rq_F30 111 rfl i_255_108 HH (fun h_25 H_26 => ?_)
      refine wp_s 112 [some (.ref 382), some (.int x1), some (.int x2), some (.int x3), some (.int x4), none] [.ref 382] h_25 i_255_111 rfl ?_
      refine wp_s 114 [some (.ref 382), some (.int x1), some (.int x2), some (.int x3), some (.int x4), none] [.int x4, .ref 382] h_25 i_255_112 rfl ?_
      refine rq_F29 117 rfl i_255_114 H_26 (fun h_27 H_28 => ?_)
      refine wp_s 118 [some (.ref 382), some (.int x1), some (.int x2), some (.int x3), some (.int x4), none] [.int (0 : Int32)] h_27 i_255_117 rfl ?_
      refine wp_s 120 [some (.ref 382), some (.int x1), some (.int x2), some (.int x3), some (.int x4), some (.int (0 : Int32))] [] h_27 i_255_118 rfl ?_
      exact aWp.post (aWp.forget (ih.2.2.2.1 _ _ _ _ _ _ _ _ H_28.1 hd) ((lvS (lvS (lvS (lvS (lvS (lvS lvE)))))))) (fun _ _ hq => ⟨hq.1, H_28.tr hq.2⟩)
    · intro x1 x2 x3 x4 x5 S h0 zz HS hd
      unfold l_255 at hd
      rw [if_neg (by decide), if_neg (by decide), if_neg (by decide), if_pos rfl] at hd
      have HH := rTo.rf HS
      obtain ⟨e, rfl⟩ : ∃ e, d = e + 1 := ⟨d - 1, by omega⟩
      refine wp_s 122 [some (.ref 382), some (.int x1), some (.int x2), some (.int x3), some (.int x4), some (.int x5)] [.int x5] h0 i_255_120 rfl ?_
      refine wp_s 123 [some (.ref 382), some (.int x1), some (.int x2), some (.int x3), some (.int x4), some (.int x5)] [.ref 382, .int x5] h0 i_255_122 rfl ?_
      refine wp_get (v := .ref 392) 126 rfl i_255_123 (HH.1 0 (by decide)) rfl ?_
      refine wp_s 127 [some (.ref 382), some (.int x1), some (.int x2), some (.int x3), some (.int x4), some (.int x5)] [.int (1 : Int32), .ref 392, .int x5] h0 i_255_126 rfl ?_
      obtain ⟨b_29, hd⟩ := dk_if hd
      refine wp_iald (f := (S.2.1 20)) 128 rfl i_255_127 (HH.1 10 (by decide)) b_29 ?_
      refine wp_cmp_ge 151 131 rfl rfl i_255_128 (fun c_30 => ?_) (fun c_30 => ?_)
      · rw [if_pos c_30] at hd
        exact aWp.post (aWp.forget (ih.2.2.2.2 _ _ _ _ _ _ _ _ HH.1 hd) ((lvS (lvS (lvS (lvS (lvS (lvN lvE)))))))) (fun _ _ hq => ⟨hq.1, HH.tr hq.2⟩)
      · rw [if_neg c_30] at hd
        refine wp_s 132 [some (.ref 382), some (.int x1), some (.int x2), some (.int x3), some (.int x4), some (.int x5)] [.ref 382] h0 i_255_131 rfl ?_
        refine wp_get (v := .ref 395) 135 rfl i_255_132 (HH.1 0 (by decide)) rfl ?_
        refine wp_s 137 [some (.ref 382), some (.int x1), some (.int x2), some (.int x3), some (.int x4), some (.int x5)] [.int x5, .ref 395] h0 i_255_135 rfl ?_
        refine wp_s 138 [some (.ref 382), some (.int x1), some (.int x2), some (.int x3), some (.int x4), some (.int x5)] [.ref 382, .int x5, .ref 395] h0 i_255_137 rfl ?_
        refine wp_get (v := .ref 400) 141 rfl i_255_138 (HH.1 0 (by decide)) rfl ?_
        refine wp_s 143 [some (.ref 382), some (.int x1), some (.int x2), some (.int x3), some (.int x4), some (.int x5)] [.int x5, .ref 400, .int x5, .ref 395] h0 i_255_141 rfl ?_
        obtain ⟨b_31, hd⟩ := dk_if hd
        refine wp_iald (f := (S.2.1 35)) 144 rfl i_255_143 (HH.1 18 (by decide)) b_31 ?_
        obtain ⟨b_32, hd⟩ := dk_if hd
        refine rq_A28 145 rfl i_255_144 HH b_32 (fun h_33 H_34 => ?_)
        refine wp_s 148 [some (.ref 382), some (.int x1), some (.int x2), some (.int x3), some (.int x4), some (.int (x5 + (1 : Int32)))] [] h_33 i_255_145 rfl ?_
        refine wp_s 120 [some (.ref 382), some (.int x1), some (.int x2), some (.int x3), some (.int x4), some (.int (x5 + (1 : Int32)))] [] h_33 i_255_148 rfl ?_
        exact aWp.post (aWp.forget (ih.2.2.2.1 _ _ _ _ _ _ _ _ H_34.1 hd) ((lvS (lvS (lvS (lvS (lvS (lvS lvE)))))))) (fun _ _ hq => ⟨hq.1, H_34.tr hq.2⟩)
    · intro x1 x2 x3 x4 x5 S h0 zz HS hd
      unfold l_255 at hd
      rw [if_neg (by decide), if_neg (by decide), if_neg (by decide), if_neg (by decide), if_pos rfl] at hd
      have HH := rTo.rf HS
      obtain ⟨e, rfl⟩ : ∃ e, d = e + 1 := ⟨d - 1, by omega⟩
      refine wp_s 152 [some (.ref 382), some (.int x1), some (.int x2), some (.int x3), some (.int x4), none] [.ref 382] h0 i_255_151 rfl ?_
      obtain ⟨z_35, q_36, hd⟩ := dk_bind hd
      refine wp_callV 155 rfl i_255_152 (by decide) rfl (vs := []) (rest := []) rfl rfl rfl (HH.1 0 (by decide)) (y := m_254) rfl (Nat.le_of_ble_eq_true rfl) (d_254_ok (d := e) (by omega) HH.1 q_36) ?_
      rintro v_39 h_37 ⟨rfl, H_38⟩
      have H_38 := HH.tr H_38
      refine wp_s 156 [some (.ref 382), some (.int x1), some (.int z_35.1), some (.int x3), some (.int x4), none] [] h_37 i_255_155 rfl ?_
      refine wp_s 59 [some (.ref 382), some (.int x1), some (.int z_35.1), some (.int x3), some (.int x4), none] [] h_37 i_255_156 rfl ?_
      exact aWp.post (aWp.forget (ih.2.1 _ _ _ _ _ _ _ _ H_38.1 hd) ((lvS (lvS (lvS (lvN (lvN (lvN lvE)))))))) (fun _ _ hq => ⟨hq.1, H_38.tr hq.2⟩)
def d_255 (g : Nat) (x1 : Int32) (S : rS) : Option (Int32 × rS) := ((d_187 g  S).bind (fun z_1001 => (if z_1001.1 = 0 then some ((-1000000 : Int32), z_1001.2) else ((d_140 g (x1.toInt64) (0 : Int64) (8 : Int64) z_1001.2).bind (fun z_1007 => (if ¬ z_1007.1 = 0 then ((d_250 g  (rF z_1007.2 29 (-1 : Int32))).bind (fun z_1015 => (l_255 g g 0 x1 (0 : Int32) 0 0 0 z_1015))) else some ((-1000000 : Int32), z_1007.2)))))))
set_option maxHeartbeats 4000000 in
set_option maxRecDepth 100000 in
theorem d_255_ok {X : aX} {g d : Nat} {x1 : Int32} {S : rS} {h0 : aH} {zz : Int32 × rS} (hdp : 5 ≤ d) (HS : rm h0 S) (hd : d_255 g x1 S = some zz) : aWp X d 255 0 (aEntL [.ref 382, .int x1] 6) [] h0 (fun w h' => w = some (.int zz.1) ∧ rTo h0 zz.2 h') := by
  unfold d_255 at hd
  have HH := rTo.rf HS
  refine wp_lv (l2 := [some (.ref 382), some (.int x1), none, none, none, none]) rfl ?_
  obtain ⟨e, rfl⟩ : ∃ e, d = e + 1 := ⟨d - 1, by omega⟩
  refine wp_s 1 [some (.ref 382), some (.int x1), none, none, none, none] [.ref 382] h0 i_255_0 rfl ?_
  obtain ⟨z_1001, q_1002, hd⟩ := dk_bind hd
  refine wp_callV 4 rfl i_255_1 (by decide) rfl (vs := []) (rest := []) rfl rfl rfl (HH.1 0 (by decide)) (y := m_187) rfl (Nat.le_of_ble_eq_true rfl) (d_187_ok (d := e) (by omega) HH.1 q_1002) ?_
  rintro v_1005 h_1003 ⟨rfl, H_1004⟩
  have H_1004 := HH.tr H_1004
  refine wp_if_eq 19 7 rfl rfl i_255_4 (fun c_1006 => ?_) (fun c_1006 => ?_)
  · rw [if_pos c_1006] at hd
    refine wp_s 22 [some (.ref 382), some (.int x1), none, none, none, none] [.int (-1000000 : Int32)] h_1003 i_255_19 rfl ?_
    obtain rfl := Option.some.inj hd
    exact wp_iret i_255_22 ⟨rfl, H_1004⟩
  · rw [if_neg c_1006] at hd
    refine wp_s 8 [some (.ref 382), some (.int x1), none, none, none, none] [.int x1] h_1003 i_255_7 rfl ?_
    refine wp_s 9 [some (.ref 382), some (.int x1), none, none, none, none] [.long (x1.toInt64)] h_1003 i_255_8 rfl ?_
    refine wp_s 10 [some (.ref 382), some (.int x1), none, none, none, none] [.long (0 : Int64), .long (x1.toInt64)] h_1003 i_255_9 rfl ?_
    refine wp_s 13 [some (.ref 382), some (.int x1), none, none, none, none] [.long (8 : Int64), .long (0 : Int64), .long (x1.toInt64)] h_1003 i_255_10 rfl ?_
    obtain ⟨z_1007, q_1008, hd⟩ := dk_bind hd
    refine wp_callS 16 rfl i_255_13 (by decide) (vs := [.long (x1.toInt64), .long (0 : Int64), .long (8 : Int64)]) (rest := []) rfl rfl rfl (y := m_140) rfl (Nat.le_of_ble_eq_true rfl) (d_140_ok (d := e) (by omega) H_1004.1 q_1008) ?_
    rintro v_1011 h_1009 ⟨rfl, H_1010⟩
    have H_1010 := H_1004.tr H_1010
    refine wp_if_ne 23 19 rfl rfl i_255_16 (fun c_1012 => ?_) (fun c_1012 => ?_)
    · rw [if_pos c_1012] at hd
      refine wp_s 24 [some (.ref 382), some (.int x1), none, none, none, none] [.ref 382] h_1009 i_255_23 rfl ?_
      refine wp_s 25 [some (.ref 382), some (.int x1), none, none, none, none] [.int (-1 : Int32), .ref 382] h_1009 i_255_24 rfl ?_
      refine rq_F29 28 rfl i_255_25 H_1010 (fun h_1013 H_1014 => ?_)
      refine wp_s 29 [some (.ref 382), some (.int x1), none, none, none, none] [.ref 382] h_1013 i_255_28 rfl ?_
      obtain ⟨z_1015, q_1016, hd⟩ := dk_bind hd
      refine wp_callV 32 rfl i_255_29 (by decide) rfl (vs := []) (rest := []) rfl rfl rfl (H_1014.1 0 (by decide)) (y := m_250) rfl (Nat.le_of_ble_eq_true rfl) (d_250_ok (d := e) (by omega) H_1014.1 q_1016) ?_
      rintro v_1019 h_1017 ⟨rfl, H_1018⟩
      have H_1018 := H_1014.tr H_1018
      refine wp_s 33 [some (.ref 382), some (.int x1), none, none, none, none] [.int (0 : Int32)] h_1017 i_255_32 rfl ?_
      refine wp_s 34 [some (.ref 382), some (.int x1), some (.int (0 : Int32)), none, none, none] [] h_1017 i_255_33 rfl ?_
      exact aWp.post (aWp.forget ((l_255_ok hdp g).1 _ _ _ _ _ _ _ _ H_1018.1 hd) ((lvS (lvS (lvS (lvN (lvN (lvN lvE)))))))) (fun _ _ hq => ⟨hq.1, H_1018.tr hq.2⟩)
    · rw [if_neg c_1012] at hd
      refine wp_s 22 [some (.ref 382), some (.int x1), none, none, none, none] [.int (-1000000 : Int32)] h_1009 i_255_19 rfl ?_
      obtain rfl := Option.some.inj hd
      exact wp_iret i_255_22 ⟨rfl, H_1010⟩
