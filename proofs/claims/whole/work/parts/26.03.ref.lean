theorem i_199_0 : aIns 199 0 = some (.aload_n 0, 1, 0, 0, .null) := by decide +kernel
theorem i_199_1 : aIns 199 1 = some (.aload_n 0, 1, 0, 0, .null) := by decide +kernel
theorem i_199_2 : aIns 199 2 = some (.getfield 42, 3, 12, 21, .null) := by decide +kernel
theorem i_199_5 : aIns 199 5 = some (.iload_n 1, 1, 0, 0, .null) := by decide +kernel
theorem i_199_6 : aIns 199 6 = some (.iload_n 2, 1, 0, 0, .null) := by decide +kernel
theorem i_199_7 : aIns 199 7 = some (.aload_n 0, 1, 0, 0, .null) := by decide +kernel
theorem i_199_8 : aIns 199 8 = some (.iload_n 1, 1, 0, 0, .null) := by decide +kernel
theorem i_199_9 : aIns 199 9 = some (.iconst 3, 1, 0, 0, .int (3)) := by decide +kernel
theorem i_199_10 : aIns 199 10 = some (.invokevirtual 309, 3, 191, 2, .int 12) := by decide +kernel
theorem i_199_13 : aIns 199 13 = some (.invokevirtual 322, 3, 198, 4, .int 12) := by decide +kernel
theorem i_199_16 : aIns 199 16 = some (.ireturn, 1, 0, 0, .null) := by decide +kernel
theorem i_200_0 : aIns 200 0 = some (.aload_n 0, 1, 0, 0, .null) := by decide +kernel
theorem i_200_1 : aIns 200 1 = some (.iload_n 1, 1, 0, 0, .null) := by decide +kernel
theorem i_200_2 : aIns 200 2 = some (.aload_n 0, 1, 0, 0, .null) := by decide +kernel
theorem i_200_3 : aIns 200 3 = some (.getfield 39, 3, 12, 20, .null) := by decide +kernel
theorem i_200_6 : aIns 200 6 = some (.bipush 7, 2, 0, 0, .int (7)) := by decide +kernel
theorem i_200_8 : aIns 200 8 = some (.iaload, 1, 0, 0, .null) := by decide +kernel
theorem i_200_9 : aIns 200 9 = some (.invokevirtual 326, 3, 199, 2, .int 12) := by decide +kernel
theorem i_200_12 : aIns 200 12 = some (.ireturn, 1, 0, 0, .null) := by decide +kernel
theorem i_201_0 : aIns 201 0 = some (.aload_n 0, 1, 0, 0, .null) := by decide +kernel
theorem i_201_1 : aIns 201 1 = some (.iload_n 1, 1, 0, 0, .null) := by decide +kernel
theorem i_201_2 : aIns 201 2 = some (.invokevirtual 329, 3, 188, 1, .int 12) := by decide +kernel
theorem i_201_5 : aIns 201 5 = some (.ifCond .ne 5, 3, 0, 0, .null) := by decide +kernel
theorem i_201_8 : aIns 201 8 = some (.iconst (-1), 1, 0, 0, .int (-1)) := by decide +kernel
theorem i_201_9 : aIns 201 9 = some (.ireturn, 1, 0, 0, .null) := by decide +kernel
theorem i_201_10 : aIns 201 10 = some (.iload_n 2, 1, 0, 0, .null) := by decide +kernel
theorem i_201_11 : aIns 201 11 = some (.tableswitch 72 0 7 #[45, 51, 51, 51, 51, 51, 60, 66], 45, 0, 0, .null) := by decide +kernel
theorem i_201_56 : aIns 201 56 = some (.aload_n 0, 1, 0, 0, .null) := by decide +kernel
theorem i_201_57 : aIns 201 57 = some (.iload_n 1, 1, 0, 0, .null) := by decide +kernel
theorem i_201_58 : aIns 201 58 = some (.invokevirtual 332, 3, 200, 1, .int 12) := by decide +kernel
theorem i_201_61 : aIns 201 61 = some (.ireturn, 1, 0, 0, .null) := by decide +kernel
theorem i_201_62 : aIns 201 62 = some (.aload_n 0, 1, 0, 0, .null) := by decide +kernel
theorem i_201_63 : aIns 201 63 = some (.iload_n 1, 1, 0, 0, .null) := by decide +kernel
theorem i_201_64 : aIns 201 64 = some (.iload_n 2, 1, 0, 0, .null) := by decide +kernel
theorem i_201_65 : aIns 201 65 = some (.iconst 1, 1, 0, 0, .int (1)) := by decide +kernel
theorem i_201_66 : aIns 201 66 = some (.isub, 1, 0, 0, .null) := by decide +kernel
theorem i_201_67 : aIns 201 67 = some (.invokevirtual 309, 3, 191, 2, .int 12) := by decide +kernel
theorem i_201_70 : aIns 201 70 = some (.ireturn, 1, 0, 0, .null) := by decide +kernel
theorem i_201_71 : aIns 201 71 = some (.aload_n 0, 1, 0, 0, .null) := by decide +kernel
theorem i_201_72 : aIns 201 72 = some (.iload_n 1, 1, 0, 0, .null) := by decide +kernel
theorem i_201_73 : aIns 201 73 = some (.invokevirtual 306, 3, 192, 1, .int 12) := by decide +kernel
theorem i_201_76 : aIns 201 76 = some (.ireturn, 1, 0, 0, .null) := by decide +kernel
theorem i_201_77 : aIns 201 77 = some (.aload_n 0, 1, 0, 0, .null) := by decide +kernel
theorem i_201_78 : aIns 201 78 = some (.iload_n 1, 1, 0, 0, .null) := by decide +kernel
theorem i_201_79 : aIns 201 79 = some (.invokevirtual 313, 3, 193, 1, .int 12) := by decide +kernel
theorem i_201_82 : aIns 201 82 = some (.ireturn, 1, 0, 0, .null) := by decide +kernel
theorem i_201_83 : aIns 201 83 = some (.iconst (-1), 1, 0, 0, .int (-1)) := by decide +kernel
theorem i_201_84 : aIns 201 84 = some (.ireturn, 1, 0, 0, .null) := by decide +kernel
theorem i_202_0 : aIns 202 0 = some (.iconst 0, 1, 0, 0, .int (0)) := by decide +kernel
theorem i_202_1 : aIns 202 1 = some (.istore_n 2, 1, 0, 0, .null) := by decide +kernel
theorem i_202_2 : aIns 202 2 = some (.iload_n 2, 1, 0, 0, .null) := by decide +kernel
theorem i_202_3 : aIns 202 3 = some (.aload_n 0, 1, 0, 0, .null) := by decide +kernel
theorem i_202_4 : aIns 202 4 = some (.getfield 39, 3, 12, 20, .null) := by decide +kernel
theorem i_202_7 : aIns 202 7 = some (.bipush 9, 2, 0, 0, .int (9)) := by decide +kernel
theorem i_202_9 : aIns 202 9 = some (.iaload, 1, 0, 0, .null) := by decide +kernel
theorem i_202_10 : aIns 202 10 = some (.if_icmp .ge 24, 3, 0, 0, .null) := by decide +kernel
theorem i_202_13 : aIns 202 13 = some (.aload_n 0, 1, 0, 0, .null) := by decide +kernel
theorem i_202_14 : aIns 202 14 = some (.getfield 39, 3, 12, 20, .null) := by decide +kernel
theorem i_202_17 : aIns 202 17 = some (.bipush 64, 2, 0, 0, .int (64)) := by decide +kernel
theorem i_202_19 : aIns 202 19 = some (.iload_n 2, 1, 0, 0, .null) := by decide +kernel
theorem i_202_20 : aIns 202 20 = some (.iadd, 1, 0, 0, .null) := by decide +kernel
theorem i_202_21 : aIns 202 21 = some (.iaload, 1, 0, 0, .null) := by decide +kernel
theorem i_202_22 : aIns 202 22 = some (.iload_n 1, 1, 0, 0, .null) := by decide +kernel
theorem i_202_23 : aIns 202 23 = some (.if_icmp .ne 5, 3, 0, 0, .null) := by decide +kernel
theorem i_202_26 : aIns 202 26 = some (.iload_n 2, 1, 0, 0, .null) := by decide +kernel
theorem i_202_27 : aIns 202 27 = some (.ireturn, 1, 0, 0, .null) := by decide +kernel
theorem i_202_28 : aIns 202 28 = some (.iinc 2 1, 3, 0, 0, .null) := by decide +kernel
theorem i_202_31 : aIns 202 31 = some (.goto (-29), 3, 0, 0, .null) := by decide +kernel
theorem i_202_34 : aIns 202 34 = some (.iconst (-1), 1, 0, 0, .int (-1)) := by decide +kernel
theorem i_202_35 : aIns 202 35 = some (.ireturn, 1, 0, 0, .null) := by decide +kernel
theorem i_203_0 : aIns 203 0 = some (.aload_n 0, 1, 0, 0, .null) := by decide +kernel
theorem i_203_1 : aIns 203 1 = some (.iload_n 1, 1, 0, 0, .null) := by decide +kernel
theorem i_203_2 : aIns 203 2 = some (.invokevirtual 335, 3, 190, 1, .int 12) := by decide +kernel
theorem i_203_5 : aIns 203 5 = some (.ifCond .eq 15, 3, 0, 0, .null) := by decide +kernel
theorem i_203_8 : aIns 203 8 = some (.iload_n 2, 1, 0, 0, .null) := by decide +kernel
theorem i_203_9 : aIns 203 9 = some (.i2l, 1, 0, 0, .null) := by decide +kernel
theorem i_203_10 : aIns 203 10 = some (.lconst 0, 1, 0, 0, .long 0) := by decide +kernel
theorem i_203_11 : aIns 203 11 = some (.ldc2_w 338, 3, 0, 0, .long (5)) := by decide +kernel
theorem i_203_14 : aIns 203 14 = some (.invokestatic 124, 3, 140, 3, .null) := by decide +kernel
theorem i_203_17 : aIns 203 17 = some (.ifCond .ne 6, 3, 0, 0, .null) := by decide +kernel
theorem i_203_20 : aIns 203 20 = some (.bipush (-2), 2, 0, 0, .int (-2)) := by decide +kernel
theorem i_203_22 : aIns 203 22 = some (.ireturn, 1, 0, 0, .null) := by decide +kernel
theorem i_203_23 : aIns 203 23 = some (.iload_n 2, 1, 0, 0, .null) := by decide +kernel
theorem i_203_24 : aIns 203 24 = some (.iconst 3, 1, 0, 0, .int (3)) := by decide +kernel
theorem i_203_25 : aIns 203 25 = some (.if_icmp .ge 12, 3, 0, 0, .null) := by decide +kernel
theorem i_203_28 : aIns 203 28 = some (.aload_n 0, 1, 0, 0, .null) := by decide +kernel
theorem i_203_29 : aIns 203 29 = some (.iload_n 1, 1, 0, 0, .null) := by decide +kernel
theorem i_203_30 : aIns 203 30 = some (.iload_n 2, 1, 0, 0, .null) := by decide +kernel
theorem i_203_31 : aIns 203 31 = some (.invokevirtual 340, 3, 194, 2, .int 12) := by decide +kernel
theorem i_203_34 : aIns 203 34 = some (.goto 39, 3, 0, 0, .null) := by decide +kernel
theorem i_203_37 : aIns 203 37 = some (.iload_n 2, 1, 0, 0, .null) := by decide +kernel
theorem i_203_38 : aIns 203 38 = some (.iconst 3, 1, 0, 0, .int (3)) := by decide +kernel
theorem i_203_39 : aIns 203 39 = some (.if_icmp .ne 11, 3, 0, 0, .null) := by decide +kernel
theorem i_203_42 : aIns 203 42 = some (.aload_n 0, 1, 0, 0, .null) := by decide +kernel
theorem i_203_43 : aIns 203 43 = some (.iload_n 1, 1, 0, 0, .null) := by decide +kernel
theorem i_203_44 : aIns 203 44 = some (.invokevirtual 343, 3, 202, 1, .int 12) := by decide +kernel
theorem i_203_47 : aIns 203 47 = some (.goto 26, 3, 0, 0, .null) := by decide +kernel
theorem i_203_50 : aIns 203 50 = some (.iload_n 2, 1, 0, 0, .null) := by decide +kernel
theorem i_203_51 : aIns 203 51 = some (.iconst 4, 1, 0, 0, .int (4)) := by decide +kernel
theorem i_203_52 : aIns 203 52 = some (.if_icmp .ne 15, 3, 0, 0, .null) := by decide +kernel
theorem i_203_55 : aIns 203 55 = some (.aload_n 0, 1, 0, 0, .null) := by decide +kernel
theorem i_203_56 : aIns 203 56 = some (.getfield 39, 3, 12, 20, .null) := by decide +kernel
theorem i_203_59 : aIns 203 59 = some (.bipush 69, 2, 0, 0, .int (69)) := by decide +kernel
theorem i_203_61 : aIns 203 61 = some (.iload_n 1, 1, 0, 0, .null) := by decide +kernel
theorem i_203_62 : aIns 203 62 = some (.iadd, 1, 0, 0, .null) := by decide +kernel
theorem i_203_63 : aIns 203 63 = some (.iaload, 1, 0, 0, .null) := by decide +kernel
theorem i_203_64 : aIns 203 64 = some (.goto 9, 3, 0, 0, .null) := by decide +kernel
theorem i_203_67 : aIns 203 67 = some (.aload_n 0, 1, 0, 0, .null) := by decide +kernel
theorem i_203_68 : aIns 203 68 = some (.iload_n 1, 1, 0, 0, .null) := by decide +kernel
theorem i_203_69 : aIns 203 69 = some (.iconst 3, 1, 0, 0, .int (3)) := by decide +kernel
theorem i_203_70 : aIns 203 70 = some (.invokevirtual 340, 3, 194, 2, .int 12) := by decide +kernel
theorem i_203_73 : aIns 203 73 = some (.ireturn, 1, 0, 0, .null) := by decide +kernel
theorem i_204_0 : aIns 204 0 = some (.aload_n 0, 1, 0, 0, .null) := by decide +kernel
theorem i_204_1 : aIns 204 1 = some (.iload_n 1, 1, 0, 0, .null) := by decide +kernel
theorem i_204_2 : aIns 204 2 = some (.invokevirtual 346, 3, 189, 1, .int 12) := by decide +kernel
theorem i_204_5 : aIns 204 5 = some (.ifCond .eq 29, 3, 0, 0, .null) := by decide +kernel
theorem i_204_8 : aIns 204 8 = some (.iload_n 2, 1, 0, 0, .null) := by decide +kernel
theorem i_204_9 : aIns 204 9 = some (.i2l, 1, 0, 0, .null) := by decide +kernel
theorem i_204_10 : aIns 204 10 = some (.lconst 0, 1, 0, 0, .long 0) := by decide +kernel
theorem i_204_11 : aIns 204 11 = some (.lconst 1, 1, 0, 0, .long 1) := by decide +kernel
theorem i_204_12 : aIns 204 12 = some (.invokestatic 124, 3, 140, 3, .null) := by decide +kernel
theorem i_204_15 : aIns 204 15 = some (.ifCond .eq 19, 3, 0, 0, .null) := by decide +kernel
theorem i_204_18 : aIns 204 18 = some (.aload_n 0, 1, 0, 0, .null) := by decide +kernel
theorem i_204_19 : aIns 204 19 = some (.getfield 39, 3, 12, 20, .null) := by decide +kernel
theorem i_204_22 : aIns 204 22 = some (.bipush 96, 2, 0, 0, .int (96)) := by decide +kernel
theorem i_204_24 : aIns 204 24 = some (.iconst 2, 1, 0, 0, .int (2)) := by decide +kernel
theorem i_204_25 : aIns 204 25 = some (.iload_n 1, 1, 0, 0, .null) := by decide +kernel
theorem i_204_26 : aIns 204 26 = some (.imul, 1, 0, 0, .null) := by decide +kernel
theorem i_204_27 : aIns 204 27 = some (.iadd, 1, 0, 0, .null) := by decide +kernel
theorem i_204_28 : aIns 204 28 = some (.iload_n 2, 1, 0, 0, .null) := by decide +kernel
theorem i_204_29 : aIns 204 29 = some (.iadd, 1, 0, 0, .null) := by decide +kernel
theorem i_204_30 : aIns 204 30 = some (.iaload, 1, 0, 0, .null) := by decide +kernel
theorem i_204_31 : aIns 204 31 = some (.goto 4, 3, 0, 0, .null) := by decide +kernel
theorem i_204_34 : aIns 204 34 = some (.iconst (-1), 1, 0, 0, .int (-1)) := by decide +kernel
theorem i_204_35 : aIns 204 35 = some (.ireturn, 1, 0, 0, .null) := by decide +kernel
theorem i_205_0 : aIns 205 0 = some (.aload_n 0, 1, 0, 0, .null) := by decide +kernel
theorem i_205_1 : aIns 205 1 = some (.iload_n 1, 1, 0, 0, .null) := by decide +kernel
theorem i_205_2 : aIns 205 2 = some (.invokevirtual 329, 3, 188, 1, .int 12) := by decide +kernel
theorem i_205_5 : aIns 205 5 = some (.ifCond .eq 41, 3, 0, 0, .null) := by decide +kernel
theorem i_205_8 : aIns 205 8 = some (.iload_n 2, 1, 0, 0, .null) := by decide +kernel
theorem i_205_9 : aIns 205 9 = some (.i2l, 1, 0, 0, .null) := by decide +kernel
theorem i_205_10 : aIns 205 10 = some (.lconst 0, 1, 0, 0, .long 0) := by decide +kernel
theorem i_205_11 : aIns 205 11 = some (.ldc2_w 349, 3, 0, 0, .long (999)) := by decide +kernel
theorem i_205_14 : aIns 205 14 = some (.invokestatic 124, 3, 140, 3, .null) := by decide +kernel
theorem i_205_17 : aIns 205 17 = some (.ifCond .eq 29, 3, 0, 0, .null) := by decide +kernel
theorem i_205_20 : aIns 205 20 = some (.iload_n 3, 1, 0, 0, .null) := by decide +kernel
theorem i_205_21 : aIns 205 21 = some (.i2l, 1, 0, 0, .null) := by decide +kernel
theorem i_205_22 : aIns 205 22 = some (.lconst 0, 1, 0, 0, .long 0) := by decide +kernel
theorem i_205_23 : aIns 205 23 = some (.ldc2_w 351, 3, 0, 0, .long (99)) := by decide +kernel
theorem i_205_26 : aIns 205 26 = some (.invokestatic 124, 3, 140, 3, .null) := by decide +kernel
theorem i_205_29 : aIns 205 29 = some (.ifCond .eq 17, 3, 0, 0, .null) := by decide +kernel
theorem i_205_32 : aIns 205 32 = some (.aload_n 0, 1, 0, 0, .null) := by decide +kernel
theorem i_205_33 : aIns 205 33 = some (.aload_n 0, 1, 0, 0, .null) := by decide +kernel
theorem i_205_34 : aIns 205 34 = some (.getfield 42, 3, 12, 21, .null) := by decide +kernel
theorem i_205_37 : aIns 205 37 = some (.iload_n 1, 1, 0, 0, .null) := by decide +kernel
theorem i_205_38 : aIns 205 38 = some (.iload_n 2, 1, 0, 0, .null) := by decide +kernel
theorem i_205_39 : aIns 205 39 = some (.iload_n 3, 1, 0, 0, .null) := by decide +kernel
theorem i_205_40 : aIns 205 40 = some (.invokevirtual 322, 3, 198, 4, .int 12) := by decide +kernel
theorem i_205_43 : aIns 205 43 = some (.goto 4, 3, 0, 0, .null) := by decide +kernel
theorem i_205_46 : aIns 205 46 = some (.iconst (-1), 1, 0, 0, .int (-1)) := by decide +kernel
theorem i_205_47 : aIns 205 47 = some (.ireturn, 1, 0, 0, .null) := by decide +kernel
theorem i_206_0 : aIns 206 0 = some (.aload_n 0, 1, 0, 0, .null) := by decide +kernel
theorem i_206_1 : aIns 206 1 = some (.iload_n 2, 1, 0, 0, .null) := by decide +kernel
theorem i_206_2 : aIns 206 2 = some (.putfield 353, 3, 12, 24, .null) := by decide +kernel
theorem i_206_5 : aIns 206 5 = some (.iconst 0, 1, 0, 0, .int (0)) := by decide +kernel
theorem i_206_6 : aIns 206 6 = some (.istore_n 3, 1, 0, 0, .null) := by decide +kernel
theorem i_206_7 : aIns 206 7 = some (.iload_n 3, 1, 0, 0, .null) := by decide +kernel
theorem i_206_8 : aIns 206 8 = some (.iload_n 2, 1, 0, 0, .null) := by decide +kernel
theorem i_206_9 : aIns 206 9 = some (.if_icmp .ge 23, 3, 0, 0, .null) := by decide +kernel
theorem i_206_12 : aIns 206 12 = some (.aload_n 0, 1, 0, 0, .null) := by decide +kernel
theorem i_206_13 : aIns 206 13 = some (.getfield 46, 3, 12, 23, .null) := by decide +kernel
theorem i_206_16 : aIns 206 16 = some (.iload_n 3, 1, 0, 0, .null) := by decide +kernel
theorem i_206_17 : aIns 206 17 = some (.aload_n 0, 1, 0, 0, .null) := by decide +kernel
theorem i_206_18 : aIns 206 18 = some (.getfield 39, 3, 12, 20, .null) := by decide +kernel
theorem i_206_21 : aIns 206 21 = some (.iload_n 1, 1, 0, 0, .null) := by decide +kernel
theorem i_206_22 : aIns 206 22 = some (.iload_n 3, 1, 0, 0, .null) := by decide +kernel
theorem i_206_23 : aIns 206 23 = some (.iadd, 1, 0, 0, .null) := by decide +kernel
theorem i_206_24 : aIns 206 24 = some (.iaload, 1, 0, 0, .null) := by decide +kernel
theorem i_206_25 : aIns 206 25 = some (.iastore, 1, 0, 0, .null) := by decide +kernel
theorem i_206_26 : aIns 206 26 = some (.iinc 3 1, 3, 0, 0, .null) := by decide +kernel
theorem i_206_29 : aIns 206 29 = some (.goto (-22), 3, 0, 0, .null) := by decide +kernel
theorem i_206_32 : aIns 206 32 = some (.return_, 1, 0, 0, .null) := by decide +kernel
theorem i_207_0 : aIns 207 0 = some (.iload_n 1, 1, 0, 0, .null) := by decide +kernel
theorem i_207_1 : aIns 207 1 = some (.istore_n 3, 1, 0, 0, .null) := by decide +kernel
theorem i_207_2 : aIns 207 2 = some (.iconst 0, 1, 0, 0, .int (0)) := by decide +kernel
theorem i_207_3 : aIns 207 3 = some (.istore 4, 2, 0, 0, .null) := by decide +kernel
theorem i_207_5 : aIns 207 5 = some (.iconst 0, 1, 0, 0, .int (0)) := by decide +kernel
theorem i_207_6 : aIns 207 6 = some (.istore 5, 2, 0, 0, .null) := by decide +kernel
theorem i_207_8 : aIns 207 8 = some (.iload 5, 2, 0, 0, .null) := by decide +kernel
theorem i_207_10 : aIns 207 10 = some (.aload_n 0, 1, 0, 0, .null) := by decide +kernel
theorem i_207_11 : aIns 207 11 = some (.getfield 353, 3, 12, 24, .null) := by decide +kernel
theorem i_207_14 : aIns 207 14 = some (.if_icmp .ge 96, 3, 0, 0, .null) := by decide +kernel
theorem i_207_17 : aIns 207 17 = some (.aload_n 0, 1, 0, 0, .null) := by decide +kernel
theorem i_207_18 : aIns 207 18 = some (.getfield 46, 3, 12, 23, .null) := by decide +kernel
theorem i_207_21 : aIns 207 21 = some (.iload 5, 2, 0, 0, .null) := by decide +kernel
theorem i_207_23 : aIns 207 23 = some (.iaload, 1, 0, 0, .null) := by decide +kernel
theorem i_207_24 : aIns 207 24 = some (.istore 6, 2, 0, 0, .null) := by decide +kernel
theorem i_207_26 : aIns 207 26 = some (.iload_n 3, 1, 0, 0, .null) := by decide +kernel
theorem i_207_27 : aIns 207 27 = some (.aload_n 0, 1, 0, 0, .null) := by decide +kernel
theorem i_207_28 : aIns 207 28 = some (.iload 6, 2, 0, 0, .null) := by decide +kernel
theorem i_207_30 : aIns 207 30 = some (.iconst 2, 1, 0, 0, .int (2)) := by decide +kernel
theorem i_207_31 : aIns 207 31 = some (.invokevirtual 340, 3, 194, 2, .int 12) := by decide +kernel
theorem i_207_34 : aIns 207 34 = some (.if_icmp .ge 6, 3, 0, 0, .null) := by decide +kernel
theorem i_207_37 : aIns 207 37 = some (.goto 67, 3, 0, 0, .null) := by decide +kernel
theorem i_207_40 : aIns 207 40 = some (.aload_n 0, 1, 0, 0, .null) := by decide +kernel
theorem i_207_41 : aIns 207 41 = some (.iload 6, 2, 0, 0, .null) := by decide +kernel
theorem i_207_43 : aIns 207 43 = some (.iconst 1, 1, 0, 0, .int (1)) := by decide +kernel
theorem i_207_44 : aIns 207 44 = some (.invokevirtual 340, 3, 194, 2, .int 12) := by decide +kernel
theorem i_207_47 : aIns 207 47 = some (.istore 7, 2, 0, 0, .null) := by decide +kernel
theorem i_207_49 : aIns 207 49 = some (.aload_n 0, 1, 0, 0, .null) := by decide +kernel
theorem i_207_50 : aIns 207 50 = some (.iload 6, 2, 0, 0, .null) := by decide +kernel
theorem i_207_52 : aIns 207 52 = some (.iconst 0, 1, 0, 0, .int (0)) := by decide +kernel
theorem i_207_53 : aIns 207 53 = some (.invokevirtual 340, 3, 194, 2, .int 12) := by decide +kernel
theorem i_207_56 : aIns 207 56 = some (.ifCond .ne 16, 3, 0, 0, .null) := by decide +kernel
theorem i_207_59 : aIns 207 59 = some (.iload_n 3, 1, 0, 0, .null) := by decide +kernel
theorem i_207_60 : aIns 207 60 = some (.iload_n 3, 1, 0, 0, .null) := by decide +kernel
theorem i_207_61 : aIns 207 61 = some (.iload 7, 2, 0, 0, .null) := by decide +kernel
theorem i_207_63 : aIns 207 63 = some (.imul, 1, 0, 0, .null) := by decide +kernel
theorem i_207_64 : aIns 207 64 = some (.bipush 100, 2, 0, 0, .int (100)) := by decide +kernel
theorem i_207_66 : aIns 207 66 = some (.idiv, 1, 0, 0, .null) := by decide +kernel
theorem i_207_67 : aIns 207 67 = some (.isub, 1, 0, 0, .null) := by decide +kernel
theorem i_207_68 : aIns 207 68 = some (.istore_n 3, 1, 0, 0, .null) := by decide +kernel
theorem i_207_69 : aIns 207 69 = some (.goto 35, 3, 0, 0, .null) := by decide +kernel
theorem i_207_72 : aIns 207 72 = some (.aload_n 0, 1, 0, 0, .null) := by decide +kernel
theorem i_207_73 : aIns 207 73 = some (.iload 6, 2, 0, 0, .null) := by decide +kernel
theorem i_207_75 : aIns 207 75 = some (.iconst 0, 1, 0, 0, .int (0)) := by decide +kernel
theorem i_207_76 : aIns 207 76 = some (.invokevirtual 340, 3, 194, 2, .int 12) := by decide +kernel
theorem i_207_79 : aIns 207 79 = some (.iconst 1, 1, 0, 0, .int (1)) := by decide +kernel
theorem i_207_80 : aIns 207 80 = some (.if_icmp .ne 21, 3, 0, 0, .null) := by decide +kernel
theorem i_207_83 : aIns 207 83 = some (.iload_n 3, 1, 0, 0, .null) := by decide +kernel
theorem i_207_84 : aIns 207 84 = some (.iload 7, 2, 0, 0, .null) := by decide +kernel
theorem i_207_86 : aIns 207 86 = some (.if_icmp .ge 7, 3, 0, 0, .null) := by decide +kernel
theorem i_207_89 : aIns 207 89 = some (.iconst 0, 1, 0, 0, .int (0)) := by decide +kernel
theorem i_207_90 : aIns 207 90 = some (.goto 7, 3, 0, 0, .null) := by decide +kernel
theorem i_207_93 : aIns 207 93 = some (.iload_n 3, 1, 0, 0, .null) := by decide +kernel
theorem i_207_94 : aIns 207 94 = some (.iload 7, 2, 0, 0, .null) := by decide +kernel
theorem i_207_96 : aIns 207 96 = some (.isub, 1, 0, 0, .null) := by decide +kernel
theorem i_207_97 : aIns 207 97 = some (.istore_n 3, 1, 0, 0, .null) := by decide +kernel
theorem i_207_98 : aIns 207 98 = some (.goto 6, 3, 0, 0, .null) := by decide +kernel
theorem i_207_101 : aIns 207 101 = some (.iconst 1, 1, 0, 0, .int (1)) := by decide +kernel
theorem i_207_102 : aIns 207 102 = some (.istore 4, 2, 0, 0, .null) := by decide +kernel
theorem i_207_104 : aIns 207 104 = some (.iinc 5 1, 3, 0, 0, .null) := by decide +kernel
theorem i_207_107 : aIns 207 107 = some (.goto (-99), 3, 0, 0, .null) := by decide +kernel
theorem i_207_110 : aIns 207 110 = some (.aload_n 0, 1, 0, 0, .null) := by decide +kernel
theorem i_207_111 : aIns 207 111 = some (.iload_n 3, 1, 0, 0, .null) := by decide +kernel
theorem i_207_112 : aIns 207 112 = some (.iload_n 2, 1, 0, 0, .null) := by decide +kernel
theorem i_207_113 : aIns 207 113 = some (.if_icmp .ge 17, 3, 0, 0, .null) := by decide +kernel
theorem i_207_116 : aIns 207 116 = some (.iload 4, 2, 0, 0, .null) := by decide +kernel
theorem i_207_118 : aIns 207 118 = some (.ifCond .ne 12, 3, 0, 0, .null) := by decide +kernel
theorem i_207_121 : aIns 207 121 = some (.aload_n 0, 1, 0, 0, .null) := by decide +kernel
theorem i_207_122 : aIns 207 122 = some (.getfield 39, 3, 12, 20, .null) := by decide +kernel
theorem i_207_125 : aIns 207 125 = some (.iconst 4, 1, 0, 0, .int (4)) := by decide +kernel
theorem i_207_126 : aIns 207 126 = some (.iaload, 1, 0, 0, .null) := by decide +kernel
theorem i_207_127 : aIns 207 127 = some (.goto 4, 3, 0, 0, .null) := by decide +kernel
theorem i_207_130 : aIns 207 130 = some (.iconst 0, 1, 0, 0, .int (0)) := by decide +kernel
theorem i_207_131 : aIns 207 131 = some (.putfield 356, 3, 12, 25, .null) := by decide +kernel
theorem i_207_134 : aIns 207 134 = some (.iload_n 3, 1, 0, 0, .null) := by decide +kernel
theorem i_207_135 : aIns 207 135 = some (.aload_n 0, 1, 0, 0, .null) := by decide +kernel
theorem i_207_136 : aIns 207 136 = some (.getfield 356, 3, 12, 25, .null) := by decide +kernel
theorem i_207_139 : aIns 207 139 = some (.iadd, 1, 0, 0, .null) := by decide +kernel
theorem i_207_140 : aIns 207 140 = some (.ireturn, 1, 0, 0, .null) := by decide +kernel
theorem i_208_0 : aIns 208 0 = some (.aload_n 0, 1, 0, 0, .null) := by decide +kernel
theorem i_208_1 : aIns 208 1 = some (.iconst 0, 1, 0, 0, .int (0)) := by decide +kernel
theorem i_208_2 : aIns 208 2 = some (.putfield 353, 3, 12, 24, .null) := by decide +kernel
theorem i_208_5 : aIns 208 5 = some (.aload_n 0, 1, 0, 0, .null) := by decide +kernel
theorem i_208_6 : aIns 208 6 = some (.iload_n 1, 1, 0, 0, .null) := by decide +kernel
theorem i_208_7 : aIns 208 7 = some (.aload_n 0, 1, 0, 0, .null) := by decide +kernel
theorem i_208_8 : aIns 208 8 = some (.getfield 39, 3, 12, 20, .null) := by decide +kernel
theorem i_208_11 : aIns 208 11 = some (.iconst 5, 1, 0, 0, .int (5)) := by decide +kernel
theorem i_208_12 : aIns 208 12 = some (.iaload, 1, 0, 0, .null) := by decide +kernel
theorem i_208_13 : aIns 208 13 = some (.invokevirtual 359, 3, 207, 2, .int 12) := by decide +kernel
theorem i_208_16 : aIns 208 16 = some (.ireturn, 1, 0, 0, .null) := by decide +kernel
theorem i_209_0 : aIns 209 0 = some (.iconst 0, 1, 0, 0, .int (0)) := by decide +kernel
theorem i_209_1 : aIns 209 1 = some (.istore_n 1, 1, 0, 0, .null) := by decide +kernel
theorem i_209_2 : aIns 209 2 = some (.iconst 0, 1, 0, 0, .int (0)) := by decide +kernel
theorem i_209_3 : aIns 209 3 = some (.istore_n 2, 1, 0, 0, .null) := by decide +kernel
theorem i_209_4 : aIns 209 4 = some (.iload_n 2, 1, 0, 0, .null) := by decide +kernel
theorem i_209_5 : aIns 209 5 = some (.aload_n 0, 1, 0, 0, .null) := by decide +kernel
theorem i_209_6 : aIns 209 6 = some (.getfield 39, 3, 12, 20, .null) := by decide +kernel
theorem i_209_9 : aIns 209 9 = some (.iconst 1, 1, 0, 0, .int (1)) := by decide +kernel
theorem i_209_10 : aIns 209 10 = some (.iaload, 1, 0, 0, .null) := by decide +kernel
theorem i_209_11 : aIns 209 11 = some (.if_icmp .ge 18, 3, 0, 0, .null) := by decide +kernel
theorem i_209_14 : aIns 209 14 = some (.iload_n 1, 1, 0, 0, .null) := by decide +kernel
theorem i_209_15 : aIns 209 15 = some (.aload_n 0, 1, 0, 0, .null) := by decide +kernel
theorem i_209_16 : aIns 209 16 = some (.iload_n 2, 1, 0, 0, .null) := by decide +kernel
theorem i_209_17 : aIns 209 17 = some (.iconst 1, 1, 0, 0, .int (1)) := by decide +kernel
theorem i_209_18 : aIns 209 18 = some (.invokevirtual 309, 3, 191, 2, .int 12) := by decide +kernel
theorem i_209_21 : aIns 209 21 = some (.iadd, 1, 0, 0, .null) := by decide +kernel
theorem i_209_22 : aIns 209 22 = some (.istore_n 1, 1, 0, 0, .null) := by decide +kernel
theorem i_209_23 : aIns 209 23 = some (.iinc 2 1, 3, 0, 0, .null) := by decide +kernel
theorem i_209_26 : aIns 209 26 = some (.goto (-22), 3, 0, 0, .null) := by decide +kernel
theorem i_209_29 : aIns 209 29 = some (.iload_n 1, 1, 0, 0, .null) := by decide +kernel
theorem i_209_30 : aIns 209 30 = some (.ireturn, 1, 0, 0, .null) := by decide +kernel
theorem i_210_0 : aIns 210 0 = some (.iconst 0, 1, 0, 0, .int (0)) := by decide +kernel
theorem i_210_1 : aIns 210 1 = some (.istore_n 1, 1, 0, 0, .null) := by decide +kernel
theorem i_210_2 : aIns 210 2 = some (.iconst 0, 1, 0, 0, .int (0)) := by decide +kernel
theorem i_210_3 : aIns 210 3 = some (.istore_n 2, 1, 0, 0, .null) := by decide +kernel
theorem i_210_4 : aIns 210 4 = some (.iload_n 2, 1, 0, 0, .null) := by decide +kernel
theorem i_210_5 : aIns 210 5 = some (.aload_n 0, 1, 0, 0, .null) := by decide +kernel
theorem i_210_6 : aIns 210 6 = some (.getfield 39, 3, 12, 20, .null) := by decide +kernel
theorem i_210_9 : aIns 210 9 = some (.iconst 1, 1, 0, 0, .int (1)) := by decide +kernel
theorem i_210_10 : aIns 210 10 = some (.iaload, 1, 0, 0, .null) := by decide +kernel
theorem i_210_11 : aIns 210 11 = some (.if_icmp .ge 24, 3, 0, 0, .null) := by decide +kernel
theorem i_210_14 : aIns 210 14 = some (.iload_n 1, 1, 0, 0, .null) := by decide +kernel
theorem i_210_15 : aIns 210 15 = some (.aload_n 0, 1, 0, 0, .null) := by decide +kernel
theorem i_210_16 : aIns 210 16 = some (.iload_n 2, 1, 0, 0, .null) := by decide +kernel
theorem i_210_17 : aIns 210 17 = some (.iconst 1, 1, 0, 0, .int (1)) := by decide +kernel
theorem i_210_18 : aIns 210 18 = some (.invokevirtual 309, 3, 191, 2, .int 12) := by decide +kernel
theorem i_210_21 : aIns 210 21 = some (.aload_n 0, 1, 0, 0, .null) := by decide +kernel
theorem i_210_22 : aIns 210 22 = some (.iload_n 2, 1, 0, 0, .null) := by decide +kernel
theorem i_210_23 : aIns 210 23 = some (.invokevirtual 332, 3, 200, 1, .int 12) := by decide +kernel
theorem i_210_26 : aIns 210 26 = some (.imul, 1, 0, 0, .null) := by decide +kernel
theorem i_210_27 : aIns 210 27 = some (.iadd, 1, 0, 0, .null) := by decide +kernel
theorem i_210_28 : aIns 210 28 = some (.istore_n 1, 1, 0, 0, .null) := by decide +kernel
theorem i_210_29 : aIns 210 29 = some (.iinc 2 1, 3, 0, 0, .null) := by decide +kernel
theorem i_210_32 : aIns 210 32 = some (.goto (-28), 3, 0, 0, .null) := by decide +kernel
theorem i_210_35 : aIns 210 35 = some (.iload_n 1, 1, 0, 0, .null) := by decide +kernel
theorem i_210_36 : aIns 210 36 = some (.ireturn, 1, 0, 0, .null) := by decide +kernel
theorem i_211_0 : aIns 211 0 = some (.aload_n 0, 1, 0, 0, .null) := by decide +kernel
theorem i_211_1 : aIns 211 1 = some (.iconst 0, 1, 0, 0, .int (0)) := by decide +kernel
theorem i_211_2 : aIns 211 2 = some (.putfield 356, 3, 12, 25, .null) := by decide +kernel
theorem i_211_5 : aIns 211 5 = some (.aload_n 0, 1, 0, 0, .null) := by decide +kernel
theorem i_211_6 : aIns 211 6 = some (.invokevirtual 362, 3, 209, 0, .int 12) := by decide +kernel
theorem i_211_9 : aIns 211 9 = some (.ifCond .ne 7, 3, 0, 0, .null) := by decide +kernel
theorem i_211_12 : aIns 211 12 = some (.iconst 0, 1, 0, 0, .int (0)) := by decide +kernel
theorem i_211_13 : aIns 211 13 = some (.goto 12, 3, 0, 0, .null) := by decide +kernel
theorem i_211_16 : aIns 211 16 = some (.aload_n 0, 1, 0, 0, .null) := by decide +kernel
theorem i_211_17 : aIns 211 17 = some (.aload_n 0, 1, 0, 0, .null) := by decide +kernel
theorem i_211_18 : aIns 211 18 = some (.invokevirtual 365, 3, 210, 0, .int 12) := by decide +kernel
theorem i_211_21 : aIns 211 21 = some (.iload_n 1, 1, 0, 0, .null) := by decide +kernel
theorem i_211_22 : aIns 211 22 = some (.invokevirtual 359, 3, 207, 2, .int 12) := by decide +kernel
theorem i_211_25 : aIns 211 25 = some (.ireturn, 1, 0, 0, .null) := by decide +kernel
theorem i_212_0 : aIns 212 0 = some (.aload_n 0, 1, 0, 0, .null) := by decide +kernel
theorem i_212_1 : aIns 212 1 = some (.bipush 64, 2, 0, 0, .int (64)) := by decide +kernel
theorem i_212_3 : aIns 212 3 = some (.aload_n 0, 1, 0, 0, .null) := by decide +kernel
theorem i_212_4 : aIns 212 4 = some (.getfield 39, 3, 12, 20, .null) := by decide +kernel
theorem i_212_7 : aIns 212 7 = some (.bipush 9, 2, 0, 0, .int (9)) := by decide +kernel
theorem i_212_9 : aIns 212 9 = some (.iaload, 1, 0, 0, .null) := by decide +kernel
theorem i_212_10 : aIns 212 10 = some (.invokevirtual 368, 3, 206, 2, .int 12) := by decide +kernel
theorem i_212_13 : aIns 212 13 = some (.aload_n 0, 1, 0, 0, .null) := by decide +kernel
theorem i_212_14 : aIns 212 14 = some (.iload_n 1, 1, 0, 0, .null) := by decide +kernel
theorem i_212_15 : aIns 212 15 = some (.invokevirtual 371, 3, 211, 1, .int 12) := by decide +kernel
theorem i_212_18 : aIns 212 18 = some (.ireturn, 1, 0, 0, .null) := by decide +kernel
theorem i_213_0 : aIns 213 0 = some (.aload_n 0, 1, 0, 0, .null) := by decide +kernel
theorem i_213_1 : aIns 213 1 = some (.invokevirtual 374, 3, 187, 0, .int 12) := by decide +kernel
theorem i_213_4 : aIns 213 4 = some (.ifCond .eq 13, 3, 0, 0, .null) := by decide +kernel
theorem i_213_7 : aIns 213 7 = some (.iload_n 1, 1, 0, 0, .null) := by decide +kernel
theorem i_213_8 : aIns 213 8 = some (.i2l, 1, 0, 0, .null) := by decide +kernel
theorem i_213_9 : aIns 213 9 = some (.lconst 0, 1, 0, 0, .long 0) := by decide +kernel
theorem i_213_10 : aIns 213 10 = some (.lconst 1, 1, 0, 0, .long 1) := by decide +kernel
theorem i_213_11 : aIns 213 11 = some (.invokestatic 124, 3, 140, 3, .null) := by decide +kernel
theorem i_213_14 : aIns 213 14 = some (.ifCond .ne 5, 3, 0, 0, .null) := by decide +kernel
theorem i_213_17 : aIns 213 17 = some (.iconst (-1), 1, 0, 0, .int (-1)) := by decide +kernel
theorem i_213_18 : aIns 213 18 = some (.ireturn, 1, 0, 0, .null) := by decide +kernel
theorem i_213_19 : aIns 213 19 = some (.aload_n 0, 1, 0, 0, .null) := by decide +kernel
theorem i_213_20 : aIns 213 20 = some (.aload_n 0, 1, 0, 0, .null) := by decide +kernel
theorem i_213_21 : aIns 213 21 = some (.getfield 39, 3, 12, 20, .null) := by decide +kernel
theorem i_213_24 : aIns 213 24 = some (.iconst 5, 1, 0, 0, .int (5)) := by decide +kernel
theorem i_213_25 : aIns 213 25 = some (.iaload, 1, 0, 0, .null) := by decide +kernel
theorem i_213_26 : aIns 213 26 = some (.invokevirtual 377, 3, 212, 1, .int 12) := by decide +kernel
theorem i_213_29 : aIns 213 29 = some (.istore_n 2, 1, 0, 0, .null) := by decide +kernel
theorem i_213_30 : aIns 213 30 = some (.iload_n 1, 1, 0, 0, .null) := by decide +kernel
theorem i_213_31 : aIns 213 31 = some (.ifCond .ne 7, 3, 0, 0, .null) := by decide +kernel
theorem i_213_34 : aIns 213 34 = some (.iload_n 2, 1, 0, 0, .null) := by decide +kernel
theorem i_213_35 : aIns 213 35 = some (.goto 7, 3, 0, 0, .null) := by decide +kernel
theorem i_213_38 : aIns 213 38 = some (.aload_n 0, 1, 0, 0, .null) := by decide +kernel
theorem i_213_39 : aIns 213 39 = some (.getfield 356, 3, 12, 25, .null) := by decide +kernel
theorem i_213_42 : aIns 213 42 = some (.ireturn, 1, 0, 0, .null) := by decide +kernel
theorem i_214_0 : aIns 214 0 = some (.aload_n 0, 1, 0, 0, .null) := by decide +kernel
theorem i_214_1 : aIns 214 1 = some (.getfield 278, 3, 12, 27, .null) := by decide +kernel
theorem i_214_4 : aIns 214 4 = some (.bipush 20, 2, 0, 0, .int (20)) := by decide +kernel
theorem i_214_6 : aIns 214 6 = some (.if_icmp .ne 44, 3, 0, 0, .null) := by decide +kernel
theorem i_214_9 : aIns 214 9 = some (.bipush 80, 2, 0, 0, .int (80)) := by decide +kernel
theorem i_214_11 : aIns 214 11 = some (.istore_n 1, 1, 0, 0, .null) := by decide +kernel
theorem i_214_12 : aIns 214 12 = some (.iload_n 1, 1, 0, 0, .null) := by decide +kernel
theorem i_214_13 : aIns 214 13 = some (.sipush 1600, 3, 0, 0, .int (1600)) := by decide +kernel
theorem i_214_16 : aIns 214 16 = some (.if_icmp .ge 24, 3, 0, 0, .null) := by decide +kernel
theorem i_214_19 : aIns 214 19 = some (.aload_n 0, 1, 0, 0, .null) := by decide +kernel
theorem i_214_20 : aIns 214 20 = some (.getfield 49, 3, 12, 26, .null) := by decide +kernel
theorem i_214_23 : aIns 214 23 = some (.iload_n 1, 1, 0, 0, .null) := by decide +kernel
theorem i_214_24 : aIns 214 24 = some (.bipush 80, 2, 0, 0, .int (80)) := by decide +kernel
theorem i_214_26 : aIns 214 26 = some (.isub, 1, 0, 0, .null) := by decide +kernel
theorem i_214_27 : aIns 214 27 = some (.aload_n 0, 1, 0, 0, .null) := by decide +kernel
theorem i_214_28 : aIns 214 28 = some (.getfield 49, 3, 12, 26, .null) := by decide +kernel
theorem i_214_31 : aIns 214 31 = some (.iload_n 1, 1, 0, 0, .null) := by decide +kernel
theorem i_214_32 : aIns 214 32 = some (.iaload, 1, 0, 0, .null) := by decide +kernel
theorem i_214_33 : aIns 214 33 = some (.iastore, 1, 0, 0, .null) := by decide +kernel
theorem i_214_34 : aIns 214 34 = some (.iinc 1 1, 3, 0, 0, .null) := by decide +kernel
theorem i_214_37 : aIns 214 37 = some (.goto (-25), 3, 0, 0, .null) := by decide +kernel
theorem i_214_40 : aIns 214 40 = some (.aload_n 0, 1, 0, 0, .null) := by decide +kernel
theorem i_214_41 : aIns 214 41 = some (.dup, 1, 0, 0, .null) := by decide +kernel
theorem i_214_42 : aIns 214 42 = some (.getfield 278, 3, 12, 27, .null) := by decide +kernel
theorem i_214_45 : aIns 214 45 = some (.iconst 1, 1, 0, 0, .int (1)) := by decide +kernel
theorem i_214_46 : aIns 214 46 = some (.isub, 1, 0, 0, .null) := by decide +kernel
theorem i_214_47 : aIns 214 47 = some (.putfield 278, 3, 12, 27, .null) := by decide +kernel
theorem i_214_50 : aIns 214 50 = some (.iconst 0, 1, 0, 0, .int (0)) := by decide +kernel
theorem i_214_51 : aIns 214 51 = some (.istore_n 1, 1, 0, 0, .null) := by decide +kernel
theorem i_214_52 : aIns 214 52 = some (.iload_n 1, 1, 0, 0, .null) := by decide +kernel
theorem i_214_53 : aIns 214 53 = some (.bipush 80, 2, 0, 0, .int (80)) := by decide +kernel
theorem i_214_55 : aIns 214 55 = some (.if_icmp .ge 29, 3, 0, 0, .null) := by decide +kernel
theorem i_214_58 : aIns 214 58 = some (.aload_n 0, 1, 0, 0, .null) := by decide +kernel
theorem i_214_59 : aIns 214 59 = some (.getfield 49, 3, 12, 26, .null) := by decide +kernel
theorem i_214_62 : aIns 214 62 = some (.bipush 80, 2, 0, 0, .int (80)) := by decide +kernel
theorem i_214_64 : aIns 214 64 = some (.aload_n 0, 1, 0, 0, .null) := by decide +kernel
theorem i_214_65 : aIns 214 65 = some (.getfield 278, 3, 12, 27, .null) := by decide +kernel
theorem i_214_68 : aIns 214 68 = some (.imul, 1, 0, 0, .null) := by decide +kernel
theorem i_214_69 : aIns 214 69 = some (.iload_n 1, 1, 0, 0, .null) := by decide +kernel
theorem i_214_70 : aIns 214 70 = some (.iadd, 1, 0, 0, .null) := by decide +kernel
theorem i_214_71 : aIns 214 71 = some (.aload_n 0, 1, 0, 0, .null) := by decide +kernel
theorem i_214_72 : aIns 214 72 = some (.getfield 39, 3, 12, 20, .null) := by decide +kernel
theorem i_214_75 : aIns 214 75 = some (.iload_n 1, 1, 0, 0, .null) := by decide +kernel
theorem i_214_76 : aIns 214 76 = some (.iaload, 1, 0, 0, .null) := by decide +kernel
theorem i_214_77 : aIns 214 77 = some (.iastore, 1, 0, 0, .null) := by decide +kernel
theorem i_214_78 : aIns 214 78 = some (.iinc 1 1, 3, 0, 0, .null) := by decide +kernel
theorem i_214_81 : aIns 214 81 = some (.goto (-29), 3, 0, 0, .null) := by decide +kernel
theorem i_214_84 : aIns 214 84 = some (.aload_n 0, 1, 0, 0, .null) := by decide +kernel
theorem i_214_85 : aIns 214 85 = some (.dup, 1, 0, 0, .null) := by decide +kernel
theorem i_214_86 : aIns 214 86 = some (.getfield 278, 3, 12, 27, .null) := by decide +kernel
theorem i_214_89 : aIns 214 89 = some (.iconst 1, 1, 0, 0, .int (1)) := by decide +kernel
theorem i_214_90 : aIns 214 90 = some (.iadd, 1, 0, 0, .null) := by decide +kernel
theorem i_214_91 : aIns 214 91 = some (.putfield 278, 3, 12, 27, .null) := by decide +kernel
theorem i_214_94 : aIns 214 94 = some (.return_, 1, 0, 0, .null) := by decide +kernel
theorem i_215_0 : aIns 215 0 = some (.aload_n 0, 1, 0, 0, .null) := by decide +kernel
theorem i_215_1 : aIns 215 1 = some (.getfield 278, 3, 12, 27, .null) := by decide +kernel
theorem i_215_4 : aIns 215 4 = some (.ifCond .ne 5, 3, 0, 0, .null) := by decide +kernel
theorem i_215_7 : aIns 215 7 = some (.iconst (-1), 1, 0, 0, .int (-1)) := by decide +kernel
theorem i_215_8 : aIns 215 8 = some (.ireturn, 1, 0, 0, .null) := by decide +kernel
theorem i_215_9 : aIns 215 9 = some (.aload_n 0, 1, 0, 0, .null) := by decide +kernel
theorem i_215_10 : aIns 215 10 = some (.dup, 1, 0, 0, .null) := by decide +kernel
theorem i_215_11 : aIns 215 11 = some (.getfield 278, 3, 12, 27, .null) := by decide +kernel
theorem i_215_14 : aIns 215 14 = some (.iconst 1, 1, 0, 0, .int (1)) := by decide +kernel
theorem i_215_15 : aIns 215 15 = some (.isub, 1, 0, 0, .null) := by decide +kernel
theorem i_215_16 : aIns 215 16 = some (.putfield 278, 3, 12, 27, .null) := by decide +kernel
theorem i_215_19 : aIns 215 19 = some (.iconst 0, 1, 0, 0, .int (0)) := by decide +kernel
theorem i_215_20 : aIns 215 20 = some (.istore_n 1, 1, 0, 0, .null) := by decide +kernel
theorem i_215_21 : aIns 215 21 = some (.iload_n 1, 1, 0, 0, .null) := by decide +kernel
theorem i_215_22 : aIns 215 22 = some (.bipush 80, 2, 0, 0, .int (80)) := by decide +kernel
theorem i_215_24 : aIns 215 24 = some (.if_icmp .ge 29, 3, 0, 0, .null) := by decide +kernel
theorem i_215_27 : aIns 215 27 = some (.aload_n 0, 1, 0, 0, .null) := by decide +kernel
theorem i_215_28 : aIns 215 28 = some (.getfield 39, 3, 12, 20, .null) := by decide +kernel
theorem i_215_31 : aIns 215 31 = some (.iload_n 1, 1, 0, 0, .null) := by decide +kernel
theorem i_215_32 : aIns 215 32 = some (.aload_n 0, 1, 0, 0, .null) := by decide +kernel
theorem i_215_33 : aIns 215 33 = some (.getfield 49, 3, 12, 26, .null) := by decide +kernel
theorem i_215_36 : aIns 215 36 = some (.bipush 80, 2, 0, 0, .int (80)) := by decide +kernel
theorem i_215_38 : aIns 215 38 = some (.aload_n 0, 1, 0, 0, .null) := by decide +kernel
theorem i_215_39 : aIns 215 39 = some (.getfield 278, 3, 12, 27, .null) := by decide +kernel
theorem i_215_42 : aIns 215 42 = some (.imul, 1, 0, 0, .null) := by decide +kernel
theorem i_215_43 : aIns 215 43 = some (.iload_n 1, 1, 0, 0, .null) := by decide +kernel
theorem i_215_44 : aIns 215 44 = some (.iadd, 1, 0, 0, .null) := by decide +kernel
theorem i_215_45 : aIns 215 45 = some (.iaload, 1, 0, 0, .null) := by decide +kernel
theorem i_215_46 : aIns 215 46 = some (.iastore, 1, 0, 0, .null) := by decide +kernel
theorem i_215_47 : aIns 215 47 = some (.iinc 1 1, 3, 0, 0, .null) := by decide +kernel
theorem i_215_50 : aIns 215 50 = some (.goto (-29), 3, 0, 0, .null) := by decide +kernel
theorem i_215_53 : aIns 215 53 = some (.aload_n 0, 1, 0, 0, .null) := by decide +kernel
theorem i_215_54 : aIns 215 54 = some (.getfield 278, 3, 12, 27, .null) := by decide +kernel
theorem i_215_57 : aIns 215 57 = some (.ireturn, 1, 0, 0, .null) := by decide +kernel
theorem i_216_0 : aIns 216 0 = some (.aload_n 0, 1, 0, 0, .null) := by decide +kernel
theorem i_216_1 : aIns 216 1 = some (.iload_n 1, 1, 0, 0, .null) := by decide +kernel
theorem i_216_2 : aIns 216 2 = some (.iconst 1, 1, 0, 0, .int (1)) := by decide +kernel
theorem i_216_3 : aIns 216 3 = some (.invokevirtual 309, 3, 191, 2, .int 12) := by decide +kernel
theorem i_216_6 : aIns 216 6 = some (.aload_n 0, 1, 0, 0, .null) := by decide +kernel
theorem i_216_7 : aIns 216 7 = some (.iload_n 1, 1, 0, 0, .null) := by decide +kernel
theorem i_216_8 : aIns 216 8 = some (.iconst 0, 1, 0, 0, .int (0)) := by decide +kernel
theorem i_216_9 : aIns 216 9 = some (.invokevirtual 309, 3, 191, 2, .int 12) := by decide +kernel
theorem i_216_12 : aIns 216 12 = some (.if_icmp .ge 16, 3, 0, 0, .null) := by decide +kernel
theorem i_216_15 : aIns 216 15 = some (.aload_n 0, 1, 0, 0, .null) := by decide +kernel
theorem i_216_16 : aIns 216 16 = some (.invokevirtual 362, 3, 209, 0, .int 12) := by decide +kernel
theorem i_216_19 : aIns 216 19 = some (.bipush 12, 2, 0, 0, .int (12)) := by decide +kernel
theorem i_216_21 : aIns 216 21 = some (.if_icmp .ge 7, 3, 0, 0, .null) := by decide +kernel
theorem i_216_24 : aIns 216 24 = some (.iconst 1, 1, 0, 0, .int (1)) := by decide +kernel
theorem i_216_25 : aIns 216 25 = some (.goto 4, 3, 0, 0, .null) := by decide +kernel
theorem i_216_28 : aIns 216 28 = some (.iconst 0, 1, 0, 0, .int (0)) := by decide +kernel
theorem i_216_29 : aIns 216 29 = some (.ireturn, 1, 1, 0, .null) := by decide +kernel
theorem i_217_0 : aIns 217 0 = some (.aload_n 0, 1, 0, 0, .null) := by decide +kernel
theorem i_217_1 : aIns 217 1 = some (.getfield 39, 3, 12, 20, .null) := by decide +kernel
theorem i_217_4 : aIns 217 4 = some (.bipush 16, 2, 0, 0, .int (16)) := by decide +kernel
theorem i_217_6 : aIns 217 6 = some (.iconst 5, 1, 0, 0, .int (5)) := by decide +kernel
theorem i_217_7 : aIns 217 7 = some (.iload_n 1, 1, 0, 0, .null) := by decide +kernel
theorem i_217_8 : aIns 217 8 = some (.imul, 1, 0, 0, .null) := by decide +kernel
theorem i_217_9 : aIns 217 9 = some (.iadd, 1, 0, 0, .null) := by decide +kernel
theorem i_217_10 : aIns 217 10 = some (.iload_n 2, 1, 0, 0, .null) := by decide +kernel
theorem i_217_11 : aIns 217 11 = some (.iadd, 1, 0, 0, .null) := by decide +kernel
theorem i_217_12 : aIns 217 12 = some (.dup2, 1, 0, 0, .null) := by decide +kernel
theorem i_217_13 : aIns 217 13 = some (.iaload, 1, 0, 0, .null) := by decide +kernel
theorem i_217_14 : aIns 217 14 = some (.iload_n 3, 1, 0, 0, .null) := by decide +kernel
theorem i_217_15 : aIns 217 15 = some (.iadd, 1, 0, 0, .null) := by decide +kernel
theorem i_217_16 : aIns 217 16 = some (.iastore, 1, 0, 0, .null) := by decide +kernel
theorem i_217_17 : aIns 217 17 = some (.return_, 1, 0, 0, .null) := by decide +kernel
theorem i_218_0 : aIns 218 0 = some (.aload_n 0, 1, 0, 0, .null) := by decide +kernel
theorem i_218_1 : aIns 218 1 = some (.iload_n 1, 1, 0, 0, .null) := by decide +kernel
theorem i_218_2 : aIns 218 2 = some (.invokevirtual 329, 3, 188, 1, .int 12) := by decide +kernel
theorem i_218_5 : aIns 218 5 = some (.ifCond .eq 11, 3, 0, 0, .null) := by decide +kernel
theorem i_218_8 : aIns 218 8 = some (.aload_n 0, 1, 0, 0, .null) := by decide +kernel
theorem i_218_9 : aIns 218 9 = some (.iload_n 1, 1, 0, 0, .null) := by decide +kernel
theorem i_218_10 : aIns 218 10 = some (.invokevirtual 380, 3, 216, 1, .int 12) := by decide +kernel
theorem i_218_13 : aIns 218 13 = some (.ifCond .ne 5, 3, 0, 0, .null) := by decide +kernel
theorem i_218_16 : aIns 218 16 = some (.iconst (-1), 1, 0, 0, .int (-1)) := by decide +kernel
theorem i_218_17 : aIns 218 17 = some (.ireturn, 1, 0, 0, .null) := by decide +kernel
theorem i_218_18 : aIns 218 18 = some (.aload_n 0, 1, 0, 0, .null) := by decide +kernel
theorem i_218_19 : aIns 218 19 = some (.invokevirtual 383, 3, 214, 0, .int 12) := by decide +kernel
theorem i_218_22 : aIns 218 22 = some (.aload_n 0, 1, 0, 0, .null) := by decide +kernel
theorem i_218_23 : aIns 218 23 = some (.iload_n 1, 1, 0, 0, .null) := by decide +kernel
theorem i_218_24 : aIns 218 24 = some (.iconst 1, 1, 0, 0, .int (1)) := by decide +kernel
theorem i_218_25 : aIns 218 25 = some (.iconst 1, 1, 0, 0, .int (1)) := by decide +kernel
theorem i_218_26 : aIns 218 26 = some (.invokevirtual 386, 3, 217, 3, .int 12) := by decide +kernel
theorem i_218_29 : aIns 218 29 = some (.aload_n 0, 1, 0, 0, .null) := by decide +kernel
theorem i_218_30 : aIns 218 30 = some (.iload_n 1, 1, 0, 0, .null) := by decide +kernel
theorem i_218_31 : aIns 218 31 = some (.iconst 1, 1, 0, 0, .int (1)) := by decide +kernel
theorem i_218_32 : aIns 218 32 = some (.invokevirtual 309, 3, 191, 2, .int 12) := by decide +kernel
theorem i_218_35 : aIns 218 35 = some (.ireturn, 1, 0, 0, .null) := by decide +kernel
theorem i_219_0 : aIns 219 0 = some (.aload_n 0, 1, 0, 0, .null) := by decide +kernel
theorem i_219_1 : aIns 219 1 = some (.iload_n 1, 1, 0, 0, .null) := by decide +kernel
theorem i_219_2 : aIns 219 2 = some (.invokevirtual 329, 3, 188, 1, .int 12) := by decide +kernel
theorem i_219_5 : aIns 219 5 = some (.ifCond .eq 12, 3, 0, 0, .null) := by decide +kernel
theorem i_219_8 : aIns 219 8 = some (.aload_n 0, 1, 0, 0, .null) := by decide +kernel
theorem i_219_9 : aIns 219 9 = some (.iload_n 1, 1, 0, 0, .null) := by decide +kernel
theorem i_219_10 : aIns 219 10 = some (.iconst 1, 1, 0, 0, .int (1)) := by decide +kernel
theorem i_219_11 : aIns 219 11 = some (.invokevirtual 309, 3, 191, 2, .int 12) := by decide +kernel
theorem i_219_14 : aIns 219 14 = some (.ifCond .ne 5, 3, 0, 0, .null) := by decide +kernel
theorem i_219_17 : aIns 219 17 = some (.iconst (-1), 1, 0, 0, .int (-1)) := by decide +kernel
theorem i_219_18 : aIns 219 18 = some (.ireturn, 1, 0, 0, .null) := by decide +kernel
theorem i_219_19 : aIns 219 19 = some (.aload_n 0, 1, 0, 0, .null) := by decide +kernel
theorem i_219_20 : aIns 219 20 = some (.invokevirtual 383, 3, 214, 0, .int 12) := by decide +kernel
theorem i_219_23 : aIns 219 23 = some (.aload_n 0, 1, 0, 0, .null) := by decide +kernel
theorem i_219_24 : aIns 219 24 = some (.iload_n 1, 1, 0, 0, .null) := by decide +kernel
theorem i_219_25 : aIns 219 25 = some (.iconst 1, 1, 0, 0, .int (1)) := by decide +kernel
theorem i_219_26 : aIns 219 26 = some (.iconst (-1), 1, 0, 0, .int (-1)) := by decide +kernel
theorem i_219_27 : aIns 219 27 = some (.invokevirtual 386, 3, 217, 3, .int 12) := by decide +kernel
theorem i_219_30 : aIns 219 30 = some (.aload_n 0, 1, 0, 0, .null) := by decide +kernel
theorem i_219_31 : aIns 219 31 = some (.iload_n 1, 1, 0, 0, .null) := by decide +kernel
theorem i_219_32 : aIns 219 32 = some (.iconst 1, 1, 0, 0, .int (1)) := by decide +kernel
theorem i_219_33 : aIns 219 33 = some (.invokevirtual 309, 3, 191, 2, .int 12) := by decide +kernel
theorem i_219_36 : aIns 219 36 = some (.ireturn, 1, 0, 0, .null) := by decide +kernel
theorem i_220_0 : aIns 220 0 = some (.iconst 0, 1, 0, 0, .int (0)) := by decide +kernel
theorem i_220_1 : aIns 220 1 = some (.istore_n 1, 1, 0, 0, .null) := by decide +kernel
theorem i_220_2 : aIns 220 2 = some (.iconst 0, 1, 0, 0, .int (0)) := by decide +kernel
theorem i_220_3 : aIns 220 3 = some (.istore_n 2, 1, 0, 0, .null) := by decide +kernel
theorem i_220_4 : aIns 220 4 = some (.iload_n 2, 1, 0, 0, .null) := by decide +kernel
theorem i_220_5 : aIns 220 5 = some (.aload_n 0, 1, 0, 0, .null) := by decide +kernel
theorem i_220_6 : aIns 220 6 = some (.getfield 39, 3, 12, 20, .null) := by decide +kernel
theorem i_220_9 : aIns 220 9 = some (.bipush 9, 2, 0, 0, .int (9)) := by decide +kernel
theorem i_220_11 : aIns 220 11 = some (.iaload, 1, 0, 0, .null) := by decide +kernel
theorem i_220_12 : aIns 220 12 = some (.if_icmp .ge 23, 3, 0, 0, .null) := by decide +kernel
theorem i_220_15 : aIns 220 15 = some (.iload_n 1, 1, 0, 0, .null) := by decide +kernel
theorem i_220_16 : aIns 220 16 = some (.iconst 1, 1, 0, 0, .int (1)) := by decide +kernel
theorem i_220_17 : aIns 220 17 = some (.aload_n 0, 1, 0, 0, .null) := by decide +kernel
theorem i_220_18 : aIns 220 18 = some (.getfield 39, 3, 12, 20, .null) := by decide +kernel
theorem i_220_21 : aIns 220 21 = some (.bipush 64, 2, 0, 0, .int (64)) := by decide +kernel
theorem i_220_23 : aIns 220 23 = some (.iload_n 2, 1, 0, 0, .null) := by decide +kernel
theorem i_220_24 : aIns 220 24 = some (.iadd, 1, 0, 0, .null) := by decide +kernel
theorem i_220_25 : aIns 220 25 = some (.iaload, 1, 0, 0, .null) := by decide +kernel
theorem i_220_26 : aIns 220 26 = some (.ishl, 1, 0, 0, .null) := by decide +kernel
theorem i_220_27 : aIns 220 27 = some (.ior, 1, 0, 0, .null) := by decide +kernel
theorem i_220_28 : aIns 220 28 = some (.istore_n 1, 1, 0, 0, .null) := by decide +kernel
theorem i_220_29 : aIns 220 29 = some (.iinc 2 1, 3, 0, 0, .null) := by decide +kernel
theorem i_220_32 : aIns 220 32 = some (.goto (-28), 3, 0, 0, .null) := by decide +kernel
theorem i_220_35 : aIns 220 35 = some (.iload_n 1, 1, 0, 0, .null) := by decide +kernel
theorem i_220_36 : aIns 220 36 = some (.ireturn, 1, 0, 0, .null) := by decide +kernel
theorem i_221_0 : aIns 221 0 = some (.aload_n 0, 1, 0, 0, .null) := by decide +kernel
theorem i_221_1 : aIns 221 1 = some (.iload_n 1, 1, 0, 0, .null) := by decide +kernel
theorem i_221_2 : aIns 221 2 = some (.invokevirtual 335, 3, 190, 1, .int 12) := by decide +kernel
theorem i_221_5 : aIns 221 5 = some (.ifCond .eq 38, 3, 0, 0, .null) := by decide +kernel
theorem i_221_8 : aIns 221 8 = some (.aload_n 0, 1, 0, 0, .null) := by decide +kernel
theorem i_221_9 : aIns 221 9 = some (.getfield 39, 3, 12, 20, .null) := by decide +kernel
theorem i_221_12 : aIns 221 12 = some (.bipush 69, 2, 0, 0, .int (69)) := by decide +kernel
theorem i_221_14 : aIns 221 14 = some (.iload_n 1, 1, 0, 0, .null) := by decide +kernel
theorem i_221_15 : aIns 221 15 = some (.iadd, 1, 0, 0, .null) := by decide +kernel
theorem i_221_16 : aIns 221 16 = some (.iaload, 1, 0, 0, .null) := by decide +kernel
theorem i_221_17 : aIns 221 17 = some (.iconst 1, 1, 0, 0, .int (1)) := by decide +kernel
theorem i_221_18 : aIns 221 18 = some (.if_icmp .eq 25, 3, 0, 0, .null) := by decide +kernel
theorem i_221_21 : aIns 221 21 = some (.aload_n 0, 1, 0, 0, .null) := by decide +kernel
theorem i_221_22 : aIns 221 22 = some (.iload_n 1, 1, 0, 0, .null) := by decide +kernel
theorem i_221_23 : aIns 221 23 = some (.invokevirtual 343, 3, 202, 1, .int 12) := by decide +kernel
theorem i_221_26 : aIns 221 26 = some (.ifCond .ge 17, 3, 0, 0, .null) := by decide +kernel
theorem i_221_29 : aIns 221 29 = some (.aload_n 0, 1, 0, 0, .null) := by decide +kernel
theorem i_221_30 : aIns 221 30 = some (.iload_n 1, 1, 0, 0, .null) := by decide +kernel
theorem i_221_31 : aIns 221 31 = some (.iconst 3, 1, 0, 0, .int (3)) := by decide +kernel
theorem i_221_32 : aIns 221 32 = some (.invokevirtual 340, 3, 194, 2, .int 12) := by decide +kernel
theorem i_221_35 : aIns 221 35 = some (.aload_n 0, 1, 0, 0, .null) := by decide +kernel
theorem i_221_36 : aIns 221 36 = some (.invokevirtual 390, 3, 220, 0, .int 12) := by decide +kernel
theorem i_221_39 : aIns 221 39 = some (.iand, 1, 0, 0, .null) := by decide +kernel
theorem i_221_40 : aIns 221 40 = some (.ifCond .eq 5, 3, 0, 0, .null) := by decide +kernel
theorem i_221_43 : aIns 221 43 = some (.iconst (-1), 1, 0, 0, .int (-1)) := by decide +kernel
theorem i_221_44 : aIns 221 44 = some (.ireturn, 1, 0, 0, .null) := by decide +kernel
theorem i_221_45 : aIns 221 45 = some (.aload_n 0, 1, 0, 0, .null) := by decide +kernel
theorem i_221_46 : aIns 221 46 = some (.invokevirtual 383, 3, 214, 0, .int 12) := by decide +kernel
theorem i_221_49 : aIns 221 49 = some (.aload_n 0, 1, 0, 0, .null) := by decide +kernel
theorem i_221_50 : aIns 221 50 = some (.getfield 39, 3, 12, 20, .null) := by decide +kernel
theorem i_221_53 : aIns 221 53 = some (.bipush 64, 2, 0, 0, .int (64)) := by decide +kernel
theorem i_221_55 : aIns 221 55 = some (.aload_n 0, 1, 0, 0, .null) := by decide +kernel
theorem i_221_56 : aIns 221 56 = some (.getfield 39, 3, 12, 20, .null) := by decide +kernel
theorem i_221_59 : aIns 221 59 = some (.bipush 9, 2, 0, 0, .int (9)) := by decide +kernel
theorem i_221_61 : aIns 221 61 = some (.iaload, 1, 0, 0, .null) := by decide +kernel
theorem i_221_62 : aIns 221 62 = some (.iadd, 1, 0, 0, .null) := by decide +kernel
theorem i_221_63 : aIns 221 63 = some (.iload_n 1, 1, 0, 0, .null) := by decide +kernel
theorem i_221_64 : aIns 221 64 = some (.iastore, 1, 0, 0, .null) := by decide +kernel
theorem i_221_65 : aIns 221 65 = some (.aload_n 0, 1, 0, 0, .null) := by decide +kernel
theorem i_221_66 : aIns 221 66 = some (.getfield 39, 3, 12, 20, .null) := by decide +kernel
theorem i_221_69 : aIns 221 69 = some (.bipush 9, 2, 0, 0, .int (9)) := by decide +kernel
theorem i_221_71 : aIns 221 71 = some (.dup2, 1, 0, 0, .null) := by decide +kernel
theorem i_221_72 : aIns 221 72 = some (.iaload, 1, 0, 0, .null) := by decide +kernel
theorem i_221_73 : aIns 221 73 = some (.iconst 1, 1, 0, 0, .int (1)) := by decide +kernel
theorem i_221_74 : aIns 221 74 = some (.iadd, 1, 0, 0, .null) := by decide +kernel
theorem i_221_75 : aIns 221 75 = some (.iastore, 1, 0, 0, .null) := by decide +kernel
theorem i_221_76 : aIns 221 76 = some (.aload_n 0, 1, 0, 0, .null) := by decide +kernel
theorem i_221_77 : aIns 221 77 = some (.getfield 39, 3, 12, 20, .null) := by decide +kernel
theorem i_221_80 : aIns 221 80 = some (.bipush 9, 2, 0, 0, .int (9)) := by decide +kernel
theorem i_221_82 : aIns 221 82 = some (.iaload, 1, 0, 0, .null) := by decide +kernel
theorem i_221_83 : aIns 221 83 = some (.ireturn, 1, 0, 0, .null) := by decide +kernel
theorem i_222_0 : aIns 222 0 = some (.aload_n 0, 1, 0, 0, .null) := by decide +kernel
theorem i_222_1 : aIns 222 1 = some (.iload_n 1, 1, 0, 0, .null) := by decide +kernel
theorem i_222_2 : aIns 222 2 = some (.invokevirtual 335, 3, 190, 1, .int 12) := by decide +kernel
theorem i_222_5 : aIns 222 5 = some (.ifCond .eq 11, 3, 0, 0, .null) := by decide +kernel
theorem i_222_8 : aIns 222 8 = some (.aload_n 0, 1, 0, 0, .null) := by decide +kernel
theorem i_222_9 : aIns 222 9 = some (.iload_n 1, 1, 0, 0, .null) := by decide +kernel
theorem i_222_10 : aIns 222 10 = some (.invokevirtual 343, 3, 202, 1, .int 12) := by decide +kernel
theorem i_222_13 : aIns 222 13 = some (.ifCond .ge 5, 3, 0, 0, .null) := by decide +kernel
theorem i_222_16 : aIns 222 16 = some (.iconst (-1), 1, 0, 0, .int (-1)) := by decide +kernel
theorem i_222_17 : aIns 222 17 = some (.ireturn, 1, 0, 0, .null) := by decide +kernel
theorem i_222_18 : aIns 222 18 = some (.aload_n 0, 1, 0, 0, .null) := by decide +kernel
theorem i_222_19 : aIns 222 19 = some (.invokevirtual 383, 3, 214, 0, .int 12) := by decide +kernel
theorem i_222_22 : aIns 222 22 = some (.aload_n 0, 1, 0, 0, .null) := by decide +kernel
theorem i_222_23 : aIns 222 23 = some (.iload_n 1, 1, 0, 0, .null) := by decide +kernel
theorem i_222_24 : aIns 222 24 = some (.invokevirtual 343, 3, 202, 1, .int 12) := by decide +kernel
theorem i_222_27 : aIns 222 27 = some (.iconst 1, 1, 0, 0, .int (1)) := by decide +kernel
theorem i_222_28 : aIns 222 28 = some (.iadd, 1, 0, 0, .null) := by decide +kernel
theorem i_222_29 : aIns 222 29 = some (.istore_n 2, 1, 0, 0, .null) := by decide +kernel
theorem i_222_30 : aIns 222 30 = some (.iload_n 2, 1, 0, 0, .null) := by decide +kernel
theorem i_222_31 : aIns 222 31 = some (.aload_n 0, 1, 0, 0, .null) := by decide +kernel
theorem i_222_32 : aIns 222 32 = some (.getfield 39, 3, 12, 20, .null) := by decide +kernel
theorem i_222_35 : aIns 222 35 = some (.bipush 9, 2, 0, 0, .int (9)) := by decide +kernel
theorem i_222_37 : aIns 222 37 = some (.iaload, 1, 0, 0, .null) := by decide +kernel
theorem i_222_38 : aIns 222 38 = some (.if_icmp .ge 29, 3, 0, 0, .null) := by decide +kernel
theorem i_222_41 : aIns 222 41 = some (.aload_n 0, 1, 0, 0, .null) := by decide +kernel
theorem i_222_42 : aIns 222 42 = some (.getfield 39, 3, 12, 20, .null) := by decide +kernel
theorem i_222_45 : aIns 222 45 = some (.bipush 64, 2, 0, 0, .int (64)) := by decide +kernel
theorem i_222_47 : aIns 222 47 = some (.iload_n 2, 1, 0, 0, .null) := by decide +kernel
theorem i_222_48 : aIns 222 48 = some (.iadd, 1, 0, 0, .null) := by decide +kernel
theorem i_222_49 : aIns 222 49 = some (.iconst 1, 1, 0, 0, .int (1)) := by decide +kernel
theorem i_222_50 : aIns 222 50 = some (.isub, 1, 0, 0, .null) := by decide +kernel
theorem i_222_51 : aIns 222 51 = some (.aload_n 0, 1, 0, 0, .null) := by decide +kernel
theorem i_222_52 : aIns 222 52 = some (.getfield 39, 3, 12, 20, .null) := by decide +kernel
theorem i_222_55 : aIns 222 55 = some (.bipush 64, 2, 0, 0, .int (64)) := by decide +kernel
theorem i_222_57 : aIns 222 57 = some (.iload_n 2, 1, 0, 0, .null) := by decide +kernel
theorem i_222_58 : aIns 222 58 = some (.iadd, 1, 0, 0, .null) := by decide +kernel
theorem i_222_59 : aIns 222 59 = some (.iaload, 1, 0, 0, .null) := by decide +kernel
theorem i_222_60 : aIns 222 60 = some (.iastore, 1, 0, 0, .null) := by decide +kernel
theorem i_222_61 : aIns 222 61 = some (.iinc 2 1, 3, 0, 0, .null) := by decide +kernel
theorem i_222_64 : aIns 222 64 = some (.goto (-34), 3, 0, 0, .null) := by decide +kernel
theorem i_222_67 : aIns 222 67 = some (.aload_n 0, 1, 0, 0, .null) := by decide +kernel
theorem i_222_68 : aIns 222 68 = some (.getfield 39, 3, 12, 20, .null) := by decide +kernel
theorem i_222_71 : aIns 222 71 = some (.bipush 9, 2, 0, 0, .int (9)) := by decide +kernel
theorem i_222_73 : aIns 222 73 = some (.dup2, 1, 0, 0, .null) := by decide +kernel
theorem i_222_74 : aIns 222 74 = some (.iaload, 1, 0, 0, .null) := by decide +kernel
theorem i_222_75 : aIns 222 75 = some (.iconst 1, 1, 0, 0, .int (1)) := by decide +kernel
theorem i_222_76 : aIns 222 76 = some (.isub, 1, 0, 0, .null) := by decide +kernel
theorem i_222_77 : aIns 222 77 = some (.iastore, 1, 0, 0, .null) := by decide +kernel
theorem i_222_78 : aIns 222 78 = some (.aload_n 0, 1, 0, 0, .null) := by decide +kernel
theorem i_222_79 : aIns 222 79 = some (.getfield 39, 3, 12, 20, .null) := by decide +kernel
theorem i_222_82 : aIns 222 82 = some (.bipush 9, 2, 0, 0, .int (9)) := by decide +kernel
theorem i_222_84 : aIns 222 84 = some (.iaload, 1, 0, 0, .null) := by decide +kernel
theorem i_222_85 : aIns 222 85 = some (.ireturn, 1, 0, 0, .null) := by decide +kernel
theorem i_223_0 : aIns 223 0 = some (.aload_n 0, 1, 0, 0, .null) := by decide +kernel
theorem i_223_1 : aIns 223 1 = some (.iload_n 1, 1, 0, 0, .null) := by decide +kernel
theorem i_223_2 : aIns 223 2 = some (.iconst 3, 1, 0, 0, .int (3)) := by decide +kernel
theorem i_223_3 : aIns 223 3 = some (.invokevirtual 309, 3, 191, 2, .int 12) := by decide +kernel
theorem i_223_6 : aIns 223 6 = some (.bipush 99, 2, 0, 0, .int (99)) := by decide +kernel
theorem i_223_8 : aIns 223 8 = some (.if_icmp .ge 10, 3, 0, 0, .null) := by decide +kernel
theorem i_223_11 : aIns 223 11 = some (.aload_n 0, 1, 0, 0, .null) := by decide +kernel
theorem i_223_12 : aIns 223 12 = some (.iload_n 1, 1, 0, 0, .null) := by decide +kernel
theorem i_223_13 : aIns 223 13 = some (.iconst 3, 1, 0, 0, .int (3)) := by decide +kernel
theorem i_223_14 : aIns 223 14 = some (.iconst 1, 1, 0, 0, .int (1)) := by decide +kernel
theorem i_223_15 : aIns 223 15 = some (.invokevirtual 386, 3, 217, 3, .int 12) := by decide +kernel
theorem i_223_18 : aIns 223 18 = some (.return_, 1, 0, 0, .null) := by decide +kernel
theorem i_224_0 : aIns 224 0 = some (.aload_n 0, 1, 0, 0, .null) := by decide +kernel
theorem i_224_1 : aIns 224 1 = some (.iload_n 1, 1, 0, 0, .null) := by decide +kernel
theorem i_224_2 : aIns 224 2 = some (.invokevirtual 329, 3, 188, 1, .int 12) := by decide +kernel
theorem i_224_5 : aIns 224 5 = some (.ifCond .ne 5, 3, 0, 0, .null) := by decide +kernel
theorem i_224_8 : aIns 224 8 = some (.iconst (-1), 1, 0, 0, .int (-1)) := by decide +kernel
theorem i_224_9 : aIns 224 9 = some (.ireturn, 1, 0, 0, .null) := by decide +kernel
theorem i_224_10 : aIns 224 10 = some (.aload_n 0, 1, 0, 0, .null) := by decide +kernel
theorem i_224_11 : aIns 224 11 = some (.invokevirtual 383, 3, 214, 0, .int 12) := by decide +kernel
theorem i_224_14 : aIns 224 14 = some (.aload_n 0, 1, 0, 0, .null) := by decide +kernel
theorem i_224_15 : aIns 224 15 = some (.iload_n 1, 1, 0, 0, .null) := by decide +kernel
theorem i_224_16 : aIns 224 16 = some (.invokevirtual 393, 3, 223, 1, .int 12) := by decide +kernel
theorem i_224_19 : aIns 224 19 = some (.aload_n 0, 1, 0, 0, .null) := by decide +kernel
theorem i_224_20 : aIns 224 20 = some (.iload_n 1, 1, 0, 0, .null) := by decide +kernel
theorem i_224_21 : aIns 224 21 = some (.invokevirtual 332, 3, 200, 1, .int 12) := by decide +kernel
theorem i_224_24 : aIns 224 24 = some (.ireturn, 1, 0, 0, .null) := by decide +kernel
theorem i_226_0 : aIns 226 0 = some (.aload_n 0, 1, 0, 0, .null) := by decide +kernel
theorem i_226_1 : aIns 226 1 = some (.iload_n 1, 1, 0, 0, .null) := by decide +kernel
theorem i_226_2 : aIns 226 2 = some (.iconst 1, 1, 0, 0, .int (1)) := by decide +kernel
theorem i_226_3 : aIns 226 3 = some (.invokevirtual 309, 3, 191, 2, .int 12) := by decide +kernel
theorem i_226_6 : aIns 226 6 = some (.istore_n 2, 1, 0, 0, .null) := by decide +kernel
theorem i_226_7 : aIns 226 7 = some (.aload_n 0, 1, 0, 0, .null) := by decide +kernel
theorem i_226_8 : aIns 226 8 = some (.iload_n 1, 1, 0, 0, .null) := by decide +kernel
theorem i_226_9 : aIns 226 9 = some (.iconst 0, 1, 0, 0, .int (0)) := by decide +kernel
theorem i_226_10 : aIns 226 10 = some (.iload_n 2, 1, 0, 0, .null) := by decide +kernel
theorem i_226_11 : aIns 226 11 = some (.ineg, 1, 0, 0, .null) := by decide +kernel
theorem i_226_12 : aIns 226 12 = some (.invokevirtual 386, 3, 217, 3, .int 12) := by decide +kernel
theorem i_226_15 : aIns 226 15 = some (.aload_n 0, 1, 0, 0, .null) := by decide +kernel
theorem i_226_16 : aIns 226 16 = some (.iload_n 1, 1, 0, 0, .null) := by decide +kernel
theorem i_226_17 : aIns 226 17 = some (.iconst 2, 1, 0, 0, .int (2)) := by decide +kernel
theorem i_226_18 : aIns 226 18 = some (.iload_n 2, 1, 0, 0, .null) := by decide +kernel
theorem i_226_19 : aIns 226 19 = some (.invokevirtual 386, 3, 217, 3, .int 12) := by decide +kernel
theorem i_226_22 : aIns 226 22 = some (.aload_n 0, 1, 0, 0, .null) := by decide +kernel
theorem i_226_23 : aIns 226 23 = some (.getfield 39, 3, 12, 20, .null) := by decide +kernel
theorem i_226_26 : aIns 226 26 = some (.bipush 16, 2, 0, 0, .int (16)) := by decide +kernel
theorem i_226_28 : aIns 226 28 = some (.iconst 5, 1, 0, 0, .int (5)) := by decide +kernel
theorem i_226_29 : aIns 226 29 = some (.iload_n 1, 1, 0, 0, .null) := by decide +kernel
theorem i_226_30 : aIns 226 30 = some (.imul, 1, 0, 0, .null) := by decide +kernel
theorem i_226_31 : aIns 226 31 = some (.iadd, 1, 0, 0, .null) := by decide +kernel
theorem i_226_32 : aIns 226 32 = some (.iconst 4, 1, 0, 0, .int (4)) := by decide +kernel
theorem i_226_33 : aIns 226 33 = some (.iadd, 1, 0, 0, .null) := by decide +kernel
theorem i_226_34 : aIns 226 34 = some (.iload_n 2, 1, 0, 0, .null) := by decide +kernel
theorem i_226_35 : aIns 226 35 = some (.iastore, 1, 0, 0, .null) := by decide +kernel
theorem i_226_36 : aIns 226 36 = some (.aload_n 0, 1, 0, 0, .null) := by decide +kernel
theorem i_226_37 : aIns 226 37 = some (.getfield 39, 3, 12, 20, .null) := by decide +kernel
theorem i_226_40 : aIns 226 40 = some (.bipush 16, 2, 0, 0, .int (16)) := by decide +kernel
theorem i_226_42 : aIns 226 42 = some (.iconst 5, 1, 0, 0, .int (5)) := by decide +kernel
theorem i_226_43 : aIns 226 43 = some (.iload_n 1, 1, 0, 0, .null) := by decide +kernel
theorem i_226_44 : aIns 226 44 = some (.imul, 1, 0, 0, .null) := by decide +kernel
theorem i_226_45 : aIns 226 45 = some (.iadd, 1, 0, 0, .null) := by decide +kernel
theorem i_226_46 : aIns 226 46 = some (.iconst 1, 1, 0, 0, .int (1)) := by decide +kernel
theorem i_226_47 : aIns 226 47 = some (.iadd, 1, 0, 0, .null) := by decide +kernel
theorem i_226_48 : aIns 226 48 = some (.iconst 0, 1, 0, 0, .int (0)) := by decide +kernel
theorem i_226_49 : aIns 226 49 = some (.iastore, 1, 0, 0, .null) := by decide +kernel
theorem i_226_50 : aIns 226 50 = some (.return_, 1, 0, 0, .null) := by decide +kernel
def d_199 (g : Nat) (x1 : Int32) (x2 : Int32) (S : rS) : Option (Int32 × rS) := ((d_191 g x1 (3 : Int32) S).bind (fun z_1 => ((d_198 g (S.1 21) x1 x2 z_1.1 z_1.2).bind (fun z_6 => some (z_6.1, z_6.2)))))
set_option maxHeartbeats 4000000 in
set_option maxRecDepth 100000 in
theorem d_199_ok {X : aX} {g d : Nat} {x1 : Int32} {x2 : Int32} {S : rS} {h0 : aH} {zz : Int32 × rS} (hdp : 4 ≤ d) (HS : rm h0 S) (hd : d_199 g x1 x2 S = some zz) : aWp X d 199 0 (aEntL [.ref 382, .int x1, .int x2] 3) [] h0 (fun w h' => w = some (.int zz.1) ∧ rTo h0 zz.2 h') := by
  unfold d_199 at hd
  have HH := rTo.rf HS
  refine wp_lv (l2 := [some (.ref 382), some (.int x1), some (.int x2)]) rfl ?_
  obtain ⟨e, rfl⟩ : ∃ e, d = e + 1 := ⟨d - 1, by omega⟩
  refine wp_s 1 [some (.ref 382), some (.int x1), some (.int x2)] [.ref 382] h0 i_199_0 rfl ?_
  refine wp_s 2 [some (.ref 382), some (.int x1), some (.int x2)] [.ref 382, .ref 382] h0 i_199_1 rfl ?_
  refine wp_get (v := .int (S.1 21)) 5 rfl i_199_2 (HH.1 0 (by decide)) rfl ?_
  refine wp_s 6 [some (.ref 382), some (.int x1), some (.int x2)] [.int x1, .int (S.1 21), .ref 382] h0 i_199_5 rfl ?_
  refine wp_s 7 [some (.ref 382), some (.int x1), some (.int x2)] [.int x2, .int x1, .int (S.1 21), .ref 382] h0 i_199_6 rfl ?_
  refine wp_s 8 [some (.ref 382), some (.int x1), some (.int x2)] [.ref 382, .int x2, .int x1, .int (S.1 21), .ref 382] h0 i_199_7 rfl ?_
  refine wp_s 9 [some (.ref 382), some (.int x1), some (.int x2)] [.int x1, .ref 382, .int x2, .int x1, .int (S.1 21), .ref 382] h0 i_199_8 rfl ?_
  refine wp_s 10 [some (.ref 382), some (.int x1), some (.int x2)] [.int (3 : Int32), .int x1, .ref 382, .int x2, .int x1, .int (S.1 21), .ref 382] h0 i_199_9 rfl ?_
  obtain ⟨z_1, q_2, hd⟩ := dk_bind hd
  refine wp_callV 13 rfl i_199_10 (by decide) rfl (vs := [.int x1, .int (3 : Int32)]) (rest := [.int x2, .int x1, .int (S.1 21), .ref 382]) rfl rfl rfl (HH.1 0 (by decide)) (y := m_191) rfl (Nat.le_of_ble_eq_true rfl) (d_191_ok (d := e) (by omega) HH.1 q_2) ?_
  rintro v_5 h_3 ⟨rfl, H_4⟩
  have H_4 := HH.tr H_4
  obtain ⟨z_6, q_7, hd⟩ := dk_bind hd
  refine wp_callV 16 rfl i_199_13 (by decide) rfl (vs := [.int (S.1 21), .int x1, .int x2, .int z_1.1]) (rest := []) rfl rfl rfl (H_4.1 0 (by decide)) (y := m_198) rfl (Nat.le_of_ble_eq_true rfl) (d_198_ok (d := e) (by omega) H_4.1 q_7) ?_
  rintro v_10 h_8 ⟨rfl, H_9⟩
  have H_9 := H_4.tr H_9
  obtain rfl := Option.some.inj hd
  exact wp_iret i_199_16 ⟨rfl, H_9⟩
def d_200 (g : Nat) (x1 : Int32) (S : rS) : Option (Int32 × rS) := (if aIn (7 : Int32) 181 = true then ((d_199 g x1 ((S.2.1 20) (7 : Int32).toNatClampNeg) S).bind (fun z_2 => some (z_2.1, z_2.2))) else none)
set_option maxHeartbeats 4000000 in
set_option maxRecDepth 100000 in
theorem d_200_ok {X : aX} {g d : Nat} {x1 : Int32} {S : rS} {h0 : aH} {zz : Int32 × rS} (hdp : 5 ≤ d) (HS : rm h0 S) (hd : d_200 g x1 S = some zz) : aWp X d 200 0 (aEntL [.ref 382, .int x1] 2) [] h0 (fun w h' => w = some (.int zz.1) ∧ rTo h0 zz.2 h') := by
  unfold d_200 at hd
  have HH := rTo.rf HS
  refine wp_lv (l2 := [some (.ref 382), some (.int x1)]) rfl ?_
  obtain ⟨e, rfl⟩ : ∃ e, d = e + 1 := ⟨d - 1, by omega⟩
  refine wp_s 1 [some (.ref 382), some (.int x1)] [.ref 382] h0 i_200_0 rfl ?_
  refine wp_s 2 [some (.ref 382), some (.int x1)] [.int x1, .ref 382] h0 i_200_1 rfl ?_
  refine wp_s 3 [some (.ref 382), some (.int x1)] [.ref 382, .int x1, .ref 382] h0 i_200_2 rfl ?_
  refine wp_get (v := .ref 392) 6 rfl i_200_3 (HH.1 0 (by decide)) rfl ?_
  refine wp_s 8 [some (.ref 382), some (.int x1)] [.int (7 : Int32), .ref 392, .int x1, .ref 382] h0 i_200_6 rfl ?_
  obtain ⟨b_1, hd⟩ := dk_if hd
  refine wp_iald (f := (S.2.1 20)) 9 rfl i_200_8 (HH.1 10 (by decide)) b_1 ?_
  obtain ⟨z_2, q_3, hd⟩ := dk_bind hd
  refine wp_callV 12 rfl i_200_9 (by decide) rfl (vs := [.int x1, .int ((S.2.1 20) (7 : Int32).toNatClampNeg)]) (rest := []) rfl rfl rfl (HH.1 0 (by decide)) (y := m_199) rfl (Nat.le_of_ble_eq_true rfl) (d_199_ok (d := e) (by omega) HH.1 q_3) ?_
  rintro v_6 h_4 ⟨rfl, H_5⟩
  have H_5 := HH.tr H_5
  obtain rfl := Option.some.inj hd
  exact wp_iret i_200_12 ⟨rfl, H_5⟩
def j_201_62 (g : Nat) (x1 : Int32) (x2 : Int32) (S : rS) : Option (Int32 × rS) := ((d_191 g x1 (x2 - (1 : Int32)) S).bind (fun z_1 => some (z_1.1, z_1.2)))
set_option maxHeartbeats 4000000 in
set_option maxRecDepth 100000 in
theorem j_201_62_ok {X : aX} {g d : Nat} {x1 : Int32} {x2 : Int32} {S : rS} {h0 : aH} {zz : Int32 × rS} (hdp : 6 ≤ d) (HS : rm h0 S) (hd : j_201_62 g x1 x2 S = some zz) : aWp X d 201 62 [some (.ref 382), some (.int x1), some (.int x2)] [] h0 (fun w h' => w = some (.int zz.1) ∧ rTo h0 zz.2 h') := by
  unfold j_201_62 at hd
  have HH := rTo.rf HS
  obtain ⟨e, rfl⟩ : ∃ e, d = e + 1 := ⟨d - 1, by omega⟩
  refine wp_s 63 [some (.ref 382), some (.int x1), some (.int x2)] [.ref 382] h0 i_201_62 rfl ?_
  refine wp_s 64 [some (.ref 382), some (.int x1), some (.int x2)] [.int x1, .ref 382] h0 i_201_63 rfl ?_
  refine wp_s 65 [some (.ref 382), some (.int x1), some (.int x2)] [.int x2, .int x1, .ref 382] h0 i_201_64 rfl ?_
  refine wp_s 66 [some (.ref 382), some (.int x1), some (.int x2)] [.int (1 : Int32), .int x2, .int x1, .ref 382] h0 i_201_65 rfl ?_
  refine wp_s 67 [some (.ref 382), some (.int x1), some (.int x2)] [.int (x2 - (1 : Int32)), .int x1, .ref 382] h0 i_201_66 rfl ?_
  obtain ⟨z_1, q_2, hd⟩ := dk_bind hd
  refine wp_callV 70 rfl i_201_67 (by decide) rfl (vs := [.int x1, .int (x2 - (1 : Int32))]) (rest := []) rfl rfl rfl (HH.1 0 (by decide)) (y := m_191) rfl (Nat.le_of_ble_eq_true rfl) (d_191_ok (d := e) (by omega) HH.1 q_2) ?_
  rintro v_5 h_3 ⟨rfl, H_4⟩
  have H_4 := HH.tr H_4
  obtain rfl := Option.some.inj hd
  exact wp_iret i_201_70 ⟨rfl, H_4⟩
def d_201 (g : Nat) (x1 : Int32) (x2 : Int32) (S : rS) : Option (Int32 × rS) := ((d_188 g x1 S).bind (fun z_1 => (if ¬ z_1.1 = 0 then (if x2 = (0 : Int32) then ((d_200 g x1 z_1.2).bind (fun z_8 => some (z_8.1, z_8.2))) else (if x2 = (1 : Int32) then (j_201_62 g x1 x2 z_1.2) else (if x2 = (2 : Int32) then (j_201_62 g x1 x2 z_1.2) else (if x2 = (3 : Int32) then (j_201_62 g x1 x2 z_1.2) else (if x2 = (4 : Int32) then (j_201_62 g x1 x2 z_1.2) else (if x2 = (5 : Int32) then (j_201_62 g x1 x2 z_1.2) else (if x2 = (6 : Int32) then ((d_192 g x1 z_1.2).bind (fun z_19 => some (z_19.1, z_19.2))) else (if x2 = (7 : Int32) then ((d_193 g x1 z_1.2).bind (fun z_25 => some (z_25.1, z_25.2))) else some ((-1 : Int32), z_1.2))))))))) else some ((-1 : Int32), z_1.2))))
set_option maxHeartbeats 4000000 in
set_option maxRecDepth 100000 in
theorem d_201_ok {X : aX} {g d : Nat} {x1 : Int32} {x2 : Int32} {S : rS} {h0 : aH} {zz : Int32 × rS} (hdp : 6 ≤ d) (HS : rm h0 S) (hd : d_201 g x1 x2 S = some zz) : aWp X d 201 0 (aEntL [.ref 382, .int x1, .int x2] 3) [] h0 (fun w h' => w = some (.int zz.1) ∧ rTo h0 zz.2 h') := by
  unfold d_201 at hd
  have HH := rTo.rf HS
  refine wp_lv (l2 := [some (.ref 382), some (.int x1), some (.int x2)]) rfl ?_
  obtain ⟨e, rfl⟩ : ∃ e, d = e + 1 := ⟨d - 1, by omega⟩
  refine wp_s 1 [some (.ref 382), some (.int x1), some (.int x2)] [.ref 382] h0 i_201_0 rfl ?_
  refine wp_s 2 [some (.ref 382), some (.int x1), some (.int x2)] [.int x1, .ref 382] h0 i_201_1 rfl ?_
  obtain ⟨z_1, q_2, hd⟩ := dk_bind hd
  refine wp_callV 5 rfl i_201_2 (by decide) rfl (vs := [.int x1]) (rest := []) rfl rfl rfl (HH.1 0 (by decide)) (y := m_188) rfl (Nat.le_of_ble_eq_true rfl) (d_188_ok (d := e) (by omega) HH.1 q_2) ?_
  rintro v_5 h_3 ⟨rfl, H_4⟩
  have H_4 := HH.tr H_4
  refine wp_if_ne 10 8 rfl rfl i_201_5 (fun c_6 => ?_) (fun c_6 => ?_)
  · rw [if_pos c_6] at hd
    refine wp_s 11 [some (.ref 382), some (.int x1), some (.int x2)] [.int x2] h_3 i_201_10 rfl ?_
    by_cases c_7 : x2 = (0 : Int32)
    · rw [if_pos c_7] at hd
      refine wp_tswC (j := 0) 56 i_201_11 (by rw [c_7]; decide) (by decide) rfl rfl ?_
      refine wp_s 57 [some (.ref 382), some (.int x1), some (.int x2)] [.ref 382] h_3 i_201_56 rfl ?_
      refine wp_s 58 [some (.ref 382), some (.int x1), some (.int x2)] [.int x1, .ref 382] h_3 i_201_57 rfl ?_
      obtain ⟨z_8, q_9, hd⟩ := dk_bind hd
      refine wp_callV 61 rfl i_201_58 (by decide) rfl (vs := [.int x1]) (rest := []) rfl rfl rfl (H_4.1 0 (by decide)) (y := m_200) rfl (Nat.le_of_ble_eq_true rfl) (d_200_ok (d := e) (by omega) H_4.1 q_9) ?_
      rintro v_12 h_10 ⟨rfl, H_11⟩
      have H_11 := H_4.tr H_11
      obtain rfl := Option.some.inj hd
      exact wp_iret i_201_61 ⟨rfl, H_11⟩
    rw [if_neg c_7] at hd
    by_cases c_13 : x2 = (1 : Int32)
    · rw [if_pos c_13] at hd
      refine wp_tswC (j := 1) 62 i_201_11 (by rw [c_13]; decide) (by decide) rfl rfl ?_
      exact aWp.post (aWp.forget (j_201_62_ok hdp H_4.1 hd) ((lvS (lvS (lvS lvE))))) (fun _ _ hq => ⟨hq.1, H_4.tr hq.2⟩)
    rw [if_neg c_13] at hd
    by_cases c_14 : x2 = (2 : Int32)
    · rw [if_pos c_14] at hd
      refine wp_tswC (j := 2) 62 i_201_11 (by rw [c_14]; decide) (by decide) rfl rfl ?_
      exact aWp.post (aWp.forget (j_201_62_ok hdp H_4.1 hd) ((lvS (lvS (lvS lvE))))) (fun _ _ hq => ⟨hq.1, H_4.tr hq.2⟩)
    rw [if_neg c_14] at hd
    by_cases c_15 : x2 = (3 : Int32)
    · rw [if_pos c_15] at hd
      refine wp_tswC (j := 3) 62 i_201_11 (by rw [c_15]; decide) (by decide) rfl rfl ?_
      exact aWp.post (aWp.forget (j_201_62_ok hdp H_4.1 hd) ((lvS (lvS (lvS lvE))))) (fun _ _ hq => ⟨hq.1, H_4.tr hq.2⟩)
    rw [if_neg c_15] at hd
    by_cases c_16 : x2 = (4 : Int32)
    · rw [if_pos c_16] at hd
      refine wp_tswC (j := 4) 62 i_201_11 (by rw [c_16]; decide) (by decide) rfl rfl ?_
      exact aWp.post (aWp.forget (j_201_62_ok hdp H_4.1 hd) ((lvS (lvS (lvS lvE))))) (fun _ _ hq => ⟨hq.1, H_4.tr hq.2⟩)
    rw [if_neg c_16] at hd
    by_cases c_17 : x2 = (5 : Int32)
    · rw [if_pos c_17] at hd
      refine wp_tswC (j := 5) 62 i_201_11 (by rw [c_17]; decide) (by decide) rfl rfl ?_
      exact aWp.post (aWp.forget (j_201_62_ok hdp H_4.1 hd) ((lvS (lvS (lvS lvE))))) (fun _ _ hq => ⟨hq.1, H_4.tr hq.2⟩)
    rw [if_neg c_17] at hd
    by_cases c_18 : x2 = (6 : Int32)
    · rw [if_pos c_18] at hd
      refine wp_tswC (j := 6) 71 i_201_11 (by rw [c_18]; decide) (by decide) rfl rfl ?_
      refine wp_s 72 [some (.ref 382), some (.int x1), some (.int x2)] [.ref 382] h_3 i_201_71 rfl ?_
      refine wp_s 73 [some (.ref 382), some (.int x1), some (.int x2)] [.int x1, .ref 382] h_3 i_201_72 rfl ?_
      obtain ⟨z_19, q_20, hd⟩ := dk_bind hd
      refine wp_callV 76 rfl i_201_73 (by decide) rfl (vs := [.int x1]) (rest := []) rfl rfl rfl (H_4.1 0 (by decide)) (y := m_192) rfl (Nat.le_of_ble_eq_true rfl) (d_192_ok (d := e) (by omega) H_4.1 q_20) ?_
      rintro v_23 h_21 ⟨rfl, H_22⟩
      have H_22 := H_4.tr H_22
      obtain rfl := Option.some.inj hd
      exact wp_iret i_201_76 ⟨rfl, H_22⟩
    rw [if_neg c_18] at hd
    by_cases c_24 : x2 = (7 : Int32)
    · rw [if_pos c_24] at hd
      refine wp_tswC (j := 7) 77 i_201_11 (by rw [c_24]; decide) (by decide) rfl rfl ?_
      refine wp_s 78 [some (.ref 382), some (.int x1), some (.int x2)] [.ref 382] h_3 i_201_77 rfl ?_
      refine wp_s 79 [some (.ref 382), some (.int x1), some (.int x2)] [.int x1, .ref 382] h_3 i_201_78 rfl ?_
      obtain ⟨z_25, q_26, hd⟩ := dk_bind hd
      refine wp_callV 82 rfl i_201_79 (by decide) rfl (vs := [.int x1]) (rest := []) rfl rfl rfl (H_4.1 0 (by decide)) (y := m_193) rfl (Nat.le_of_ble_eq_true rfl) (d_193_ok (d := e) (by omega) H_4.1 q_26) ?_
      rintro v_29 h_27 ⟨rfl, H_28⟩
      have H_28 := H_4.tr H_28
      obtain rfl := Option.some.inj hd
      exact wp_iret i_201_82 ⟨rfl, H_28⟩
    rw [if_neg c_24] at hd
    have o_30 : (x2).toInt < (0 : Int) ∨ (7 : Int) < (x2).toInt := by
      have e_0 := lv_neT c_7 (a := 0) (by decide)
      have e_1 := lv_neT c_13 (a := 1) (by decide)
      have e_2 := lv_neT c_14 (a := 2) (by decide)
      have e_3 := lv_neT c_15 (a := 3) (by decide)
      have e_4 := lv_neT c_16 (a := 4) (by decide)
      have e_5 := lv_neT c_17 (a := 5) (by decide)
      have e_6 := lv_neT c_18 (a := 6) (by decide)
      have e_7 := lv_neT c_24 (a := 7) (by decide)
      omega
    refine wp_tswD 83 i_201_11 o_30 rfl ?_
    refine wp_s 84 [some (.ref 382), some (.int x1), some (.int x2)] [.int (-1 : Int32)] h_3 i_201_83 rfl ?_
    obtain rfl := Option.some.inj hd
    exact wp_iret i_201_84 ⟨rfl, H_4⟩
  · rw [if_neg c_6] at hd
    refine wp_s 9 [some (.ref 382), some (.int x1), some (.int x2)] [.int (-1 : Int32)] h_3 i_201_8 rfl ?_
    obtain rfl := Option.some.inj hd
    exact wp_iret i_201_9 ⟨rfl, H_4⟩
def l_202 (g n tag : Nat) (x1 : Int32) (x2 : Int32) (S : rS) : Option (Int32 × rS) := match n with
  | 0 => none
  | n + 1 => if tag = 0 then (if aIn (9 : Int32) 181 = true then (if ((S.2.1 20) (9 : Int32).toNatClampNeg) ≤ x2 then some ((-1 : Int32), S) else (if aIn ((64 : Int32) + x2) 181 = true then (if ¬ ((S.2.1 20) ((64 : Int32) + x2).toNatClampNeg) = x1 then (l_202 g n 0 x1 (x2 + (1 : Int32)) S) else some (x2, S)) else none)) else none) else none
set_option maxHeartbeats 4000000 in
set_option maxRecDepth 100000 in
theorem l_202_ok {X : aX} {g d : Nat} (hdp : 0 ≤ d) : ∀ n, (∀ (x1 : Int32) (x2 : Int32) (S : rS) (h0 : aH) (zz : Int32 × rS), rm h0 S → l_202 g n 0 x1 x2 S = some zz → aWp X d 202 2 [some (.ref 382), some (.int x1), some (.int x2)] [] h0 (fun w h' => w = some (.int zz.1) ∧ rTo h0 zz.2 h')) := by
  intro n
  induction n with
  | zero => exact fun _ _ _ _ _ _ hd => by simp [l_202] at hd
  | succ n ih =>
    intro x1 x2 S h0 zz HS hd
    unfold l_202 at hd
    rw [if_pos rfl] at hd
    have HH := rTo.rf HS
    refine wp_s 3 [some (.ref 382), some (.int x1), some (.int x2)] [.int x2] h0 i_202_2 rfl ?_
    refine wp_s 4 [some (.ref 382), some (.int x1), some (.int x2)] [.ref 382, .int x2] h0 i_202_3 rfl ?_
    refine wp_get (v := .ref 392) 7 rfl i_202_4 (HH.1 0 (by decide)) rfl ?_
    refine wp_s 9 [some (.ref 382), some (.int x1), some (.int x2)] [.int (9 : Int32), .ref 392, .int x2] h0 i_202_7 rfl ?_
    obtain ⟨b_1, hd⟩ := dk_if hd
    refine wp_iald (f := (S.2.1 20)) 10 rfl i_202_9 (HH.1 10 (by decide)) b_1 ?_
    refine wp_cmp_ge 34 13 rfl rfl i_202_10 (fun c_2 => ?_) (fun c_2 => ?_)
    · rw [if_pos c_2] at hd
      refine wp_s 35 [some (.ref 382), some (.int x1), some (.int x2)] [.int (-1 : Int32)] h0 i_202_34 rfl ?_
      obtain rfl := Option.some.inj hd
      exact wp_iret i_202_35 ⟨rfl, HH⟩
    · rw [if_neg c_2] at hd
      refine wp_s 14 [some (.ref 382), some (.int x1), some (.int x2)] [.ref 382] h0 i_202_13 rfl ?_
      refine wp_get (v := .ref 392) 17 rfl i_202_14 (HH.1 0 (by decide)) rfl ?_
      refine wp_s 19 [some (.ref 382), some (.int x1), some (.int x2)] [.int (64 : Int32), .ref 392] h0 i_202_17 rfl ?_
      refine wp_s 20 [some (.ref 382), some (.int x1), some (.int x2)] [.int x2, .int (64 : Int32), .ref 392] h0 i_202_19 rfl ?_
      refine wp_s 21 [some (.ref 382), some (.int x1), some (.int x2)] [.int ((64 : Int32) + x2), .ref 392] h0 i_202_20 rfl ?_
      obtain ⟨b_3, hd⟩ := dk_if hd
      refine wp_iald (f := (S.2.1 20)) 22 rfl i_202_21 (HH.1 10 (by decide)) b_3 ?_
      refine wp_s 23 [some (.ref 382), some (.int x1), some (.int x2)] [.int x1, .int ((S.2.1 20) ((64 : Int32) + x2).toNatClampNeg)] h0 i_202_22 rfl ?_
      refine wp_cmp_ne 28 26 rfl rfl i_202_23 (fun c_4 => ?_) (fun c_4 => ?_)
      · rw [if_pos c_4] at hd
        refine wp_s 31 [some (.ref 382), some (.int x1), some (.int (x2 + (1 : Int32)))] [] h0 i_202_28 rfl ?_
        refine wp_s 2 [some (.ref 382), some (.int x1), some (.int (x2 + (1 : Int32)))] [] h0 i_202_31 rfl ?_
        exact aWp.post (aWp.forget (ih _ _ _ _ _ HH.1 hd) ((lvS (lvS (lvS lvE))))) (fun _ _ hq => ⟨hq.1, HH.tr hq.2⟩)
      · rw [if_neg c_4] at hd
        refine wp_s 27 [some (.ref 382), some (.int x1), some (.int x2)] [.int x2] h0 i_202_26 rfl ?_
        obtain rfl := Option.some.inj hd
        exact wp_iret i_202_27 ⟨rfl, HH⟩
def d_202 (g : Nat) (x1 : Int32) (S : rS) : Option (Int32 × rS) := (l_202 g g 0 x1 (0 : Int32) S)
set_option maxHeartbeats 4000000 in
set_option maxRecDepth 100000 in
theorem d_202_ok {X : aX} {g d : Nat} {x1 : Int32} {S : rS} {h0 : aH} {zz : Int32 × rS} (hdp : 0 ≤ d) (HS : rm h0 S) (hd : d_202 g x1 S = some zz) : aWp X d 202 0 (aEntL [.ref 382, .int x1] 3) [] h0 (fun w h' => w = some (.int zz.1) ∧ rTo h0 zz.2 h') := by
  unfold d_202 at hd
  have HH := rTo.rf HS
  refine wp_lv (l2 := [some (.ref 382), some (.int x1), none]) rfl ?_
  refine wp_s 1 [some (.ref 382), some (.int x1), none] [.int (0 : Int32)] h0 i_202_0 rfl ?_
  refine wp_s 2 [some (.ref 382), some (.int x1), some (.int (0 : Int32))] [] h0 i_202_1 rfl ?_
  exact aWp.post (aWp.forget ((l_202_ok hdp g) _ _ _ _ _ HH.1 hd) ((lvS (lvS (lvS lvE))))) (fun _ _ hq => ⟨hq.1, HH.tr hq.2⟩)
def d_203 (g : Nat) (x1 : Int32) (x2 : Int32) (S : rS) : Option (Int32 × rS) := ((d_190 g x1 S).bind (fun z_1 => (if z_1.1 = 0 then some ((-2 : Int32), z_1.2) else ((d_140 g (x2.toInt64) (0 : Int64) (5 : Int64) z_1.2).bind (fun z_7 => (if ¬ z_7.1 = 0 then (if (3 : Int32) ≤ x2 then (if ¬ x2 = (3 : Int32) then (if ¬ x2 = (4 : Int32) then ((d_194 g x1 (3 : Int32) z_7.2).bind (fun z_16 => some (z_16.1, z_16.2))) else (if aIn ((69 : Int32) + x1) 181 = true then some (((z_7.2.2.1 20) ((69 : Int32) + x1).toNatClampNeg), z_7.2) else none)) else ((d_202 g x1 z_7.2).bind (fun z_22 => some (z_22.1, z_22.2)))) else ((d_194 g x1 x2 z_7.2).bind (fun z_27 => some (z_27.1, z_27.2)))) else some ((-2 : Int32), z_7.2)))))))
set_option maxHeartbeats 4000000 in
set_option maxRecDepth 100000 in
theorem d_203_ok {X : aX} {g d : Nat} {x1 : Int32} {x2 : Int32} {S : rS} {h0 : aH} {zz : Int32 × rS} (hdp : 1 ≤ d) (HS : rm h0 S) (hd : d_203 g x1 x2 S = some zz) : aWp X d 203 0 (aEntL [.ref 382, .int x1, .int x2] 3) [] h0 (fun w h' => w = some (.int zz.1) ∧ rTo h0 zz.2 h') := by
  unfold d_203 at hd
  have HH := rTo.rf HS
  refine wp_lv (l2 := [some (.ref 382), some (.int x1), some (.int x2)]) rfl ?_
  obtain ⟨e, rfl⟩ : ∃ e, d = e + 1 := ⟨d - 1, by omega⟩
  refine wp_s 1 [some (.ref 382), some (.int x1), some (.int x2)] [.ref 382] h0 i_203_0 rfl ?_
  refine wp_s 2 [some (.ref 382), some (.int x1), some (.int x2)] [.int x1, .ref 382] h0 i_203_1 rfl ?_
  obtain ⟨z_1, q_2, hd⟩ := dk_bind hd
  refine wp_callV 5 rfl i_203_2 (by decide) rfl (vs := [.int x1]) (rest := []) rfl rfl rfl (HH.1 0 (by decide)) (y := m_190) rfl (Nat.le_of_ble_eq_true rfl) (d_190_ok (d := e) (by omega) HH.1 q_2) ?_
  rintro v_5 h_3 ⟨rfl, H_4⟩
  have H_4 := HH.tr H_4
  refine wp_if_eq 20 8 rfl rfl i_203_5 (fun c_6 => ?_) (fun c_6 => ?_)
  · rw [if_pos c_6] at hd
    refine wp_s 22 [some (.ref 382), some (.int x1), some (.int x2)] [.int (-2 : Int32)] h_3 i_203_20 rfl ?_
    obtain rfl := Option.some.inj hd
    exact wp_iret i_203_22 ⟨rfl, H_4⟩
  · rw [if_neg c_6] at hd
    refine wp_s 9 [some (.ref 382), some (.int x1), some (.int x2)] [.int x2] h_3 i_203_8 rfl ?_
    refine wp_s 10 [some (.ref 382), some (.int x1), some (.int x2)] [.long (x2.toInt64)] h_3 i_203_9 rfl ?_
    refine wp_s 11 [some (.ref 382), some (.int x1), some (.int x2)] [.long (0 : Int64), .long (x2.toInt64)] h_3 i_203_10 rfl ?_
    refine wp_s 14 [some (.ref 382), some (.int x1), some (.int x2)] [.long (5 : Int64), .long (0 : Int64), .long (x2.toInt64)] h_3 i_203_11 rfl ?_
    obtain ⟨z_7, q_8, hd⟩ := dk_bind hd
    refine wp_callS 17 rfl i_203_14 (by decide) (vs := [.long (x2.toInt64), .long (0 : Int64), .long (5 : Int64)]) (rest := []) rfl rfl rfl (y := m_140) rfl (Nat.le_of_ble_eq_true rfl) (d_140_ok (d := e) (by omega) H_4.1 q_8) ?_
    rintro v_11 h_9 ⟨rfl, H_10⟩
    have H_10 := H_4.tr H_10
    refine wp_if_ne 23 20 rfl rfl i_203_17 (fun c_12 => ?_) (fun c_12 => ?_)
    · rw [if_pos c_12] at hd
      refine wp_s 24 [some (.ref 382), some (.int x1), some (.int x2)] [.int x2] h_9 i_203_23 rfl ?_
      refine wp_s 25 [some (.ref 382), some (.int x1), some (.int x2)] [.int (3 : Int32), .int x2] h_9 i_203_24 rfl ?_
      refine wp_cmp_ge 37 28 rfl rfl i_203_25 (fun c_13 => ?_) (fun c_13 => ?_)
      · rw [if_pos c_13] at hd
        refine wp_s 38 [some (.ref 382), some (.int x1), some (.int x2)] [.int x2] h_9 i_203_37 rfl ?_
        refine wp_s 39 [some (.ref 382), some (.int x1), some (.int x2)] [.int (3 : Int32), .int x2] h_9 i_203_38 rfl ?_
        refine wp_cmp_ne 50 42 rfl rfl i_203_39 (fun c_14 => ?_) (fun c_14 => ?_)
        · rw [if_pos c_14] at hd
          refine wp_s 51 [some (.ref 382), some (.int x1), some (.int x2)] [.int x2] h_9 i_203_50 rfl ?_
          refine wp_s 52 [some (.ref 382), some (.int x1), some (.int x2)] [.int (4 : Int32), .int x2] h_9 i_203_51 rfl ?_
          refine wp_cmp_ne 67 55 rfl rfl i_203_52 (fun c_15 => ?_) (fun c_15 => ?_)
          · rw [if_pos c_15] at hd
            refine wp_s 68 [some (.ref 382), some (.int x1), some (.int x2)] [.ref 382] h_9 i_203_67 rfl ?_
            refine wp_s 69 [some (.ref 382), some (.int x1), some (.int x2)] [.int x1, .ref 382] h_9 i_203_68 rfl ?_
            refine wp_s 70 [some (.ref 382), some (.int x1), some (.int x2)] [.int (3 : Int32), .int x1, .ref 382] h_9 i_203_69 rfl ?_
            obtain ⟨z_16, q_17, hd⟩ := dk_bind hd
            refine wp_callV 73 rfl i_203_70 (by decide) rfl (vs := [.int x1, .int (3 : Int32)]) (rest := []) rfl rfl rfl (H_10.1 0 (by decide)) (y := m_194) rfl (Nat.le_of_ble_eq_true rfl) (d_194_ok (d := e) (by omega) H_10.1 q_17) ?_
            rintro v_20 h_18 ⟨rfl, H_19⟩
            have H_19 := H_10.tr H_19
            obtain rfl := Option.some.inj hd
            exact wp_iret i_203_73 ⟨rfl, H_19⟩
          · rw [if_neg c_15] at hd
            refine wp_s 56 [some (.ref 382), some (.int x1), some (.int x2)] [.ref 382] h_9 i_203_55 rfl ?_
            refine wp_get (v := .ref 392) 59 rfl i_203_56 (H_10.1 0 (by decide)) rfl ?_
            refine wp_s 61 [some (.ref 382), some (.int x1), some (.int x2)] [.int (69 : Int32), .ref 392] h_9 i_203_59 rfl ?_
            refine wp_s 62 [some (.ref 382), some (.int x1), some (.int x2)] [.int x1, .int (69 : Int32), .ref 392] h_9 i_203_61 rfl ?_
            refine wp_s 63 [some (.ref 382), some (.int x1), some (.int x2)] [.int ((69 : Int32) + x1), .ref 392] h_9 i_203_62 rfl ?_
            obtain ⟨b_21, hd⟩ := dk_if hd
            refine wp_iald (f := (z_7.2.2.1 20)) 64 rfl i_203_63 (H_10.1 10 (by decide)) b_21 ?_
            refine wp_s 73 [some (.ref 382), some (.int x1), some (.int x2)] [.int ((z_7.2.2.1 20) ((69 : Int32) + x1).toNatClampNeg)] h_9 i_203_64 rfl ?_
            obtain rfl := Option.some.inj hd
            exact wp_iret i_203_73 ⟨rfl, H_10⟩
        · rw [if_neg c_14] at hd
          refine wp_s 43 [some (.ref 382), some (.int x1), some (.int x2)] [.ref 382] h_9 i_203_42 rfl ?_
          refine wp_s 44 [some (.ref 382), some (.int x1), some (.int x2)] [.int x1, .ref 382] h_9 i_203_43 rfl ?_
          obtain ⟨z_22, q_23, hd⟩ := dk_bind hd
          refine wp_callV 47 rfl i_203_44 (by decide) rfl (vs := [.int x1]) (rest := []) rfl rfl rfl (H_10.1 0 (by decide)) (y := m_202) rfl (Nat.le_of_ble_eq_true rfl) (d_202_ok (d := e) (by omega) H_10.1 q_23) ?_
          rintro v_26 h_24 ⟨rfl, H_25⟩
          have H_25 := H_10.tr H_25
          refine wp_s 73 [some (.ref 382), some (.int x1), some (.int x2)] [.int z_22.1] h_24 i_203_47 rfl ?_
          obtain rfl := Option.some.inj hd
          exact wp_iret i_203_73 ⟨rfl, H_25⟩
      · rw [if_neg c_13] at hd
        refine wp_s 29 [some (.ref 382), some (.int x1), some (.int x2)] [.ref 382] h_9 i_203_28 rfl ?_
        refine wp_s 30 [some (.ref 382), some (.int x1), some (.int x2)] [.int x1, .ref 382] h_9 i_203_29 rfl ?_
        refine wp_s 31 [some (.ref 382), some (.int x1), some (.int x2)] [.int x2, .int x1, .ref 382] h_9 i_203_30 rfl ?_
        obtain ⟨z_27, q_28, hd⟩ := dk_bind hd
        refine wp_callV 34 rfl i_203_31 (by decide) rfl (vs := [.int x1, .int x2]) (rest := []) rfl rfl rfl (H_10.1 0 (by decide)) (y := m_194) rfl (Nat.le_of_ble_eq_true rfl) (d_194_ok (d := e) (by omega) H_10.1 q_28) ?_
        rintro v_31 h_29 ⟨rfl, H_30⟩
        have H_30 := H_10.tr H_30
        refine wp_s 73 [some (.ref 382), some (.int x1), some (.int x2)] [.int z_27.1] h_29 i_203_34 rfl ?_
        obtain rfl := Option.some.inj hd
        exact wp_iret i_203_73 ⟨rfl, H_30⟩
    · rw [if_neg c_12] at hd
      refine wp_s 22 [some (.ref 382), some (.int x1), some (.int x2)] [.int (-2 : Int32)] h_9 i_203_20 rfl ?_
      obtain rfl := Option.some.inj hd
      exact wp_iret i_203_22 ⟨rfl, H_10⟩
def d_204 (g : Nat) (x1 : Int32) (x2 : Int32) (S : rS) : Option (Int32 × rS) := ((d_189 g x1 S).bind (fun z_1 => (if z_1.1 = 0 then some ((-1 : Int32), z_1.2) else ((d_140 g (x2.toInt64) (0 : Int64) (1 : Int64) z_1.2).bind (fun z_7 => (if z_7.1 = 0 then some ((-1 : Int32), z_7.2) else (if aIn (((96 : Int32) + ((2 : Int32) * x1)) + x2) 181 = true then some (((z_7.2.2.1 20) (((96 : Int32) + ((2 : Int32) * x1)) + x2).toNatClampNeg), z_7.2) else none)))))))
set_option maxHeartbeats 4000000 in
set_option maxRecDepth 100000 in
theorem d_204_ok {X : aX} {g d : Nat} {x1 : Int32} {x2 : Int32} {S : rS} {h0 : aH} {zz : Int32 × rS} (hdp : 1 ≤ d) (HS : rm h0 S) (hd : d_204 g x1 x2 S = some zz) : aWp X d 204 0 (aEntL [.ref 382, .int x1, .int x2] 3) [] h0 (fun w h' => w = some (.int zz.1) ∧ rTo h0 zz.2 h') := by
  unfold d_204 at hd
  have HH := rTo.rf HS
  refine wp_lv (l2 := [some (.ref 382), some (.int x1), some (.int x2)]) rfl ?_
  obtain ⟨e, rfl⟩ : ∃ e, d = e + 1 := ⟨d - 1, by omega⟩
  refine wp_s 1 [some (.ref 382), some (.int x1), some (.int x2)] [.ref 382] h0 i_204_0 rfl ?_
  refine wp_s 2 [some (.ref 382), some (.int x1), some (.int x2)] [.int x1, .ref 382] h0 i_204_1 rfl ?_
  obtain ⟨z_1, q_2, hd⟩ := dk_bind hd
  refine wp_callV 5 rfl i_204_2 (by decide) rfl (vs := [.int x1]) (rest := []) rfl rfl rfl (HH.1 0 (by decide)) (y := m_189) rfl (Nat.le_of_ble_eq_true rfl) (d_189_ok (d := e) (by omega) HH.1 q_2) ?_
  rintro v_5 h_3 ⟨rfl, H_4⟩
  have H_4 := HH.tr H_4
  refine wp_if_eq 34 8 rfl rfl i_204_5 (fun c_6 => ?_) (fun c_6 => ?_)
  · rw [if_pos c_6] at hd
    refine wp_s 35 [some (.ref 382), some (.int x1), some (.int x2)] [.int (-1 : Int32)] h_3 i_204_34 rfl ?_
    obtain rfl := Option.some.inj hd
    exact wp_iret i_204_35 ⟨rfl, H_4⟩
  · rw [if_neg c_6] at hd
    refine wp_s 9 [some (.ref 382), some (.int x1), some (.int x2)] [.int x2] h_3 i_204_8 rfl ?_
    refine wp_s 10 [some (.ref 382), some (.int x1), some (.int x2)] [.long (x2.toInt64)] h_3 i_204_9 rfl ?_
    refine wp_s 11 [some (.ref 382), some (.int x1), some (.int x2)] [.long (0 : Int64), .long (x2.toInt64)] h_3 i_204_10 rfl ?_
    refine wp_s 12 [some (.ref 382), some (.int x1), some (.int x2)] [.long (1 : Int64), .long (0 : Int64), .long (x2.toInt64)] h_3 i_204_11 rfl ?_
    obtain ⟨z_7, q_8, hd⟩ := dk_bind hd
    refine wp_callS 15 rfl i_204_12 (by decide) (vs := [.long (x2.toInt64), .long (0 : Int64), .long (1 : Int64)]) (rest := []) rfl rfl rfl (y := m_140) rfl (Nat.le_of_ble_eq_true rfl) (d_140_ok (d := e) (by omega) H_4.1 q_8) ?_
    rintro v_11 h_9 ⟨rfl, H_10⟩
    have H_10 := H_4.tr H_10
    refine wp_if_eq 34 18 rfl rfl i_204_15 (fun c_12 => ?_) (fun c_12 => ?_)
    · rw [if_pos c_12] at hd
      refine wp_s 35 [some (.ref 382), some (.int x1), some (.int x2)] [.int (-1 : Int32)] h_9 i_204_34 rfl ?_
      obtain rfl := Option.some.inj hd
      exact wp_iret i_204_35 ⟨rfl, H_10⟩
    · rw [if_neg c_12] at hd
      refine wp_s 19 [some (.ref 382), some (.int x1), some (.int x2)] [.ref 382] h_9 i_204_18 rfl ?_
      refine wp_get (v := .ref 392) 22 rfl i_204_19 (H_10.1 0 (by decide)) rfl ?_
      refine wp_s 24 [some (.ref 382), some (.int x1), some (.int x2)] [.int (96 : Int32), .ref 392] h_9 i_204_22 rfl ?_
      refine wp_s 25 [some (.ref 382), some (.int x1), some (.int x2)] [.int (2 : Int32), .int (96 : Int32), .ref 392] h_9 i_204_24 rfl ?_
      refine wp_s 26 [some (.ref 382), some (.int x1), some (.int x2)] [.int x1, .int (2 : Int32), .int (96 : Int32), .ref 392] h_9 i_204_25 rfl ?_
      refine wp_s 27 [some (.ref 382), some (.int x1), some (.int x2)] [.int ((2 : Int32) * x1), .int (96 : Int32), .ref 392] h_9 i_204_26 rfl ?_
      refine wp_s 28 [some (.ref 382), some (.int x1), some (.int x2)] [.int ((96 : Int32) + ((2 : Int32) * x1)), .ref 392] h_9 i_204_27 rfl ?_
      refine wp_s 29 [some (.ref 382), some (.int x1), some (.int x2)] [.int x2, .int ((96 : Int32) + ((2 : Int32) * x1)), .ref 392] h_9 i_204_28 rfl ?_
      refine wp_s 30 [some (.ref 382), some (.int x1), some (.int x2)] [.int (((96 : Int32) + ((2 : Int32) * x1)) + x2), .ref 392] h_9 i_204_29 rfl ?_
      obtain ⟨b_13, hd⟩ := dk_if hd
      refine wp_iald (f := (z_7.2.2.1 20)) 31 rfl i_204_30 (H_10.1 10 (by decide)) b_13 ?_
      refine wp_s 35 [some (.ref 382), some (.int x1), some (.int x2)] [.int ((z_7.2.2.1 20) (((96 : Int32) + ((2 : Int32) * x1)) + x2).toNatClampNeg)] h_9 i_204_31 rfl ?_
      obtain rfl := Option.some.inj hd
      exact wp_iret i_204_35 ⟨rfl, H_10⟩
def d_205 (g : Nat) (x1 : Int32) (x2 : Int32) (x3 : Int32) (S : rS) : Option (Int32 × rS) := ((d_188 g x1 S).bind (fun z_1 => (if z_1.1 = 0 then some ((-1 : Int32), z_1.2) else ((d_140 g (x2.toInt64) (0 : Int64) (999 : Int64) z_1.2).bind (fun z_7 => (if z_7.1 = 0 then some ((-1 : Int32), z_7.2) else ((d_140 g (x3.toInt64) (0 : Int64) (99 : Int64) z_7.2).bind (fun z_13 => (if z_13.1 = 0 then some ((-1 : Int32), z_13.2) else ((d_198 g (z_13.2.1 21) x1 x2 x3 z_13.2).bind (fun z_19 => some (z_19.1, z_19.2))))))))))))
set_option maxHeartbeats 4000000 in
set_option maxRecDepth 100000 in
theorem d_205_ok {X : aX} {g d : Nat} {x1 : Int32} {x2 : Int32} {x3 : Int32} {S : rS} {h0 : aH} {zz : Int32 × rS} (hdp : 4 ≤ d) (HS : rm h0 S) (hd : d_205 g x1 x2 x3 S = some zz) : aWp X d 205 0 (aEntL [.ref 382, .int x1, .int x2, .int x3] 4) [] h0 (fun w h' => w = some (.int zz.1) ∧ rTo h0 zz.2 h') := by
  unfold d_205 at hd
  have HH := rTo.rf HS
  refine wp_lv (l2 := [some (.ref 382), some (.int x1), some (.int x2), some (.int x3)]) rfl ?_
  obtain ⟨e, rfl⟩ : ∃ e, d = e + 1 := ⟨d - 1, by omega⟩
  refine wp_s 1 [some (.ref 382), some (.int x1), some (.int x2), some (.int x3)] [.ref 382] h0 i_205_0 rfl ?_
  refine wp_s 2 [some (.ref 382), some (.int x1), some (.int x2), some (.int x3)] [.int x1, .ref 382] h0 i_205_1 rfl ?_
  obtain ⟨z_1, q_2, hd⟩ := dk_bind hd
  refine wp_callV 5 rfl i_205_2 (by decide) rfl (vs := [.int x1]) (rest := []) rfl rfl rfl (HH.1 0 (by decide)) (y := m_188) rfl (Nat.le_of_ble_eq_true rfl) (d_188_ok (d := e) (by omega) HH.1 q_2) ?_
  rintro v_5 h_3 ⟨rfl, H_4⟩
  have H_4 := HH.tr H_4
  refine wp_if_eq 46 8 rfl rfl i_205_5 (fun c_6 => ?_) (fun c_6 => ?_)
  · rw [if_pos c_6] at hd
    refine wp_s 47 [some (.ref 382), some (.int x1), some (.int x2), some (.int x3)] [.int (-1 : Int32)] h_3 i_205_46 rfl ?_
    obtain rfl := Option.some.inj hd
    exact wp_iret i_205_47 ⟨rfl, H_4⟩
  · rw [if_neg c_6] at hd
    refine wp_s 9 [some (.ref 382), some (.int x1), some (.int x2), some (.int x3)] [.int x2] h_3 i_205_8 rfl ?_
    refine wp_s 10 [some (.ref 382), some (.int x1), some (.int x2), some (.int x3)] [.long (x2.toInt64)] h_3 i_205_9 rfl ?_
    refine wp_s 11 [some (.ref 382), some (.int x1), some (.int x2), some (.int x3)] [.long (0 : Int64), .long (x2.toInt64)] h_3 i_205_10 rfl ?_
    refine wp_s 14 [some (.ref 382), some (.int x1), some (.int x2), some (.int x3)] [.long (999 : Int64), .long (0 : Int64), .long (x2.toInt64)] h_3 i_205_11 rfl ?_
    obtain ⟨z_7, q_8, hd⟩ := dk_bind hd
    refine wp_callS 17 rfl i_205_14 (by decide) (vs := [.long (x2.toInt64), .long (0 : Int64), .long (999 : Int64)]) (rest := []) rfl rfl rfl (y := m_140) rfl (Nat.le_of_ble_eq_true rfl) (d_140_ok (d := e) (by omega) H_4.1 q_8) ?_
    rintro v_11 h_9 ⟨rfl, H_10⟩
    have H_10 := H_4.tr H_10
    refine wp_if_eq 46 20 rfl rfl i_205_17 (fun c_12 => ?_) (fun c_12 => ?_)
    · rw [if_pos c_12] at hd
      refine wp_s 47 [some (.ref 382), some (.int x1), some (.int x2), some (.int x3)] [.int (-1 : Int32)] h_9 i_205_46 rfl ?_
      obtain rfl := Option.some.inj hd
      exact wp_iret i_205_47 ⟨rfl, H_10⟩
    · rw [if_neg c_12] at hd
      refine wp_s 21 [some (.ref 382), some (.int x1), some (.int x2), some (.int x3)] [.int x3] h_9 i_205_20 rfl ?_
      refine wp_s 22 [some (.ref 382), some (.int x1), some (.int x2), some (.int x3)] [.long (x3.toInt64)] h_9 i_205_21 rfl ?_
      refine wp_s 23 [some (.ref 382), some (.int x1), some (.int x2), some (.int x3)] [.long (0 : Int64), .long (x3.toInt64)] h_9 i_205_22 rfl ?_
      refine wp_s 26 [some (.ref 382), some (.int x1), some (.int x2), some (.int x3)] [.long (99 : Int64), .long (0 : Int64), .long (x3.toInt64)] h_9 i_205_23 rfl ?_
      obtain ⟨z_13, q_14, hd⟩ := dk_bind hd
      refine wp_callS 29 rfl i_205_26 (by decide) (vs := [.long (x3.toInt64), .long (0 : Int64), .long (99 : Int64)]) (rest := []) rfl rfl rfl (y := m_140) rfl (Nat.le_of_ble_eq_true rfl) (d_140_ok (d := e) (by omega) H_10.1 q_14) ?_
      rintro v_17 h_15 ⟨rfl, H_16⟩
      have H_16 := H_10.tr H_16
      refine wp_if_eq 46 32 rfl rfl i_205_29 (fun c_18 => ?_) (fun c_18 => ?_)
      · rw [if_pos c_18] at hd
        refine wp_s 47 [some (.ref 382), some (.int x1), some (.int x2), some (.int x3)] [.int (-1 : Int32)] h_15 i_205_46 rfl ?_
        obtain rfl := Option.some.inj hd
        exact wp_iret i_205_47 ⟨rfl, H_16⟩
      · rw [if_neg c_18] at hd
        refine wp_s 33 [some (.ref 382), some (.int x1), some (.int x2), some (.int x3)] [.ref 382] h_15 i_205_32 rfl ?_
        refine wp_s 34 [some (.ref 382), some (.int x1), some (.int x2), some (.int x3)] [.ref 382, .ref 382] h_15 i_205_33 rfl ?_
        refine wp_get (v := .int (z_13.2.1 21)) 37 rfl i_205_34 (H_16.1 0 (by decide)) rfl ?_
        refine wp_s 38 [some (.ref 382), some (.int x1), some (.int x2), some (.int x3)] [.int x1, .int (z_13.2.1 21), .ref 382] h_15 i_205_37 rfl ?_
        refine wp_s 39 [some (.ref 382), some (.int x1), some (.int x2), some (.int x3)] [.int x2, .int x1, .int (z_13.2.1 21), .ref 382] h_15 i_205_38 rfl ?_
        refine wp_s 40 [some (.ref 382), some (.int x1), some (.int x2), some (.int x3)] [.int x3, .int x2, .int x1, .int (z_13.2.1 21), .ref 382] h_15 i_205_39 rfl ?_
        obtain ⟨z_19, q_20, hd⟩ := dk_bind hd
        refine wp_callV 43 rfl i_205_40 (by decide) rfl (vs := [.int (z_13.2.1 21), .int x1, .int x2, .int x3]) (rest := []) rfl rfl rfl (H_16.1 0 (by decide)) (y := m_198) rfl (Nat.le_of_ble_eq_true rfl) (d_198_ok (d := e) (by omega) H_16.1 q_20) ?_
        rintro v_23 h_21 ⟨rfl, H_22⟩
        have H_22 := H_16.tr H_22
        refine wp_s 47 [some (.ref 382), some (.int x1), some (.int x2), some (.int x3)] [.int z_19.1] h_21 i_205_43 rfl ?_
        obtain rfl := Option.some.inj hd
        exact wp_iret i_205_47 ⟨rfl, H_22⟩
def l_206 (g n tag : Nat) (x1 : Int32) (x2 : Int32) (x3 : Int32) (S : rS) : Option (rS) := match n with
  | 0 => none
  | n + 1 => if tag = 0 then (if x2 ≤ x3 then some S else (if aIn (x1 + x3) 181 = true then (if aIn x3 5 = true then (l_206 g n 0 x1 x2 (x3 + (1 : Int32)) (rA S 23 (upd (S.2.1 23) x3.toNatClampNeg ((S.2.1 20) (x1 + x3).toNatClampNeg)))) else none) else none)) else none
set_option maxHeartbeats 4000000 in
set_option maxRecDepth 100000 in
theorem l_206_ok {X : aX} {g d : Nat} (hdp : 0 ≤ d) : ∀ n, (∀ (x1 : Int32) (x2 : Int32) (x3 : Int32) (S : rS) (h0 : aH) (zz : rS), rm h0 S → l_206 g n 0 x1 x2 x3 S = some zz → aWp X d 206 7 [some (.ref 382), some (.int x1), some (.int x2), some (.int x3)] [] h0 (fun w h' => w = none ∧ rTo h0 zz h')) := by
  intro n
  induction n with
  | zero => exact fun _ _ _ _ _ _ _ hd => by simp [l_206] at hd
  | succ n ih =>
    intro x1 x2 x3 S h0 zz HS hd
    unfold l_206 at hd
    rw [if_pos rfl] at hd
    have HH := rTo.rf HS
    refine wp_s 8 [some (.ref 382), some (.int x1), some (.int x2), some (.int x3)] [.int x3] h0 i_206_7 rfl ?_
    refine wp_s 9 [some (.ref 382), some (.int x1), some (.int x2), some (.int x3)] [.int x2, .int x3] h0 i_206_8 rfl ?_
    refine wp_cmp_ge 32 12 rfl rfl i_206_9 (fun c_1 => ?_) (fun c_1 => ?_)
    · rw [if_pos c_1] at hd
      obtain rfl := Option.some.inj hd
      exact wp_ret i_206_32 rfl ⟨rfl, HH⟩
    · rw [if_neg c_1] at hd
      refine wp_s 13 [some (.ref 382), some (.int x1), some (.int x2), some (.int x3)] [.ref 382] h0 i_206_12 rfl ?_
      refine wp_get (v := .ref 393) 16 rfl i_206_13 (HH.1 0 (by decide)) rfl ?_
      refine wp_s 17 [some (.ref 382), some (.int x1), some (.int x2), some (.int x3)] [.int x3, .ref 393] h0 i_206_16 rfl ?_
      refine wp_s 18 [some (.ref 382), some (.int x1), some (.int x2), some (.int x3)] [.ref 382, .int x3, .ref 393] h0 i_206_17 rfl ?_
      refine wp_get (v := .ref 392) 21 rfl i_206_18 (HH.1 0 (by decide)) rfl ?_
      refine wp_s 22 [some (.ref 382), some (.int x1), some (.int x2), some (.int x3)] [.int x1, .ref 392, .int x3, .ref 393] h0 i_206_21 rfl ?_
      refine wp_s 23 [some (.ref 382), some (.int x1), some (.int x2), some (.int x3)] [.int x3, .int x1, .ref 392, .int x3, .ref 393] h0 i_206_22 rfl ?_
      refine wp_s 24 [some (.ref 382), some (.int x1), some (.int x2), some (.int x3)] [.int (x1 + x3), .ref 392, .int x3, .ref 393] h0 i_206_23 rfl ?_
      obtain ⟨b_2, hd⟩ := dk_if hd
      refine wp_iald (f := (S.2.1 20)) 25 rfl i_206_24 (HH.1 10 (by decide)) b_2 ?_
      obtain ⟨b_3, hd⟩ := dk_if hd
      refine rq_A23 26 rfl i_206_25 HH b_3 (fun h_4 H_5 => ?_)
      refine wp_s 29 [some (.ref 382), some (.int x1), some (.int x2), some (.int (x3 + (1 : Int32)))] [] h_4 i_206_26 rfl ?_
      refine wp_s 7 [some (.ref 382), some (.int x1), some (.int x2), some (.int (x3 + (1 : Int32)))] [] h_4 i_206_29 rfl ?_
      exact aWp.post (aWp.forget (ih _ _ _ _ _ _ H_5.1 hd) ((lvS (lvS (lvS (lvS lvE)))))) (fun _ _ hq => ⟨hq.1, H_5.tr hq.2⟩)
def d_206 (g : Nat) (x1 : Int32) (x2 : Int32) (S : rS) : Option (rS) := (l_206 g g 0 x1 x2 (0 : Int32) (rF S 24 x2))
set_option maxHeartbeats 4000000 in
set_option maxRecDepth 100000 in
theorem d_206_ok {X : aX} {g d : Nat} {x1 : Int32} {x2 : Int32} {S : rS} {h0 : aH} {zz : rS} (hdp : 0 ≤ d) (HS : rm h0 S) (hd : d_206 g x1 x2 S = some zz) : aWp X d 206 0 (aEntL [.ref 382, .int x1, .int x2] 4) [] h0 (fun w h' => w = none ∧ rTo h0 zz h') := by
  unfold d_206 at hd
  have HH := rTo.rf HS
  refine wp_lv (l2 := [some (.ref 382), some (.int x1), some (.int x2), none]) rfl ?_
  refine wp_s 1 [some (.ref 382), some (.int x1), some (.int x2), none] [.ref 382] h0 i_206_0 rfl ?_
  refine wp_s 2 [some (.ref 382), some (.int x1), some (.int x2), none] [.int x2, .ref 382] h0 i_206_1 rfl ?_
  refine rq_F24 5 rfl i_206_2 HH (fun h_1001 H_1002 => ?_)
  refine wp_s 6 [some (.ref 382), some (.int x1), some (.int x2), none] [.int (0 : Int32)] h_1001 i_206_5 rfl ?_
  refine wp_s 7 [some (.ref 382), some (.int x1), some (.int x2), some (.int (0 : Int32))] [] h_1001 i_206_6 rfl ?_
  exact aWp.post (aWp.forget ((l_206_ok hdp g) _ _ _ _ _ _ H_1002.1 hd) ((lvS (lvS (lvS (lvS lvE)))))) (fun _ _ hq => ⟨hq.1, H_1002.tr hq.2⟩)
def l_207 (g n tag : Nat) (x1 : Int32) (x2 : Int32) (x3 : Int32) (x4 : Int32) (x5 : Int32) (x6 : Int32) (x7 : Int32) (s0 : Int32) (S : rS) : Option (Int32 × rS) := match n with
  | 0 => none
  | n + 1 => if tag = 0 then (if (S.1 24) ≤ x5 then (if x2 ≤ x3 then (l_207 g n 3 x1 x2 x3 x4 x5 0 0 0 S) else (if ¬ x4 = 0 then (l_207 g n 3 x1 x2 x3 x4 x5 0 0 0 S) else (if aIn (4 : Int32) 181 = true then (l_207 g n 4 x1 x2 x3 x4 x5 0 0 ((S.2.1 20) (4 : Int32).toNatClampNeg) S) else none))) else (if aIn x5 5 = true then ((d_194 g ((S.2.1 23) x5.toNatClampNeg) (2 : Int32) S).bind (fun z_6 => (if z_6.1 ≤ x3 then ((d_194 g ((S.2.1 23) x5.toNatClampNeg) (1 : Int32) z_6.2).bind (fun z_12 => ((d_194 g ((S.2.1 23) x5.toNatClampNeg) (0 : Int32) z_12.2).bind (fun z_17 => (if ¬ z_17.1 = 0 then ((d_194 g ((S.2.1 23) x5.toNatClampNeg) (0 : Int32) z_17.2).bind (fun z_23 => (if ¬ z_23.1 = (1 : Int32) then (l_207 g n 2 x1 x2 x3 (1 : Int32) x5 ((S.2.1 23) x5.toNatClampNeg) 0 0 z_23.2) else (if z_12.1 ≤ x3 then (l_207 g n 1 x1 x2 x3 x4 x5 ((S.2.1 23) x5.toNatClampNeg) z_12.1 (x3 - z_12.1) z_23.2) else (l_207 g n 1 x1 x2 x3 x4 x5 ((S.2.1 23) x5.toNatClampNeg) z_12.1 (0 : Int32) z_23.2))))) else (if ¬ (100 : Int32) = 0 then (l_207 g n 2 x1 x2 (x3 - ((x3 * z_12.1) / (100 : Int32))) x4 x5 ((S.2.1 23) x5.toNatClampNeg) 0 0 z_17.2) else none)))))) else (l_207 g n 2 x1 x2 x3 x4 x5 ((S.2.1 23) x5.toNatClampNeg) 0 0 z_6.2)))) else none)) else if tag = 1 then (l_207 g n 2 x1 x2 s0 x4 x5 x6 0 0 S) else if tag = 2 then (l_207 g n 0 x1 x2 x3 x4 (x5 + (1 : Int32)) 0 0 0 S) else if tag = 3 then (l_207 g n 4 x1 x2 x3 x4 x5 0 0 (0 : Int32) S) else if tag = 4 then some ((x3 + s0), (rF S 25 s0)) else none
set_option maxHeartbeats 4000000 in
set_option maxRecDepth 100000 in
theorem l_207_ok {X : aX} {g d : Nat} (hdp : 1 ≤ d) : ∀ n, (∀ (x1 : Int32) (x2 : Int32) (x3 : Int32) (x4 : Int32) (x5 : Int32) (x6 : Int32) (x7 : Int32) (s0 : Int32) (S : rS) (h0 : aH) (zz : Int32 × rS), rm h0 S → l_207 g n 0 x1 x2 x3 x4 x5 x6 x7 s0 S = some zz → aWp X d 207 8 [some (.ref 382), some (.int x1), some (.int x2), some (.int x3), some (.int x4), some (.int x5), none, none] [] h0 (fun w h' => w = some (.int zz.1) ∧ rTo h0 zz.2 h')) ∧ (∀ (x1 : Int32) (x2 : Int32) (x3 : Int32) (x4 : Int32) (x5 : Int32) (x6 : Int32) (x7 : Int32) (s0 : Int32) (S : rS) (h0 : aH) (zz : Int32 × rS), rm h0 S → l_207 g n 1 x1 x2 x3 x4 x5 x6 x7 s0 S = some zz → aWp X d 207 97 [some (.ref 382), some (.int x1), some (.int x2), some (.int x3), some (.int x4), some (.int x5), some (.int x6), some (.int x7)] [.int s0] h0 (fun w h' => w = some (.int zz.1) ∧ rTo h0 zz.2 h')) ∧ (∀ (x1 : Int32) (x2 : Int32) (x3 : Int32) (x4 : Int32) (x5 : Int32) (x6 : Int32) (x7 : Int32) (s0 : Int32) (S : rS) (h0 : aH) (zz : Int32 × rS), rm h0 S → l_207 g n 2 x1 x2 x3 x4 x5 x6 x7 s0 S = some zz → aWp X d 207 104 [some (.ref 382), some (.int x1), some (.int x2), some (.int x3), some (.int x4), some (.int x5), some (.int x6), none] [] h0 (fun w h' => w = some (.int zz.1) ∧ rTo h0 zz.2 h')) ∧ (∀ (x1 : Int32) (x2 : Int32) (x3 : Int32) (x4 : Int32) (x5 : Int32) (x6 : Int32) (x7 : Int32) (s0 : Int32) (S : rS) (h0 : aH) (zz : Int32 × rS), rm h0 S → l_207 g n 3 x1 x2 x3 x4 x5 x6 x7 s0 S = some zz → aWp X d 207 130 [some (.ref 382), some (.int x1), some (.int x2), some (.int x3), some (.int x4), some (.int x5), none, none] [.ref 382] h0 (fun w h' => w = some (.int zz.1) ∧ rTo h0 zz.2 h')) ∧ (∀ (x1 : Int32) (x2 : Int32) (x3 : Int32) (x4 : Int32) (x5 : Int32) (x6 : Int32) (x7 : Int32) (s0 : Int32) (S : rS) (h0 : aH) (zz : Int32 × rS), rm h0 S → l_207 g n 4 x1 x2 x3 x4 x5 x6 x7 s0 S = some zz → aWp X d 207 131 [some (.ref 382), some (.int x1), some (.int x2), some (.int x3), some (.int x4), some (.int x5), none, none] [.int s0, .ref 382] h0 (fun w h' => w = some (.int zz.1) ∧ rTo h0 zz.2 h')) := by
  intro n
  induction n with
  | zero => exact ⟨fun _ _ _ _ _ _ _ _ _ _ _ _ hd => by simp [l_207] at hd, fun _ _ _ _ _ _ _ _ _ _ _ _ hd => by simp [l_207] at hd, fun _ _ _ _ _ _ _ _ _ _ _ _ hd => by simp [l_207] at hd, fun _ _ _ _ _ _ _ _ _ _ _ _ hd => by simp [l_207] at hd, fun _ _ _ _ _ _ _ _ _ _ _ _ hd => by simp [l_207] at hd⟩
  | succ n ih =>
    refine ⟨?_, ?_, ?_, ?_, ?_⟩
    · intro x1 x2 x3 x4 x5 x6 x7 s0 S h0 zz HS hd
      unfold l_207 at hd
      rw [if_pos rfl] at hd
      have HH := rTo.rf HS
      obtain ⟨e, rfl⟩ : ∃ e, d = e + 1 := ⟨d - 1, by omega⟩
      refine wp_s 10 [some (.ref 382), some (.int x1), some (.int x2), some (.int x3), some (.int x4), some (.int x5), none, none] [.int x5] h0 i_207_8 rfl ?_
      refine wp_s 11 [some (.ref 382), some (.int x1), some (.int x2), some (.int x3), some (.int x4), some (.int x5), none, none] [.ref 382, .int x5] h0 i_207_10 rfl ?_
      refine wp_get (v := .int (S.1 24)) 14 rfl i_207_11 (HH.1 0 (by decide)) rfl ?_
      refine wp_cmp_ge 110 17 rfl rfl i_207_14 (fun c_1 => ?_) (fun c_1 => ?_)
      · rw [if_pos c_1] at hd
        refine wp_s 111 [some (.ref 382), some (.int x1), some (.int x2), some (.int x3), some (.int x4), some (.int x5), none, none] [.ref 382] h0 i_207_110 rfl ?_
        refine wp_s 112 [some (.ref 382), some (.int x1), some (.int x2), some (.int x3), some (.int x4), some (.int x5), none, none] [.int x3, .ref 382] h0 i_207_111 rfl ?_
        refine wp_s 113 [some (.ref 382), some (.int x1), some (.int x2), some (.int x3), some (.int x4), some (.int x5), none, none] [.int x2, .int x3, .ref 382] h0 i_207_112 rfl ?_
        refine wp_cmp_ge 130 116 rfl rfl i_207_113 (fun c_2 => ?_) (fun c_2 => ?_)
        · rw [if_pos c_2] at hd
          exact aWp.post (aWp.forget (ih.2.2.2.1 _ _ _ _ _ _ _ _ _ _ _ HH.1 hd) ((lvS (lvS (lvS (lvS (lvS (lvS (lvN (lvN lvE)))))))))) (fun _ _ hq => ⟨hq.1, HH.tr hq.2⟩)
        · rw [if_neg c_2] at hd
          refine wp_s 118 [some (.ref 382), some (.int x1), some (.int x2), some (.int x3), some (.int x4), some (.int x5), none, none] [.int x4, .ref 382] h0 i_207_116 rfl ?_
          refine wp_if_ne 130 121 rfl rfl i_207_118 (fun c_3 => ?_) (fun c_3 => ?_)
          · rw [if_pos c_3] at hd
            exact aWp.post (aWp.forget (ih.2.2.2.1 _ _ _ _ _ _ _ _ _ _ _ HH.1 hd) ((lvS (lvS (lvS (lvS (lvS (lvS (lvN (lvN lvE)))))))))) (fun _ _ hq => ⟨hq.1, HH.tr hq.2⟩)
          · rw [if_neg c_3] at hd
            refine wp_s 122 [some (.ref 382), some (.int x1), some (.int x2), some (.int x3), some (.int x4), some (.int x5), none, none] [.ref 382, .ref 382] h0 i_207_121 rfl ?_
            refine wp_get (v := .ref 392) 125 rfl i_207_122 (HH.1 0 (by decide)) rfl ?_
            refine wp_s 126 [some (.ref 382), some (.int x1), some (.int x2), some (.int x3), some (.int x4), some (.int x5), none, none] [.int (4 : Int32), .ref 392, .ref 382] h0 i_207_125 rfl ?_
            obtain ⟨b_4, hd⟩ := dk_if hd
            refine wp_iald (f := (S.2.1 20)) 127 rfl i_207_126 (HH.1 10 (by decide)) b_4 ?_
            refine wp_s 131 [some (.ref 382), some (.int x1), some (.int x2), some (.int x3), some (.int x4), some (.int x5), none, none] [.int ((S.2.1 20) (4 : Int32).toNatClampNeg), .ref 382] h0 i_207_127 rfl ?_
            exact aWp.post (aWp.forget (ih.2.2.2.2 _ _ _ _ _ _ _ _ _ _ _ HH.1 hd) ((lvS (lvS (lvS (lvS (lvS (lvS (lvN (lvN lvE)))))))))) (fun _ _ hq => ⟨hq.1, HH.tr hq.2⟩)
      · rw [if_neg c_1] at hd
        refine wp_s 18 [some (.ref 382), some (.int x1), some (.int x2), some (.int x3), some (.int x4), some (.int x5), none, none] [.ref 382] h0 i_207_17 rfl ?_
        refine wp_get (v := .ref 393) 21 rfl i_207_18 (HH.1 0 (by decide)) rfl ?_
        refine wp_s 23 [some (.ref 382), some (.int x1), some (.int x2), some (.int x3), some (.int x4), some (.int x5), none, none] [.int x5, .ref 393] h0 i_207_21 rfl ?_
        obtain ⟨b_5, hd⟩ := dk_if hd
        refine wp_iald (f := (S.2.1 23)) 24 rfl i_207_23 (HH.1 11 (by decide)) b_5 ?_
        refine wp_s 26 [some (.ref 382), some (.int x1), some (.int x2), some (.int x3), some (.int x4), some (.int x5), some (.int ((S.2.1 23) x5.toNatClampNeg)), none] [] h0 i_207_24 rfl ?_
        refine wp_s 27 [some (.ref 382), some (.int x1), some (.int x2), some (.int x3), some (.int x4), some (.int x5), some (.int ((S.2.1 23) x5.toNatClampNeg)), none] [.int x3] h0 i_207_26 rfl ?_
        refine wp_s 28 [some (.ref 382), some (.int x1), some (.int x2), some (.int x3), some (.int x4), some (.int x5), some (.int ((S.2.1 23) x5.toNatClampNeg)), none] [.ref 382, .int x3] h0 i_207_27 rfl ?_
        refine wp_s 30 [some (.ref 382), some (.int x1), some (.int x2), some (.int x3), some (.int x4), some (.int x5), some (.int ((S.2.1 23) x5.toNatClampNeg)), none] [.int ((S.2.1 23) x5.toNatClampNeg), .ref 382, .int x3] h0 i_207_28 rfl ?_
        refine wp_s 31 [some (.ref 382), some (.int x1), some (.int x2), some (.int x3), some (.int x4), some (.int x5), some (.int ((S.2.1 23) x5.toNatClampNeg)), none] [.int (2 : Int32), .int ((S.2.1 23) x5.toNatClampNeg), .ref 382, .int x3] h0 i_207_30 rfl ?_
        obtain ⟨z_6, q_7, hd⟩ := dk_bind hd
        refine wp_callV 34 rfl i_207_31 (by decide) rfl (vs := [.int ((S.2.1 23) x5.toNatClampNeg), .int (2 : Int32)]) (rest := [.int x3]) rfl rfl rfl (HH.1 0 (by decide)) (y := m_194) rfl (Nat.le_of_ble_eq_true rfl) (d_194_ok (d := e) (by omega) HH.1 q_7) ?_
        rintro v_10 h_8 ⟨rfl, H_9⟩
        have H_9 := HH.tr H_9
        refine wp_cmp_ge 40 37 rfl rfl i_207_34 (fun c_11 => ?_) (fun c_11 => ?_)
        · rw [if_pos c_11] at hd
          refine wp_s 41 [some (.ref 382), some (.int x1), some (.int x2), some (.int x3), some (.int x4), some (.int x5), some (.int ((S.2.1 23) x5.toNatClampNeg)), none] [.ref 382] h_8 i_207_40 rfl ?_
          refine wp_s 43 [some (.ref 382), some (.int x1), some (.int x2), some (.int x3), some (.int x4), some (.int x5), some (.int ((S.2.1 23) x5.toNatClampNeg)), none] [.int ((S.2.1 23) x5.toNatClampNeg), .ref 382] h_8 i_207_41 rfl ?_
          refine wp_s 44 [some (.ref 382), some (.int x1), some (.int x2), some (.int x3), some (.int x4), some (.int x5), some (.int ((S.2.1 23) x5.toNatClampNeg)), none] [.int (1 : Int32), .int ((S.2.1 23) x5.toNatClampNeg), .ref 382] h_8 i_207_43 rfl ?_
          obtain ⟨z_12, q_13, hd⟩ := dk_bind hd
          refine wp_callV 47 rfl i_207_44 (by decide) rfl (vs := [.int ((S.2.1 23) x5.toNatClampNeg), .int (1 : Int32)]) (rest := []) rfl rfl rfl (H_9.1 0 (by decide)) (y := m_194) rfl (Nat.le_of_ble_eq_true rfl) (d_194_ok (d := e) (by omega) H_9.1 q_13) ?_
          rintro v_16 h_14 ⟨rfl, H_15⟩
          have H_15 := H_9.tr H_15
          refine wp_s 49 [some (.ref 382), some (.int x1), some (.int x2), some (.int x3), some (.int x4), some (.int x5), some (.int ((S.2.1 23) x5.toNatClampNeg)), some (.int z_12.1)] [] h_14 i_207_47 rfl ?_
          refine wp_s 50 [some (.ref 382), some (.int x1), some (.int x2), some (.int x3), some (.int x4), some (.int x5), some (.int ((S.2.1 23) x5.toNatClampNeg)), some (.int z_12.1)] [.ref 382] h_14 i_207_49 rfl ?_
          refine wp_s 52 [some (.ref 382), some (.int x1), some (.int x2), some (.int x3), some (.int x4), some (.int x5), some (.int ((S.2.1 23) x5.toNatClampNeg)), some (.int z_12.1)] [.int ((S.2.1 23) x5.toNatClampNeg), .ref 382] h_14 i_207_50 rfl ?_
          refine wp_s 53 [some (.ref 382), some (.int x1), some (.int x2), some (.int x3), some (.int x4), some (.int x5), some (.int ((S.2.1 23) x5.toNatClampNeg)), some (.int z_12.1)] [.int (0 : Int32), .int ((S.2.1 23) x5.toNatClampNeg), .ref 382] h_14 i_207_52 rfl ?_
          obtain ⟨z_17, q_18, hd⟩ := dk_bind hd
          refine wp_callV 56 rfl i_207_53 (by decide) rfl (vs := [.int ((S.2.1 23) x5.toNatClampNeg), .int (0 : Int32)]) (rest := []) rfl rfl rfl (H_15.1 0 (by decide)) (y := m_194) rfl (Nat.le_of_ble_eq_true rfl) (d_194_ok (d := e) (by omega) H_15.1 q_18) ?_
          rintro v_21 h_19 ⟨rfl, H_20⟩
          have H_20 := H_15.tr H_20
          refine wp_if_ne 72 59 rfl rfl i_207_56 (fun c_22 => ?_) (fun c_22 => ?_)
          · rw [if_pos c_22] at hd
            refine wp_s 73 [some (.ref 382), some (.int x1), some (.int x2), some (.int x3), some (.int x4), some (.int x5), some (.int ((S.2.1 23) x5.toNatClampNeg)), some (.int z_12.1)] [.ref 382] h_19 i_207_72 rfl ?_
            refine wp_s 75 [some (.ref 382), some (.int x1), some (.int x2), some (.int x3), some (.int x4), some (.int x5), some (.int ((S.2.1 23) x5.toNatClampNeg)), some (.int z_12.1)] [.int ((S.2.1 23) x5.toNatClampNeg), .ref 382] h_19 i_207_73 rfl ?_
            refine wp_s 76 [some (.ref 382), some (.int x1), some (.int x2), some (.int x3), some (.int x4), some (.int x5), some (.int ((S.2.1 23) x5.toNatClampNeg)), some (.int z_12.1)] [.int (0 : Int32), .int ((S.2.1 23) x5.toNatClampNeg), .ref 382] h_19 i_207_75 rfl ?_
            obtain ⟨z_23, q_24, hd⟩ := dk_bind hd
            refine wp_callV 79 rfl i_207_76 (by decide) rfl (vs := [.int ((S.2.1 23) x5.toNatClampNeg), .int (0 : Int32)]) (rest := []) rfl rfl rfl (H_20.1 0 (by decide)) (y := m_194) rfl (Nat.le_of_ble_eq_true rfl) (d_194_ok (d := e) (by omega) H_20.1 q_24) ?_
            rintro v_27 h_25 ⟨rfl, H_26⟩
            have H_26 := H_20.tr H_26
            refine wp_s 80 [some (.ref 382), some (.int x1), some (.int x2), some (.int x3), some (.int x4), some (.int x5), some (.int ((S.2.1 23) x5.toNatClampNeg)), some (.int z_12.1)] [.int (1 : Int32), .int z_23.1] h_25 i_207_79 rfl ?_
            refine wp_cmp_ne 101 83 rfl rfl i_207_80 (fun c_28 => ?_) (fun c_28 => ?_)
            · rw [if_pos c_28] at hd
              refine wp_s 102 [some (.ref 382), some (.int x1), some (.int x2), some (.int x3), some (.int x4), some (.int x5), some (.int ((S.2.1 23) x5.toNatClampNeg)), some (.int z_12.1)] [.int (1 : Int32)] h_25 i_207_101 rfl ?_
              refine wp_s 104 [some (.ref 382), some (.int x1), some (.int x2), some (.int x3), some (.int (1 : Int32)), some (.int x5), some (.int ((S.2.1 23) x5.toNatClampNeg)), some (.int z_12.1)] [] h_25 i_207_102 rfl ?_
              exact aWp.post (aWp.forget (ih.2.2.1 _ _ _ _ _ _ _ _ _ _ _ H_26.1 hd) ((lvS (lvS (lvS (lvS (lvS (lvS (lvS (lvN lvE)))))))))) (fun _ _ hq => ⟨hq.1, H_26.tr hq.2⟩)
            · rw [if_neg c_28] at hd
              refine wp_s 84 [some (.ref 382), some (.int x1), some (.int x2), some (.int x3), some (.int x4), some (.int x5), some (.int ((S.2.1 23) x5.toNatClampNeg)), some (.int z_12.1)] [.int x3] h_25 i_207_83 rfl ?_
              refine wp_s 86 [some (.ref 382), some (.int x1), some (.int x2), some (.int x3), some (.int x4), some (.int x5), some (.int ((S.2.1 23) x5.toNatClampNeg)), some (.int z_12.1)] [.int z_12.1, .int x3] h_25 i_207_84 rfl ?_
              refine wp_cmp_ge 93 89 rfl rfl i_207_86 (fun c_29 => ?_) (fun c_29 => ?_)
              · rw [if_pos c_29] at hd
                refine wp_s 94 [some (.ref 382), some (.int x1), some (.int x2), some (.int x3), some (.int x4), some (.int x5), some (.int ((S.2.1 23) x5.toNatClampNeg)), some (.int z_12.1)] [.int x3] h_25 i_207_93 rfl ?_
                refine wp_s 96 [some (.ref 382), some (.int x1), some (.int x2), some (.int x3), some (.int x4), some (.int x5), some (.int ((S.2.1 23) x5.toNatClampNeg)), some (.int z_12.1)] [.int z_12.1, .int x3] h_25 i_207_94 rfl ?_
                refine wp_s 97 [some (.ref 382), some (.int x1), some (.int x2), some (.int x3), some (.int x4), some (.int x5), some (.int ((S.2.1 23) x5.toNatClampNeg)), some (.int z_12.1)] [.int (x3 - z_12.1)] h_25 i_207_96 rfl ?_
                exact aWp.post (aWp.forget (ih.2.1 _ _ _ _ _ _ _ _ _ _ _ H_26.1 hd) ((lvS (lvS (lvS (lvS (lvS (lvS (lvS (lvS lvE)))))))))) (fun _ _ hq => ⟨hq.1, H_26.tr hq.2⟩)
              · rw [if_neg c_29] at hd
                refine wp_s 90 [some (.ref 382), some (.int x1), some (.int x2), some (.int x3), some (.int x4), some (.int x5), some (.int ((S.2.1 23) x5.toNatClampNeg)), some (.int z_12.1)] [.int (0 : Int32)] h_25 i_207_89 rfl ?_
                refine wp_s 97 [some (.ref 382), some (.int x1), some (.int x2), some (.int x3), some (.int x4), some (.int x5), some (.int ((S.2.1 23) x5.toNatClampNeg)), some (.int z_12.1)] [.int (0 : Int32)] h_25 i_207_90 rfl ?_
                exact aWp.post (aWp.forget (ih.2.1 _ _ _ _ _ _ _ _ _ _ _ H_26.1 hd) ((lvS (lvS (lvS (lvS (lvS (lvS (lvS (lvS lvE)))))))))) (fun _ _ hq => ⟨hq.1, H_26.tr hq.2⟩)
          · rw [if_neg c_22] at hd
            refine wp_s 60 [some (.ref 382), some (.int x1), some (.int x2), some (.int x3), some (.int x4), some (.int x5), some (.int ((S.2.1 23) x5.toNatClampNeg)), some (.int z_12.1)] [.int x3] h_19 i_207_59 rfl ?_
            refine wp_s 61 [some (.ref 382), some (.int x1), some (.int x2), some (.int x3), some (.int x4), some (.int x5), some (.int ((S.2.1 23) x5.toNatClampNeg)), some (.int z_12.1)] [.int x3, .int x3] h_19 i_207_60 rfl ?_
            refine wp_s 63 [some (.ref 382), some (.int x1), some (.int x2), some (.int x3), some (.int x4), some (.int x5), some (.int ((S.2.1 23) x5.toNatClampNeg)), some (.int z_12.1)] [.int z_12.1, .int x3, .int x3] h_19 i_207_61 rfl ?_
            refine wp_s 64 [some (.ref 382), some (.int x1), some (.int x2), some (.int x3), some (.int x4), some (.int x5), some (.int ((S.2.1 23) x5.toNatClampNeg)), some (.int z_12.1)] [.int (x3 * z_12.1), .int x3] h_19 i_207_63 rfl ?_
            refine wp_s 66 [some (.ref 382), some (.int x1), some (.int x2), some (.int x3), some (.int x4), some (.int x5), some (.int ((S.2.1 23) x5.toNatClampNeg)), some (.int z_12.1)] [.int (100 : Int32), .int (x3 * z_12.1), .int x3] h_19 i_207_64 rfl ?_
            obtain ⟨b_30, hd⟩ := dk_if hd
            refine wp_idiv 67 rfl i_207_66 b_30 ?_
            refine wp_s 68 [some (.ref 382), some (.int x1), some (.int x2), some (.int x3), some (.int x4), some (.int x5), some (.int ((S.2.1 23) x5.toNatClampNeg)), some (.int z_12.1)] [.int (x3 - ((x3 * z_12.1) / (100 : Int32)))] h_19 i_207_67 rfl ?_
            refine wp_s 69 [some (.ref 382), some (.int x1), some (.int x2), some (.int (x3 - ((x3 * z_12.1) / (100 : Int32)))), some (.int x4), some (.int x5), some (.int ((S.2.1 23) x5.toNatClampNeg)), some (.int z_12.1)] [] h_19 i_207_68 rfl ?_
            refine wp_s 104 [some (.ref 382), some (.int x1), some (.int x2), some (.int (x3 - ((x3 * z_12.1) / (100 : Int32)))), some (.int x4), some (.int x5), some (.int ((S.2.1 23) x5.toNatClampNeg)), some (.int z_12.1)] [] h_19 i_207_69 rfl ?_
            exact aWp.post (aWp.forget (ih.2.2.1 _ _ _ _ _ _ _ _ _ _ _ H_20.1 hd) ((lvS (lvS (lvS (lvS (lvS (lvS (lvS (lvN lvE)))))))))) (fun _ _ hq => ⟨hq.1, H_20.tr hq.2⟩)
        · rw [if_neg c_11] at hd
          refine wp_s 104 [some (.ref 382), some (.int x1), some (.int x2), some (.int x3), some (.int x4), some (.int x5), some (.int ((S.2.1 23) x5.toNatClampNeg)), none] [] h_8 i_207_37 rfl ?_
          exact aWp.post (aWp.forget (ih.2.2.1 _ _ _ _ _ _ _ _ _ _ _ H_9.1 hd) ((lvS (lvS (lvS (lvS (lvS (lvS (lvS (lvN lvE)))))))))) (fun _ _ hq => ⟨hq.1, H_9.tr hq.2⟩)
    · intro x1 x2 x3 x4 x5 x6 x7 s0 S h0 zz HS hd
      unfold l_207 at hd
      rw [if_neg (by decide), if_pos rfl] at hd
      have HH := rTo.rf HS
      obtain ⟨e, rfl⟩ : ∃ e, d = e + 1 := ⟨d - 1, by omega⟩
      refine wp_s 98 [some (.ref 382), some (.int x1), some (.int x2), some (.int s0), some (.int x4), some (.int x5), some (.int x6), some (.int x7)] [] h0 i_207_97 rfl ?_
      refine wp_s 104 [some (.ref 382), some (.int x1), some (.int x2), some (.int s0), some (.int x4), some (.int x5), some (.int x6), some (.int x7)] [] h0 i_207_98 rfl ?_
      exact aWp.post (aWp.forget (ih.2.2.1 _ _ _ _ _ _ _ _ _ _ _ HH.1 hd) ((lvS (lvS (lvS (lvS (lvS (lvS (lvS (lvN lvE)))))))))) (fun _ _ hq => ⟨hq.1, HH.tr hq.2⟩)
    · intro x1 x2 x3 x4 x5 x6 x7 s0 S h0 zz HS hd
      unfold l_207 at hd
      rw [if_neg (by decide), if_neg (by decide), if_pos rfl] at hd
      have HH := rTo.rf HS
      obtain ⟨e, rfl⟩ : ∃ e, d = e + 1 := ⟨d - 1, by omega⟩
      refine wp_s 107 [some (.ref 382), some (.int x1), some (.int x2), some (.int x3), some (.int x4), some (.int (x5 + (1 : Int32))), some (.int x6), none] [] h0 i_207_104 rfl ?_
      refine wp_s 8 [some (.ref 382), some (.int x1), some (.int x2), some (.int x3), some (.int x4), some (.int (x5 + (1 : Int32))), some (.int x6), none] [] h0 i_207_107 rfl ?_
      exact aWp.post (aWp.forget (ih.1 _ _ _ _ _ _ _ _ _ _ _ HH.1 hd) ((lvS (lvS (lvS (lvS (lvS (lvS (lvN (lvN lvE)))))))))) (fun _ _ hq => ⟨hq.1, HH.tr hq.2⟩)
    · intro x1 x2 x3 x4 x5 x6 x7 s0 S h0 zz HS hd
      unfold l_207 at hd
      rw [if_neg (by decide), if_neg (by decide), if_neg (by decide), if_pos rfl] at hd
      have HH := rTo.rf HS
      obtain ⟨e, rfl⟩ : ∃ e, d = e + 1 := ⟨d - 1, by omega⟩
      refine wp_s 131 [some (.ref 382), some (.int x1), some (.int x2), some (.int x3), some (.int x4), some (.int x5), none, none] [.int (0 : Int32), .ref 382] h0 i_207_130 rfl ?_
      exact aWp.post (aWp.forget (ih.2.2.2.2 _ _ _ _ _ _ _ _ _ _ _ HH.1 hd) ((lvS (lvS (lvS (lvS (lvS (lvS (lvN (lvN lvE)))))))))) (fun _ _ hq => ⟨hq.1, HH.tr hq.2⟩)
    · intro x1 x2 x3 x4 x5 x6 x7 s0 S h0 zz HS hd
      unfold l_207 at hd
      rw [if_neg (by decide), if_neg (by decide), if_neg (by decide), if_neg (by decide), if_pos rfl] at hd
      have HH := rTo.rf HS
      obtain ⟨e, rfl⟩ : ∃ e, d = e + 1 := ⟨d - 1, by omega⟩
      refine rq_F25 134 rfl i_207_131 HH (fun h_31 H_32 => ?_)
      refine wp_s 135 [some (.ref 382), some (.int x1), some (.int x2), some (.int x3), some (.int x4), some (.int x5), none, none] [.int x3] h_31 i_207_134 rfl ?_
      refine wp_s 136 [some (.ref 382), some (.int x1), some (.int x2), some (.int x3), some (.int x4), some (.int x5), none, none] [.ref 382, .int x3] h_31 i_207_135 rfl ?_
      refine wp_get (v := .int s0) 139 rfl i_207_136 (H_32.1 0 (by decide)) rfl ?_
      refine wp_s 140 [some (.ref 382), some (.int x1), some (.int x2), some (.int x3), some (.int x4), some (.int x5), none, none] [.int (x3 + s0)] h_31 i_207_139 rfl ?_
      obtain rfl := Option.some.inj hd
      exact wp_iret i_207_140 ⟨rfl, H_32⟩
def d_207 (g : Nat) (x1 : Int32) (x2 : Int32) (S : rS) : Option (Int32 × rS) := (l_207 g g 0 x1 x2 x1 (0 : Int32) (0 : Int32) 0 0 0 S)
set_option maxHeartbeats 4000000 in
set_option maxRecDepth 100000 in
theorem d_207_ok {X : aX} {g d : Nat} {x1 : Int32} {x2 : Int32} {S : rS} {h0 : aH} {zz : Int32 × rS} (hdp : 1 ≤ d) (HS : rm h0 S) (hd : d_207 g x1 x2 S = some zz) : aWp X d 207 0 (aEntL [.ref 382, .int x1, .int x2] 8) [] h0 (fun w h' => w = some (.int zz.1) ∧ rTo h0 zz.2 h') := by
  unfold d_207 at hd
  have HH := rTo.rf HS
  refine wp_lv (l2 := [some (.ref 382), some (.int x1), some (.int x2), none, none, none, none, none]) rfl ?_
  obtain ⟨e, rfl⟩ : ∃ e, d = e + 1 := ⟨d - 1, by omega⟩
  refine wp_s 1 [some (.ref 382), some (.int x1), some (.int x2), none, none, none, none, none] [.int x1] h0 i_207_0 rfl ?_
  refine wp_s 2 [some (.ref 382), some (.int x1), some (.int x2), some (.int x1), none, none, none, none] [] h0 i_207_1 rfl ?_
  refine wp_s 3 [some (.ref 382), some (.int x1), some (.int x2), some (.int x1), none, none, none, none] [.int (0 : Int32)] h0 i_207_2 rfl ?_
  refine wp_s 5 [some (.ref 382), some (.int x1), some (.int x2), some (.int x1), some (.int (0 : Int32)), none, none, none] [] h0 i_207_3 rfl ?_
  refine wp_s 6 [some (.ref 382), some (.int x1), some (.int x2), some (.int x1), some (.int (0 : Int32)), none, none, none] [.int (0 : Int32)] h0 i_207_5 rfl ?_
  refine wp_s 8 [some (.ref 382), some (.int x1), some (.int x2), some (.int x1), some (.int (0 : Int32)), some (.int (0 : Int32)), none, none] [] h0 i_207_6 rfl ?_
  exact aWp.post (aWp.forget ((l_207_ok hdp g).1 _ _ _ _ _ _ _ _ _ _ _ HH.1 hd) ((lvS (lvS (lvS (lvS (lvS (lvS (lvN (lvN lvE)))))))))) (fun _ _ hq => ⟨hq.1, HH.tr hq.2⟩)
def d_208 (g : Nat) (x1 : Int32) (S : rS) : Option (Int32 × rS) := (if aIn (5 : Int32) 181 = true then ((d_207 g x1 ((S.2.1 20) (5 : Int32).toNatClampNeg) (rF S 24 (0 : Int32))).bind (fun z_4 => some (z_4.1, z_4.2))) else none)
set_option maxHeartbeats 4000000 in
set_option maxRecDepth 100000 in
theorem d_208_ok {X : aX} {g d : Nat} {x1 : Int32} {S : rS} {h0 : aH} {zz : Int32 × rS} (hdp : 2 ≤ d) (HS : rm h0 S) (hd : d_208 g x1 S = some zz) : aWp X d 208 0 (aEntL [.ref 382, .int x1] 2) [] h0 (fun w h' => w = some (.int zz.1) ∧ rTo h0 zz.2 h') := by
  unfold d_208 at hd
  have HH := rTo.rf HS
  refine wp_lv (l2 := [some (.ref 382), some (.int x1)]) rfl ?_
  obtain ⟨e, rfl⟩ : ∃ e, d = e + 1 := ⟨d - 1, by omega⟩
  refine wp_s 1 [some (.ref 382), some (.int x1)] [.ref 382] h0 i_208_0 rfl ?_
  refine wp_s 2 [some (.ref 382), some (.int x1)] [.int (0 : Int32), .ref 382] h0 i_208_1 rfl ?_
  refine rq_F24 5 rfl i_208_2 HH (fun h_1 H_2 => ?_)
  refine wp_s 6 [some (.ref 382), some (.int x1)] [.ref 382] h_1 i_208_5 rfl ?_
  refine wp_s 7 [some (.ref 382), some (.int x1)] [.int x1, .ref 382] h_1 i_208_6 rfl ?_
  refine wp_s 8 [some (.ref 382), some (.int x1)] [.ref 382, .int x1, .ref 382] h_1 i_208_7 rfl ?_
  refine wp_get (v := .ref 392) 11 rfl i_208_8 (H_2.1 0 (by decide)) rfl ?_
  refine wp_s 12 [some (.ref 382), some (.int x1)] [.int (5 : Int32), .ref 392, .int x1, .ref 382] h_1 i_208_11 rfl ?_
  obtain ⟨b_3, hd⟩ := dk_if hd
  refine wp_iald (f := (S.2.1 20)) 13 rfl i_208_12 (H_2.1 10 (by decide)) b_3 ?_
  obtain ⟨z_4, q_5, hd⟩ := dk_bind hd
  refine wp_callV 16 rfl i_208_13 (by decide) rfl (vs := [.int x1, .int ((S.2.1 20) (5 : Int32).toNatClampNeg)]) (rest := []) rfl rfl rfl (H_2.1 0 (by decide)) (y := m_207) rfl (Nat.le_of_ble_eq_true rfl) (d_207_ok (d := e) (by omega) H_2.1 q_5) ?_
  rintro v_8 h_6 ⟨rfl, H_7⟩
  have H_7 := H_2.tr H_7
  obtain rfl := Option.some.inj hd
  exact wp_iret i_208_16 ⟨rfl, H_7⟩
def l_209 (g n tag : Nat) (x1 : Int32) (x2 : Int32) (S : rS) : Option (Int32 × rS) := match n with
  | 0 => none
  | n + 1 => if tag = 0 then (if aIn (1 : Int32) 181 = true then (if ((S.2.1 20) (1 : Int32).toNatClampNeg) ≤ x2 then some (x1, S) else ((d_191 g x2 (1 : Int32) S).bind (fun z_3 => (l_209 g n 0 (x1 + z_3.1) (x2 + (1 : Int32)) z_3.2)))) else none) else none
set_option maxHeartbeats 4000000 in
set_option maxRecDepth 100000 in
theorem l_209_ok {X : aX} {g d : Nat} (hdp : 1 ≤ d) : ∀ n, (∀ (x1 : Int32) (x2 : Int32) (S : rS) (h0 : aH) (zz : Int32 × rS), rm h0 S → l_209 g n 0 x1 x2 S = some zz → aWp X d 209 4 [some (.ref 382), some (.int x1), some (.int x2)] [] h0 (fun w h' => w = some (.int zz.1) ∧ rTo h0 zz.2 h')) := by
  intro n
  induction n with
  | zero => exact fun _ _ _ _ _ _ hd => by simp [l_209] at hd
  | succ n ih =>
    intro x1 x2 S h0 zz HS hd
    unfold l_209 at hd
    rw [if_pos rfl] at hd
    have HH := rTo.rf HS
    obtain ⟨e, rfl⟩ : ∃ e, d = e + 1 := ⟨d - 1, by omega⟩
    refine wp_s 5 [some (.ref 382), some (.int x1), some (.int x2)] [.int x2] h0 i_209_4 rfl ?_
    refine wp_s 6 [some (.ref 382), some (.int x1), some (.int x2)] [.ref 382, .int x2] h0 i_209_5 rfl ?_
    refine wp_get (v := .ref 392) 9 rfl i_209_6 (HH.1 0 (by decide)) rfl ?_
    refine wp_s 10 [some (.ref 382), some (.int x1), some (.int x2)] [.int (1 : Int32), .ref 392, .int x2] h0 i_209_9 rfl ?_
    obtain ⟨b_1, hd⟩ := dk_if hd
    refine wp_iald (f := (S.2.1 20)) 11 rfl i_209_10 (HH.1 10 (by decide)) b_1 ?_
    refine wp_cmp_ge 29 14 rfl rfl i_209_11 (fun c_2 => ?_) (fun c_2 => ?_)
    · rw [if_pos c_2] at hd
      refine wp_s 30 [some (.ref 382), some (.int x1), some (.int x2)] [.int x1] h0 i_209_29 rfl ?_
      obtain rfl := Option.some.inj hd
      exact wp_iret i_209_30 ⟨rfl, HH⟩
    · rw [if_neg c_2] at hd
      refine wp_s 15 [some (.ref 382), some (.int x1), some (.int x2)] [.int x1] h0 i_209_14 rfl ?_
      refine wp_s 16 [some (.ref 382), some (.int x1), some (.int x2)] [.ref 382, .int x1] h0 i_209_15 rfl ?_
      refine wp_s 17 [some (.ref 382), some (.int x1), some (.int x2)] [.int x2, .ref 382, .int x1] h0 i_209_16 rfl ?_
      refine wp_s 18 [some (.ref 382), some (.int x1), some (.int x2)] [.int (1 : Int32), .int x2, .ref 382, .int x1] h0 i_209_17 rfl ?_
      obtain ⟨z_3, q_4, hd⟩ := dk_bind hd
      refine wp_callV 21 rfl i_209_18 (by decide) rfl (vs := [.int x2, .int (1 : Int32)]) (rest := [.int x1]) rfl rfl rfl (HH.1 0 (by decide)) (y := m_191) rfl (Nat.le_of_ble_eq_true rfl) (d_191_ok (d := e) (by omega) HH.1 q_4) ?_
      rintro v_7 h_5 ⟨rfl, H_6⟩
      have H_6 := HH.tr H_6
      refine wp_s 22 [some (.ref 382), some (.int x1), some (.int x2)] [.int (x1 + z_3.1)] h_5 i_209_21 rfl ?_
      refine wp_s 23 [some (.ref 382), some (.int (x1 + z_3.1)), some (.int x2)] [] h_5 i_209_22 rfl ?_
      refine wp_s 26 [some (.ref 382), some (.int (x1 + z_3.1)), some (.int (x2 + (1 : Int32)))] [] h_5 i_209_23 rfl ?_
      refine wp_s 4 [some (.ref 382), some (.int (x1 + z_3.1)), some (.int (x2 + (1 : Int32)))] [] h_5 i_209_26 rfl ?_
      exact aWp.post (aWp.forget (ih _ _ _ _ _ H_6.1 hd) ((lvS (lvS (lvS lvE))))) (fun _ _ hq => ⟨hq.1, H_6.tr hq.2⟩)
def d_209 (g : Nat)  (S : rS) : Option (Int32 × rS) := (l_209 g g 0 (0 : Int32) (0 : Int32) S)
set_option maxHeartbeats 4000000 in
set_option maxRecDepth 100000 in
theorem d_209_ok {X : aX} {g d : Nat}  {S : rS} {h0 : aH} {zz : Int32 × rS} (hdp : 1 ≤ d) (HS : rm h0 S) (hd : d_209 g  S = some zz) : aWp X d 209 0 (aEntL [.ref 382] 3) [] h0 (fun w h' => w = some (.int zz.1) ∧ rTo h0 zz.2 h') := by
  unfold d_209 at hd
  have HH := rTo.rf HS
  refine wp_lv (l2 := [some (.ref 382), none, none]) rfl ?_
  obtain ⟨e, rfl⟩ : ∃ e, d = e + 1 := ⟨d - 1, by omega⟩
  refine wp_s 1 [some (.ref 382), none, none] [.int (0 : Int32)] h0 i_209_0 rfl ?_
  refine wp_s 2 [some (.ref 382), some (.int (0 : Int32)), none] [] h0 i_209_1 rfl ?_
  refine wp_s 3 [some (.ref 382), some (.int (0 : Int32)), none] [.int (0 : Int32)] h0 i_209_2 rfl ?_
  refine wp_s 4 [some (.ref 382), some (.int (0 : Int32)), some (.int (0 : Int32))] [] h0 i_209_3 rfl ?_
  exact aWp.post (aWp.forget ((l_209_ok hdp g) _ _ _ _ _ HH.1 hd) ((lvS (lvS (lvS lvE))))) (fun _ _ hq => ⟨hq.1, HH.tr hq.2⟩)
def l_210 (g n tag : Nat) (x1 : Int32) (x2 : Int32) (S : rS) : Option (Int32 × rS) := match n with
  | 0 => none
  | n + 1 => if tag = 0 then (if aIn (1 : Int32) 181 = true then (if ((S.2.1 20) (1 : Int32).toNatClampNeg) ≤ x2 then some (x1, S) else ((d_191 g x2 (1 : Int32) S).bind (fun z_3 => ((d_200 g x2 z_3.2).bind (fun z_8 => (l_210 g n 0 (x1 + (z_3.1 * z_8.1)) (x2 + (1 : Int32)) z_8.2)))))) else none) else none
set_option maxHeartbeats 4000000 in
set_option maxRecDepth 100000 in
theorem l_210_ok {X : aX} {g d : Nat} (hdp : 6 ≤ d) : ∀ n, (∀ (x1 : Int32) (x2 : Int32) (S : rS) (h0 : aH) (zz : Int32 × rS), rm h0 S → l_210 g n 0 x1 x2 S = some zz → aWp X d 210 4 [some (.ref 382), some (.int x1), some (.int x2)] [] h0 (fun w h' => w = some (.int zz.1) ∧ rTo h0 zz.2 h')) := by
  intro n
  induction n with
  | zero => exact fun _ _ _ _ _ _ hd => by simp [l_210] at hd
  | succ n ih =>
    intro x1 x2 S h0 zz HS hd
    unfold l_210 at hd
    rw [if_pos rfl] at hd
    have HH := rTo.rf HS
    obtain ⟨e, rfl⟩ : ∃ e, d = e + 1 := ⟨d - 1, by omega⟩
    refine wp_s 5 [some (.ref 382), some (.int x1), some (.int x2)] [.int x2] h0 i_210_4 rfl ?_
    refine wp_s 6 [some (.ref 382), some (.int x1), some (.int x2)] [.ref 382, .int x2] h0 i_210_5 rfl ?_
    refine wp_get (v := .ref 392) 9 rfl i_210_6 (HH.1 0 (by decide)) rfl ?_
    refine wp_s 10 [some (.ref 382), some (.int x1), some (.int x2)] [.int (1 : Int32), .ref 392, .int x2] h0 i_210_9 rfl ?_
    obtain ⟨b_1, hd⟩ := dk_if hd
    refine wp_iald (f := (S.2.1 20)) 11 rfl i_210_10 (HH.1 10 (by decide)) b_1 ?_
    refine wp_cmp_ge 35 14 rfl rfl i_210_11 (fun c_2 => ?_) (fun c_2 => ?_)
    · rw [if_pos c_2] at hd
      refine wp_s 36 [some (.ref 382), some (.int x1), some (.int x2)] [.int x1] h0 i_210_35 rfl ?_
      obtain rfl := Option.some.inj hd
      exact wp_iret i_210_36 ⟨rfl, HH⟩
    · rw [if_neg c_2] at hd
      refine wp_s 15 [some (.ref 382), some (.int x1), some (.int x2)] [.int x1] h0 i_210_14 rfl ?_
      refine wp_s 16 [some (.ref 382), some (.int x1), some (.int x2)] [.ref 382, .int x1] h0 i_210_15 rfl ?_
      refine wp_s 17 [some (.ref 382), some (.int x1), some (.int x2)] [.int x2, .ref 382, .int x1] h0 i_210_16 rfl ?_
      refine wp_s 18 [some (.ref 382), some (.int x1), some (.int x2)] [.int (1 : Int32), .int x2, .ref 382, .int x1] h0 i_210_17 rfl ?_
      obtain ⟨z_3, q_4, hd⟩ := dk_bind hd
      refine wp_callV 21 rfl i_210_18 (by decide) rfl (vs := [.int x2, .int (1 : Int32)]) (rest := [.int x1]) rfl rfl rfl (HH.1 0 (by decide)) (y := m_191) rfl (Nat.le_of_ble_eq_true rfl) (d_191_ok (d := e) (by omega) HH.1 q_4) ?_
      rintro v_7 h_5 ⟨rfl, H_6⟩
      have H_6 := HH.tr H_6
      refine wp_s 22 [some (.ref 382), some (.int x1), some (.int x2)] [.ref 382, .int z_3.1, .int x1] h_5 i_210_21 rfl ?_
      refine wp_s 23 [some (.ref 382), some (.int x1), some (.int x2)] [.int x2, .ref 382, .int z_3.1, .int x1] h_5 i_210_22 rfl ?_
      obtain ⟨z_8, q_9, hd⟩ := dk_bind hd
      refine wp_callV 26 rfl i_210_23 (by decide) rfl (vs := [.int x2]) (rest := [.int z_3.1, .int x1]) rfl rfl rfl (H_6.1 0 (by decide)) (y := m_200) rfl (Nat.le_of_ble_eq_true rfl) (d_200_ok (d := e) (by omega) H_6.1 q_9) ?_
      rintro v_12 h_10 ⟨rfl, H_11⟩
      have H_11 := H_6.tr H_11
      refine wp_s 27 [some (.ref 382), some (.int x1), some (.int x2)] [.int (z_3.1 * z_8.1), .int x1] h_10 i_210_26 rfl ?_
      refine wp_s 28 [some (.ref 382), some (.int x1), some (.int x2)] [.int (x1 + (z_3.1 * z_8.1))] h_10 i_210_27 rfl ?_
      refine wp_s 29 [some (.ref 382), some (.int (x1 + (z_3.1 * z_8.1))), some (.int x2)] [] h_10 i_210_28 rfl ?_
      refine wp_s 32 [some (.ref 382), some (.int (x1 + (z_3.1 * z_8.1))), some (.int (x2 + (1 : Int32)))] [] h_10 i_210_29 rfl ?_
      refine wp_s 4 [some (.ref 382), some (.int (x1 + (z_3.1 * z_8.1))), some (.int (x2 + (1 : Int32)))] [] h_10 i_210_32 rfl ?_
      exact aWp.post (aWp.forget (ih _ _ _ _ _ H_11.1 hd) ((lvS (lvS (lvS lvE))))) (fun _ _ hq => ⟨hq.1, H_11.tr hq.2⟩)
def d_210 (g : Nat)  (S : rS) : Option (Int32 × rS) := (l_210 g g 0 (0 : Int32) (0 : Int32) S)
set_option maxHeartbeats 4000000 in
set_option maxRecDepth 100000 in
theorem d_210_ok {X : aX} {g d : Nat}  {S : rS} {h0 : aH} {zz : Int32 × rS} (hdp : 6 ≤ d) (HS : rm h0 S) (hd : d_210 g  S = some zz) : aWp X d 210 0 (aEntL [.ref 382] 3) [] h0 (fun w h' => w = some (.int zz.1) ∧ rTo h0 zz.2 h') := by
  unfold d_210 at hd
  have HH := rTo.rf HS
  refine wp_lv (l2 := [some (.ref 382), none, none]) rfl ?_
  obtain ⟨e, rfl⟩ : ∃ e, d = e + 1 := ⟨d - 1, by omega⟩
  refine wp_s 1 [some (.ref 382), none, none] [.int (0 : Int32)] h0 i_210_0 rfl ?_
  refine wp_s 2 [some (.ref 382), some (.int (0 : Int32)), none] [] h0 i_210_1 rfl ?_
  refine wp_s 3 [some (.ref 382), some (.int (0 : Int32)), none] [.int (0 : Int32)] h0 i_210_2 rfl ?_
  refine wp_s 4 [some (.ref 382), some (.int (0 : Int32)), some (.int (0 : Int32))] [] h0 i_210_3 rfl ?_
  exact aWp.post (aWp.forget ((l_210_ok hdp g) _ _ _ _ _ HH.1 hd) ((lvS (lvS (lvS lvE))))) (fun _ _ hq => ⟨hq.1, HH.tr hq.2⟩)
def d_211 (g : Nat) (x1 : Int32) (S : rS) : Option (Int32 × rS) := ((d_209 g  (rF S 25 (0 : Int32))).bind (fun z_3 => (if ¬ z_3.1 = 0 then ((d_210 g  z_3.2).bind (fun z_9 => ((d_207 g z_9.1 x1 z_9.2).bind (fun z_14 => some (z_14.1, z_14.2))))) else some ((0 : Int32), z_3.2))))
set_option maxHeartbeats 4000000 in
set_option maxRecDepth 100000 in
theorem d_211_ok {X : aX} {g d : Nat} {x1 : Int32} {S : rS} {h0 : aH} {zz : Int32 × rS} (hdp : 7 ≤ d) (HS : rm h0 S) (hd : d_211 g x1 S = some zz) : aWp X d 211 0 (aEntL [.ref 382, .int x1] 2) [] h0 (fun w h' => w = some (.int zz.1) ∧ rTo h0 zz.2 h') := by
  unfold d_211 at hd
  have HH := rTo.rf HS
  refine wp_lv (l2 := [some (.ref 382), some (.int x1)]) rfl ?_
  obtain ⟨e, rfl⟩ : ∃ e, d = e + 1 := ⟨d - 1, by omega⟩
  refine wp_s 1 [some (.ref 382), some (.int x1)] [.ref 382] h0 i_211_0 rfl ?_
  refine wp_s 2 [some (.ref 382), some (.int x1)] [.int (0 : Int32), .ref 382] h0 i_211_1 rfl ?_
  refine rq_F25 5 rfl i_211_2 HH (fun h_1 H_2 => ?_)
  refine wp_s 6 [some (.ref 382), some (.int x1)] [.ref 382] h_1 i_211_5 rfl ?_
  obtain ⟨z_3, q_4, hd⟩ := dk_bind hd
  refine wp_callV 9 rfl i_211_6 (by decide) rfl (vs := []) (rest := []) rfl rfl rfl (H_2.1 0 (by decide)) (y := m_209) rfl (Nat.le_of_ble_eq_true rfl) (d_209_ok (d := e) (by omega) H_2.1 q_4) ?_
  rintro v_7 h_5 ⟨rfl, H_6⟩
  have H_6 := H_2.tr H_6
  refine wp_if_ne 16 12 rfl rfl i_211_9 (fun c_8 => ?_) (fun c_8 => ?_)
  · rw [if_pos c_8] at hd
    refine wp_s 17 [some (.ref 382), some (.int x1)] [.ref 382] h_5 i_211_16 rfl ?_
    refine wp_s 18 [some (.ref 382), some (.int x1)] [.ref 382, .ref 382] h_5 i_211_17 rfl ?_
    obtain ⟨z_9, q_10, hd⟩ := dk_bind hd
    refine wp_callV 21 rfl i_211_18 (by decide) rfl (vs := []) (rest := [.ref 382]) rfl rfl rfl (H_6.1 0 (by decide)) (y := m_210) rfl (Nat.le_of_ble_eq_true rfl) (d_210_ok (d := e) (by omega) H_6.1 q_10) ?_
    rintro v_13 h_11 ⟨rfl, H_12⟩
    have H_12 := H_6.tr H_12
    refine wp_s 22 [some (.ref 382), some (.int x1)] [.int x1, .int z_9.1, .ref 382] h_11 i_211_21 rfl ?_
    obtain ⟨z_14, q_15, hd⟩ := dk_bind hd
    refine wp_callV 25 rfl i_211_22 (by decide) rfl (vs := [.int z_9.1, .int x1]) (rest := []) rfl rfl rfl (H_12.1 0 (by decide)) (y := m_207) rfl (Nat.le_of_ble_eq_true rfl) (d_207_ok (d := e) (by omega) H_12.1 q_15) ?_
    rintro v_18 h_16 ⟨rfl, H_17⟩
    have H_17 := H_12.tr H_17
    obtain rfl := Option.some.inj hd
    exact wp_iret i_211_25 ⟨rfl, H_17⟩
  · rw [if_neg c_8] at hd
    refine wp_s 13 [some (.ref 382), some (.int x1)] [.int (0 : Int32)] h_5 i_211_12 rfl ?_
    refine wp_s 25 [some (.ref 382), some (.int x1)] [.int (0 : Int32)] h_5 i_211_13 rfl ?_
    obtain rfl := Option.some.inj hd
    exact wp_iret i_211_25 ⟨rfl, H_6⟩
def d_212 (g : Nat) (x1 : Int32) (S : rS) : Option (Int32 × rS) := (if aIn (9 : Int32) 181 = true then ((d_206 g (64 : Int32) ((S.2.1 20) (9 : Int32).toNatClampNeg) S).bind (fun z_2 => ((d_211 g x1 z_2).bind (fun z_7 => some (z_7.1, z_7.2))))) else none)
set_option maxHeartbeats 4000000 in
set_option maxRecDepth 100000 in
theorem d_212_ok {X : aX} {g d : Nat} {x1 : Int32} {S : rS} {h0 : aH} {zz : Int32 × rS} (hdp : 8 ≤ d) (HS : rm h0 S) (hd : d_212 g x1 S = some zz) : aWp X d 212 0 (aEntL [.ref 382, .int x1] 2) [] h0 (fun w h' => w = some (.int zz.1) ∧ rTo h0 zz.2 h') := by
  unfold d_212 at hd
  have HH := rTo.rf HS
  refine wp_lv (l2 := [some (.ref 382), some (.int x1)]) rfl ?_
  obtain ⟨e, rfl⟩ : ∃ e, d = e + 1 := ⟨d - 1, by omega⟩
  refine wp_s 1 [some (.ref 382), some (.int x1)] [.ref 382] h0 i_212_0 rfl ?_
  refine wp_s 3 [some (.ref 382), some (.int x1)] [.int (64 : Int32), .ref 382] h0 i_212_1 rfl ?_
  refine wp_s 4 [some (.ref 382), some (.int x1)] [.ref 382, .int (64 : Int32), .ref 382] h0 i_212_3 rfl ?_
  refine wp_get (v := .ref 392) 7 rfl i_212_4 (HH.1 0 (by decide)) rfl ?_
  refine wp_s 9 [some (.ref 382), some (.int x1)] [.int (9 : Int32), .ref 392, .int (64 : Int32), .ref 382] h0 i_212_7 rfl ?_
  obtain ⟨b_1, hd⟩ := dk_if hd
  refine wp_iald (f := (S.2.1 20)) 10 rfl i_212_9 (HH.1 10 (by decide)) b_1 ?_
  obtain ⟨z_2, q_3, hd⟩ := dk_bind hd
  refine wp_callV 13 rfl i_212_10 (by decide) rfl (vs := [.int (64 : Int32), .int ((S.2.1 20) (9 : Int32).toNatClampNeg)]) (rest := []) rfl rfl rfl (HH.1 0 (by decide)) (y := m_206) rfl (Nat.le_of_ble_eq_true rfl) (d_206_ok (d := e) (by omega) HH.1 q_3) ?_
  rintro v_6 h_4 ⟨rfl, H_5⟩
  have H_5 := HH.tr H_5
  refine wp_s 14 [some (.ref 382), some (.int x1)] [.ref 382] h_4 i_212_13 rfl ?_
  refine wp_s 15 [some (.ref 382), some (.int x1)] [.int x1, .ref 382] h_4 i_212_14 rfl ?_
  obtain ⟨z_7, q_8, hd⟩ := dk_bind hd
  refine wp_callV 18 rfl i_212_15 (by decide) rfl (vs := [.int x1]) (rest := []) rfl rfl rfl (H_5.1 0 (by decide)) (y := m_211) rfl (Nat.le_of_ble_eq_true rfl) (d_211_ok (d := e) (by omega) H_5.1 q_8) ?_
  rintro v_11 h_9 ⟨rfl, H_10⟩
  have H_10 := H_5.tr H_10
  obtain rfl := Option.some.inj hd
  exact wp_iret i_212_18 ⟨rfl, H_10⟩
def d_213 (g : Nat) (x1 : Int32) (S : rS) : Option (Int32 × rS) := ((d_187 g  S).bind (fun z_1 => (if z_1.1 = 0 then some ((-1 : Int32), z_1.2) else ((d_140 g (x1.toInt64) (0 : Int64) (1 : Int64) z_1.2).bind (fun z_7 => (if ¬ z_7.1 = 0 then (if aIn (5 : Int32) 181 = true then ((d_212 g ((z_7.2.2.1 20) (5 : Int32).toNatClampNeg) z_7.2).bind (fun z_14 => (if ¬ x1 = 0 then some ((z_14.2.1 25), z_14.2) else some (z_14.1, z_14.2)))) else none) else some ((-1 : Int32), z_7.2)))))))
set_option maxHeartbeats 4000000 in
set_option maxRecDepth 100000 in
theorem d_213_ok {X : aX} {g d : Nat} {x1 : Int32} {S : rS} {h0 : aH} {zz : Int32 × rS} (hdp : 9 ≤ d) (HS : rm h0 S) (hd : d_213 g x1 S = some zz) : aWp X d 213 0 (aEntL [.ref 382, .int x1] 3) [] h0 (fun w h' => w = some (.int zz.1) ∧ rTo h0 zz.2 h') := by
  unfold d_213 at hd
  have HH := rTo.rf HS
  refine wp_lv (l2 := [some (.ref 382), some (.int x1), none]) rfl ?_
  obtain ⟨e, rfl⟩ : ∃ e, d = e + 1 := ⟨d - 1, by omega⟩
  refine wp_s 1 [some (.ref 382), some (.int x1), none] [.ref 382] h0 i_213_0 rfl ?_
  obtain ⟨z_1, q_2, hd⟩ := dk_bind hd
  refine wp_callV 4 rfl i_213_1 (by decide) rfl (vs := []) (rest := []) rfl rfl rfl (HH.1 0 (by decide)) (y := m_187) rfl (Nat.le_of_ble_eq_true rfl) (d_187_ok (d := e) (by omega) HH.1 q_2) ?_
  rintro v_5 h_3 ⟨rfl, H_4⟩
  have H_4 := HH.tr H_4
  refine wp_if_eq 17 7 rfl rfl i_213_4 (fun c_6 => ?_) (fun c_6 => ?_)
  · rw [if_pos c_6] at hd
    refine wp_s 18 [some (.ref 382), some (.int x1), none] [.int (-1 : Int32)] h_3 i_213_17 rfl ?_
    obtain rfl := Option.some.inj hd
    exact wp_iret i_213_18 ⟨rfl, H_4⟩
  · rw [if_neg c_6] at hd
    refine wp_s 8 [some (.ref 382), some (.int x1), none] [.int x1] h_3 i_213_7 rfl ?_
    refine wp_s 9 [some (.ref 382), some (.int x1), none] [.long (x1.toInt64)] h_3 i_213_8 rfl ?_
    refine wp_s 10 [some (.ref 382), some (.int x1), none] [.long (0 : Int64), .long (x1.toInt64)] h_3 i_213_9 rfl ?_
    refine wp_s 11 [some (.ref 382), some (.int x1), none] [.long (1 : Int64), .long (0 : Int64), .long (x1.toInt64)] h_3 i_213_10 rfl ?_
    obtain ⟨z_7, q_8, hd⟩ := dk_bind hd
    refine wp_callS 14 rfl i_213_11 (by decide) (vs := [.long (x1.toInt64), .long (0 : Int64), .long (1 : Int64)]) (rest := []) rfl rfl rfl (y := m_140) rfl (Nat.le_of_ble_eq_true rfl) (d_140_ok (d := e) (by omega) H_4.1 q_8) ?_
    rintro v_11 h_9 ⟨rfl, H_10⟩
    have H_10 := H_4.tr H_10
    refine wp_if_ne 19 17 rfl rfl i_213_14 (fun c_12 => ?_) (fun c_12 => ?_)
    · rw [if_pos c_12] at hd
      refine wp_s 20 [some (.ref 382), some (.int x1), none] [.ref 382] h_9 i_213_19 rfl ?_
      refine wp_s 21 [some (.ref 382), some (.int x1), none] [.ref 382, .ref 382] h_9 i_213_20 rfl ?_
      refine wp_get (v := .ref 392) 24 rfl i_213_21 (H_10.1 0 (by decide)) rfl ?_
      refine wp_s 25 [some (.ref 382), some (.int x1), none] [.int (5 : Int32), .ref 392, .ref 382] h_9 i_213_24 rfl ?_
      obtain ⟨b_13, hd⟩ := dk_if hd
      refine wp_iald (f := (z_7.2.2.1 20)) 26 rfl i_213_25 (H_10.1 10 (by decide)) b_13 ?_
      obtain ⟨z_14, q_15, hd⟩ := dk_bind hd
      refine wp_callV 29 rfl i_213_26 (by decide) rfl (vs := [.int ((z_7.2.2.1 20) (5 : Int32).toNatClampNeg)]) (rest := []) rfl rfl rfl (H_10.1 0 (by decide)) (y := m_212) rfl (Nat.le_of_ble_eq_true rfl) (d_212_ok (d := e) (by omega) H_10.1 q_15) ?_
      rintro v_18 h_16 ⟨rfl, H_17⟩
      have H_17 := H_10.tr H_17
      refine wp_s 30 [some (.ref 382), some (.int x1), some (.int z_14.1)] [] h_16 i_213_29 rfl ?_
      refine wp_s 31 [some (.ref 382), some (.int x1), some (.int z_14.1)] [.int x1] h_16 i_213_30 rfl ?_
      refine wp_if_ne 38 34 rfl rfl i_213_31 (fun c_19 => ?_) (fun c_19 => ?_)
      · rw [if_pos c_19] at hd
        refine wp_s 39 [some (.ref 382), some (.int x1), some (.int z_14.1)] [.ref 382] h_16 i_213_38 rfl ?_
        refine wp_get (v := .int (z_14.2.1 25)) 42 rfl i_213_39 (H_17.1 0 (by decide)) rfl ?_
        obtain rfl := Option.some.inj hd
        exact wp_iret i_213_42 ⟨rfl, H_17⟩
      · rw [if_neg c_19] at hd
        refine wp_s 35 [some (.ref 382), some (.int x1), some (.int z_14.1)] [.int z_14.1] h_16 i_213_34 rfl ?_
        refine wp_s 42 [some (.ref 382), some (.int x1), some (.int z_14.1)] [.int z_14.1] h_16 i_213_35 rfl ?_
        obtain rfl := Option.some.inj hd
        exact wp_iret i_213_42 ⟨rfl, H_17⟩
    · rw [if_neg c_12] at hd
      refine wp_s 18 [some (.ref 382), some (.int x1), none] [.int (-1 : Int32)] h_9 i_213_17 rfl ?_
      obtain rfl := Option.some.inj hd
      exact wp_iret i_213_18 ⟨rfl, H_10⟩
def l_214 (g n tag : Nat) (x1 : Int32) (S : rS) : Option (rS) := match n with
  | 0 => none
  | n + 1 => if tag = 0 then (if (1600 : Int32) ≤ x1 then (l_214 g n 1 0 (rF S 27 ((S.1 27) - (1 : Int32)))) else (if aIn x1 1600 = true then (if aIn (x1 - (80 : Int32)) 1600 = true then (l_214 g n 0 (x1 + (1 : Int32)) (rA S 26 (upd (S.2.1 26) (x1 - (80 : Int32)).toNatClampNeg ((S.2.1 26) x1.toNatClampNeg)))) else none) else none)) else if tag = 1 then (l_214 g n 2 (0 : Int32) S) else if tag = 2 then (if (80 : Int32) ≤ x1 then some (rF S 27 ((S.1 27) + (1 : Int32))) else (if aIn x1 181 = true then (if aIn (((80 : Int32) * (S.1 27)) + x1) 1600 = true then (l_214 g n 2 (x1 + (1 : Int32)) (rA S 26 (upd (S.2.1 26) (((80 : Int32) * (S.1 27)) + x1).toNatClampNeg ((S.2.1 20) x1.toNatClampNeg)))) else none) else none)) else none
set_option maxHeartbeats 4000000 in
set_option maxRecDepth 100000 in
theorem l_214_ok {X : aX} {g d : Nat} (hdp : 0 ≤ d) : ∀ n, (∀ (x1 : Int32) (S : rS) (h0 : aH) (zz : rS), rm h0 S → l_214 g n 0 x1 S = some zz → aWp X d 214 12 [some (.ref 382), some (.int x1)] [] h0 (fun w h' => w = none ∧ rTo h0 zz h')) ∧ (∀ (x1 : Int32) (S : rS) (h0 : aH) (zz : rS), rm h0 S → l_214 g n 1 x1 S = some zz → aWp X d 214 50 [some (.ref 382), none] [] h0 (fun w h' => w = none ∧ rTo h0 zz h')) ∧ (∀ (x1 : Int32) (S : rS) (h0 : aH) (zz : rS), rm h0 S → l_214 g n 2 x1 S = some zz → aWp X d 214 52 [some (.ref 382), some (.int x1)] [] h0 (fun w h' => w = none ∧ rTo h0 zz h')) := by
  intro n
  induction n with
  | zero => exact ⟨fun _ _ _ _ _ hd => by simp [l_214] at hd, fun _ _ _ _ _ hd => by simp [l_214] at hd, fun _ _ _ _ _ hd => by simp [l_214] at hd⟩
  | succ n ih =>
    refine ⟨?_, ?_, ?_⟩
    · intro x1 S h0 zz HS hd
      unfold l_214 at hd
      rw [if_pos rfl] at hd
      have HH := rTo.rf HS
      refine wp_s 13 [some (.ref 382), some (.int x1)] [.int x1] h0 i_214_12 rfl ?_
      refine wp_s 16 [some (.ref 382), some (.int x1)] [.int (1600 : Int32), .int x1] h0 i_214_13 rfl ?_
      refine wp_cmp_ge 40 19 rfl rfl i_214_16 (fun c_1 => ?_) (fun c_1 => ?_)
      · rw [if_pos c_1] at hd
        refine wp_s 41 [some (.ref 382), some (.int x1)] [.ref 382] h0 i_214_40 rfl ?_
        refine wp_s 42 [some (.ref 382), some (.int x1)] [.ref 382, .ref 382] h0 i_214_41 rfl ?_
        refine wp_get (v := .int (S.1 27)) 45 rfl i_214_42 (HH.1 0 (by decide)) rfl ?_
        refine wp_s 46 [some (.ref 382), some (.int x1)] [.int (1 : Int32), .int (S.1 27), .ref 382] h0 i_214_45 rfl ?_
        refine wp_s 47 [some (.ref 382), some (.int x1)] [.int ((S.1 27) - (1 : Int32)), .ref 382] h0 i_214_46 rfl ?_
        refine rq_F27 50 rfl i_214_47 HH (fun h_2 H_3 => ?_)
        exact aWp.post (aWp.forget (ih.2.1 _ _ _ _ H_3.1 hd) ((lvS (lvN lvE)))) (fun _ _ hq => ⟨hq.1, H_3.tr hq.2⟩)
      · rw [if_neg c_1] at hd
        refine wp_s 20 [some (.ref 382), some (.int x1)] [.ref 382] h0 i_214_19 rfl ?_
        refine wp_get (v := .ref 394) 23 rfl i_214_20 (HH.1 0 (by decide)) rfl ?_
        refine wp_s 24 [some (.ref 382), some (.int x1)] [.int x1, .ref 394] h0 i_214_23 rfl ?_
        refine wp_s 26 [some (.ref 382), some (.int x1)] [.int (80 : Int32), .int x1, .ref 394] h0 i_214_24 rfl ?_
        refine wp_s 27 [some (.ref 382), some (.int x1)] [.int (x1 - (80 : Int32)), .ref 394] h0 i_214_26 rfl ?_
        refine wp_s 28 [some (.ref 382), some (.int x1)] [.ref 382, .int (x1 - (80 : Int32)), .ref 394] h0 i_214_27 rfl ?_
        refine wp_get (v := .ref 394) 31 rfl i_214_28 (HH.1 0 (by decide)) rfl ?_
        refine wp_s 32 [some (.ref 382), some (.int x1)] [.int x1, .ref 394, .int (x1 - (80 : Int32)), .ref 394] h0 i_214_31 rfl ?_
        obtain ⟨b_4, hd⟩ := dk_if hd
        refine wp_iald (f := (S.2.1 26)) 33 rfl i_214_32 (HH.1 12 (by decide)) b_4 ?_
        obtain ⟨b_5, hd⟩ := dk_if hd
        refine rq_A26 34 rfl i_214_33 HH b_5 (fun h_6 H_7 => ?_)
        refine wp_s 37 [some (.ref 382), some (.int (x1 + (1 : Int32)))] [] h_6 i_214_34 rfl ?_
        refine wp_s 12 [some (.ref 382), some (.int (x1 + (1 : Int32)))] [] h_6 i_214_37 rfl ?_
        exact aWp.post (aWp.forget (ih.1 _ _ _ _ H_7.1 hd) ((lvS (lvS lvE)))) (fun _ _ hq => ⟨hq.1, H_7.tr hq.2⟩)
    · intro x1 S h0 zz HS hd
      unfold l_214 at hd
      rw [if_neg (by decide), if_pos rfl] at hd
      have HH := rTo.rf HS
      refine wp_s 51 [some (.ref 382), none] [.int (0 : Int32)] h0 i_214_50 rfl ?_
      refine wp_s 52 [some (.ref 382), some (.int (0 : Int32))] [] h0 i_214_51 rfl ?_
      exact aWp.post (aWp.forget (ih.2.2 _ _ _ _ HH.1 hd) ((lvS (lvS lvE)))) (fun _ _ hq => ⟨hq.1, HH.tr hq.2⟩)
    · intro x1 S h0 zz HS hd
      unfold l_214 at hd
      rw [if_neg (by decide), if_neg (by decide), if_pos rfl] at hd
      have HH := rTo.rf HS
      refine wp_s 53 [some (.ref 382), some (.int x1)] [.int x1] h0 i_214_52 rfl ?_
      refine wp_s 55 [some (.ref 382), some (.int x1)] [.int (80 : Int32), .int x1] h0 i_214_53 rfl ?_
      refine wp_cmp_ge 84 58 rfl rfl i_214_55 (fun c_8 => ?_) (fun c_8 => ?_)
      · rw [if_pos c_8] at hd
        refine wp_s 85 [some (.ref 382), some (.int x1)] [.ref 382] h0 i_214_84 rfl ?_
        refine wp_s 86 [some (.ref 382), some (.int x1)] [.ref 382, .ref 382] h0 i_214_85 rfl ?_
        refine wp_get (v := .int (S.1 27)) 89 rfl i_214_86 (HH.1 0 (by decide)) rfl ?_
        refine wp_s 90 [some (.ref 382), some (.int x1)] [.int (1 : Int32), .int (S.1 27), .ref 382] h0 i_214_89 rfl ?_
        refine wp_s 91 [some (.ref 382), some (.int x1)] [.int ((S.1 27) + (1 : Int32)), .ref 382] h0 i_214_90 rfl ?_
        refine rq_F27 94 rfl i_214_91 HH (fun h_9 H_10 => ?_)
        obtain rfl := Option.some.inj hd
        exact wp_ret i_214_94 rfl ⟨rfl, H_10⟩
      · rw [if_neg c_8] at hd
        refine wp_s 59 [some (.ref 382), some (.int x1)] [.ref 382] h0 i_214_58 rfl ?_
        refine wp_get (v := .ref 394) 62 rfl i_214_59 (HH.1 0 (by decide)) rfl ?_
        refine wp_s 64 [some (.ref 382), some (.int x1)] [.int (80 : Int32), .ref 394] h0 i_214_62 rfl ?_
        refine wp_s 65 [some (.ref 382), some (.int x1)] [.ref 382, .int (80 : Int32), .ref 394] h0 i_214_64 rfl ?_
        refine wp_get (v := .int (S.1 27)) 68 rfl i_214_65 (HH.1 0 (by decide)) rfl ?_
        refine wp_s 69 [some (.ref 382), some (.int x1)] [.int ((80 : Int32) * (S.1 27)), .ref 394] h0 i_214_68 rfl ?_
        refine wp_s 70 [some (.ref 382), some (.int x1)] [.int x1, .int ((80 : Int32) * (S.1 27)), .ref 394] h0 i_214_69 rfl ?_
        refine wp_s 71 [some (.ref 382), some (.int x1)] [.int (((80 : Int32) * (S.1 27)) + x1), .ref 394] h0 i_214_70 rfl ?_
        refine wp_s 72 [some (.ref 382), some (.int x1)] [.ref 382, .int (((80 : Int32) * (S.1 27)) + x1), .ref 394] h0 i_214_71 rfl ?_
        refine wp_get (v := .ref 392) 75 rfl i_214_72 (HH.1 0 (by decide)) rfl ?_
        refine wp_s 76 [some (.ref 382), some (.int x1)] [.int x1, .ref 392, .int (((80 : Int32) * (S.1 27)) + x1), .ref 394] h0 i_214_75 rfl ?_
        obtain ⟨b_11, hd⟩ := dk_if hd
        refine wp_iald (f := (S.2.1 20)) 77 rfl i_214_76 (HH.1 10 (by decide)) b_11 ?_
        obtain ⟨b_12, hd⟩ := dk_if hd
        refine rq_A26 78 rfl i_214_77 HH b_12 (fun h_13 H_14 => ?_)
        refine wp_s 81 [some (.ref 382), some (.int (x1 + (1 : Int32)))] [] h_13 i_214_78 rfl ?_
        refine wp_s 52 [some (.ref 382), some (.int (x1 + (1 : Int32)))] [] h_13 i_214_81 rfl ?_
        exact aWp.post (aWp.forget (ih.2.2 _ _ _ _ H_14.1 hd) ((lvS (lvS lvE)))) (fun _ _ hq => ⟨hq.1, H_14.tr hq.2⟩)
def d_214 (g : Nat)  (S : rS) : Option (rS) := (if ¬ (S.1 27) = (20 : Int32) then (l_214 g g 1 0 S) else (l_214 g g 0 (80 : Int32) S))
set_option maxHeartbeats 4000000 in
set_option maxRecDepth 100000 in
theorem d_214_ok {X : aX} {g d : Nat}  {S : rS} {h0 : aH} {zz : rS} (hdp : 0 ≤ d) (HS : rm h0 S) (hd : d_214 g  S = some zz) : aWp X d 214 0 (aEntL [.ref 382] 2) [] h0 (fun w h' => w = none ∧ rTo h0 zz h') := by
  unfold d_214 at hd
  have HH := rTo.rf HS
  refine wp_lv (l2 := [some (.ref 382), none]) rfl ?_
  refine wp_s 1 [some (.ref 382), none] [.ref 382] h0 i_214_0 rfl ?_
  refine wp_get (v := .int (S.1 27)) 4 rfl i_214_1 (HH.1 0 (by decide)) rfl ?_
  refine wp_s 6 [some (.ref 382), none] [.int (20 : Int32), .int (S.1 27)] h0 i_214_4 rfl ?_
  refine wp_cmp_ne 50 9 rfl rfl i_214_6 (fun c_1001 => ?_) (fun c_1001 => ?_)
  · rw [if_pos c_1001] at hd
    exact aWp.post (aWp.forget ((l_214_ok hdp g).2.1 _ _ _ _ HH.1 hd) ((lvS (lvN lvE)))) (fun _ _ hq => ⟨hq.1, HH.tr hq.2⟩)
  · rw [if_neg c_1001] at hd
    refine wp_s 11 [some (.ref 382), none] [.int (80 : Int32)] h0 i_214_9 rfl ?_
    refine wp_s 12 [some (.ref 382), some (.int (80 : Int32))] [] h0 i_214_11 rfl ?_
    exact aWp.post (aWp.forget ((l_214_ok hdp g).1 _ _ _ _ HH.1 hd) ((lvS (lvS lvE)))) (fun _ _ hq => ⟨hq.1, HH.tr hq.2⟩)
def l_215 (g n tag : Nat) (x1 : Int32) (S : rS) : Option (Int32 × rS) := match n with
  | 0 => none
  | n + 1 => if tag = 0 then (if (80 : Int32) ≤ x1 then some ((S.1 27), S) else (if aIn (((80 : Int32) * (S.1 27)) + x1) 1600 = true then (if aIn x1 181 = true then (l_215 g n 0 (x1 + (1 : Int32)) (rA S 20 (upd (S.2.1 20) x1.toNatClampNeg ((S.2.1 26) (((80 : Int32) * (S.1 27)) + x1).toNatClampNeg)))) else none) else none)) else none
set_option maxHeartbeats 4000000 in
set_option maxRecDepth 100000 in
theorem l_215_ok {X : aX} {g d : Nat} (hdp : 0 ≤ d) : ∀ n, (∀ (x1 : Int32) (S : rS) (h0 : aH) (zz : Int32 × rS), rm h0 S → l_215 g n 0 x1 S = some zz → aWp X d 215 21 [some (.ref 382), some (.int x1)] [] h0 (fun w h' => w = some (.int zz.1) ∧ rTo h0 zz.2 h')) := by
  intro n
  induction n with
  | zero => exact fun _ _ _ _ _ hd => by simp [l_215] at hd
  | succ n ih =>
    intro x1 S h0 zz HS hd
    unfold l_215 at hd
    rw [if_pos rfl] at hd
    have HH := rTo.rf HS
    refine wp_s 22 [some (.ref 382), some (.int x1)] [.int x1] h0 i_215_21 rfl ?_
    refine wp_s 24 [some (.ref 382), some (.int x1)] [.int (80 : Int32), .int x1] h0 i_215_22 rfl ?_
    refine wp_cmp_ge 53 27 rfl rfl i_215_24 (fun c_1 => ?_) (fun c_1 => ?_)
    · rw [if_pos c_1] at hd
      refine wp_s 54 [some (.ref 382), some (.int x1)] [.ref 382] h0 i_215_53 rfl ?_
      refine wp_get (v := .int (S.1 27)) 57 rfl i_215_54 (HH.1 0 (by decide)) rfl ?_
      obtain rfl := Option.some.inj hd
      exact wp_iret i_215_57 ⟨rfl, HH⟩
    · rw [if_neg c_1] at hd
      refine wp_s 28 [some (.ref 382), some (.int x1)] [.ref 382] h0 i_215_27 rfl ?_
      refine wp_get (v := .ref 392) 31 rfl i_215_28 (HH.1 0 (by decide)) rfl ?_
      refine wp_s 32 [some (.ref 382), some (.int x1)] [.int x1, .ref 392] h0 i_215_31 rfl ?_
      refine wp_s 33 [some (.ref 382), some (.int x1)] [.ref 382, .int x1, .ref 392] h0 i_215_32 rfl ?_
      refine wp_get (v := .ref 394) 36 rfl i_215_33 (HH.1 0 (by decide)) rfl ?_
      refine wp_s 38 [some (.ref 382), some (.int x1)] [.int (80 : Int32), .ref 394, .int x1, .ref 392] h0 i_215_36 rfl ?_
      refine wp_s 39 [some (.ref 382), some (.int x1)] [.ref 382, .int (80 : Int32), .ref 394, .int x1, .ref 392] h0 i_215_38 rfl ?_
      refine wp_get (v := .int (S.1 27)) 42 rfl i_215_39 (HH.1 0 (by decide)) rfl ?_
      refine wp_s 43 [some (.ref 382), some (.int x1)] [.int ((80 : Int32) * (S.1 27)), .ref 394, .int x1, .ref 392] h0 i_215_42 rfl ?_
      refine wp_s 44 [some (.ref 382), some (.int x1)] [.int x1, .int ((80 : Int32) * (S.1 27)), .ref 394, .int x1, .ref 392] h0 i_215_43 rfl ?_
      refine wp_s 45 [some (.ref 382), some (.int x1)] [.int (((80 : Int32) * (S.1 27)) + x1), .ref 394, .int x1, .ref 392] h0 i_215_44 rfl ?_
      obtain ⟨b_2, hd⟩ := dk_if hd
      refine wp_iald (f := (S.2.1 26)) 46 rfl i_215_45 (HH.1 12 (by decide)) b_2 ?_
      obtain ⟨b_3, hd⟩ := dk_if hd
      refine rq_A20 47 rfl i_215_46 HH b_3 (fun h_4 H_5 => ?_)
      refine wp_s 50 [some (.ref 382), some (.int (x1 + (1 : Int32)))] [] h_4 i_215_47 rfl ?_
      refine wp_s 21 [some (.ref 382), some (.int (x1 + (1 : Int32)))] [] h_4 i_215_50 rfl ?_
      exact aWp.post (aWp.forget (ih _ _ _ _ H_5.1 hd) ((lvS (lvS lvE)))) (fun _ _ hq => ⟨hq.1, H_5.tr hq.2⟩)
def d_215 (g : Nat)  (S : rS) : Option (Int32 × rS) := (if ¬ (S.1 27) = 0 then (l_215 g g 0 (0 : Int32) (rF S 27 ((S.1 27) - (1 : Int32)))) else some ((-1 : Int32), S))
set_option maxHeartbeats 4000000 in
set_option maxRecDepth 100000 in
theorem d_215_ok {X : aX} {g d : Nat}  {S : rS} {h0 : aH} {zz : Int32 × rS} (hdp : 0 ≤ d) (HS : rm h0 S) (hd : d_215 g  S = some zz) : aWp X d 215 0 (aEntL [.ref 382] 2) [] h0 (fun w h' => w = some (.int zz.1) ∧ rTo h0 zz.2 h') := by
  unfold d_215 at hd
  have HH := rTo.rf HS
  refine wp_lv (l2 := [some (.ref 382), none]) rfl ?_
  refine wp_s 1 [some (.ref 382), none] [.ref 382] h0 i_215_0 rfl ?_
  refine wp_get (v := .int (S.1 27)) 4 rfl i_215_1 (HH.1 0 (by decide)) rfl ?_
  refine wp_if_ne 9 7 rfl rfl i_215_4 (fun c_1001 => ?_) (fun c_1001 => ?_)
  · rw [if_pos c_1001] at hd
    refine wp_s 10 [some (.ref 382), none] [.ref 382] h0 i_215_9 rfl ?_
    refine wp_s 11 [some (.ref 382), none] [.ref 382, .ref 382] h0 i_215_10 rfl ?_
    refine wp_get (v := .int (S.1 27)) 14 rfl i_215_11 (HH.1 0 (by decide)) rfl ?_
    refine wp_s 15 [some (.ref 382), none] [.int (1 : Int32), .int (S.1 27), .ref 382] h0 i_215_14 rfl ?_
    refine wp_s 16 [some (.ref 382), none] [.int ((S.1 27) - (1 : Int32)), .ref 382] h0 i_215_15 rfl ?_
    refine rq_F27 19 rfl i_215_16 HH (fun h_1002 H_1003 => ?_)
    refine wp_s 20 [some (.ref 382), none] [.int (0 : Int32)] h_1002 i_215_19 rfl ?_
    refine wp_s 21 [some (.ref 382), some (.int (0 : Int32))] [] h_1002 i_215_20 rfl ?_
    exact aWp.post (aWp.forget ((l_215_ok hdp g) _ _ _ _ H_1003.1 hd) ((lvS (lvS lvE)))) (fun _ _ hq => ⟨hq.1, H_1003.tr hq.2⟩)
  · rw [if_neg c_1001] at hd
    refine wp_s 8 [some (.ref 382), none] [.int (-1 : Int32)] h0 i_215_7 rfl ?_
    obtain rfl := Option.some.inj hd
    exact wp_iret i_215_8 ⟨rfl, HH⟩
def d_216 (g : Nat) (x1 : Int32) (S : rS) : Option (Int32 × rS) := ((d_191 g x1 (1 : Int32) S).bind (fun z_1 => ((d_191 g x1 (0 : Int32) z_1.2).bind (fun z_6 => (if z_6.1 ≤ z_1.1 then some ((0 : Int32), z_6.2) else ((d_209 g  z_6.2).bind (fun z_12 => (if (12 : Int32) ≤ z_12.1 then some ((0 : Int32), z_12.2) else some ((1 : Int32), z_12.2)))))))))
set_option maxHeartbeats 4000000 in
set_option maxRecDepth 100000 in
theorem d_216_ok {X : aX} {g d : Nat} {x1 : Int32} {S : rS} {h0 : aH} {zz : Int32 × rS} (hdp : 2 ≤ d) (HS : rm h0 S) (hd : d_216 g x1 S = some zz) : aWp X d 216 0 (aEntL [.ref 382, .int x1] 2) [] h0 (fun w h' => w = some (.int zz.1) ∧ rTo h0 zz.2 h') := by
  unfold d_216 at hd
  have HH := rTo.rf HS
  refine wp_lv (l2 := [some (.ref 382), some (.int x1)]) rfl ?_
  obtain ⟨e, rfl⟩ : ∃ e, d = e + 1 := ⟨d - 1, by omega⟩
  refine wp_s 1 [some (.ref 382), some (.int x1)] [.ref 382] h0 i_216_0 rfl ?_
  refine wp_s 2 [some (.ref 382), some (.int x1)] [.int x1, .ref 382] h0 i_216_1 rfl ?_
  refine wp_s 3 [some (.ref 382), some (.int x1)] [.int (1 : Int32), .int x1, .ref 382] h0 i_216_2 rfl ?_
  obtain ⟨z_1, q_2, hd⟩ := dk_bind hd
  refine wp_callV 6 rfl i_216_3 (by decide) rfl (vs := [.int x1, .int (1 : Int32)]) (rest := []) rfl rfl rfl (HH.1 0 (by decide)) (y := m_191) rfl (Nat.le_of_ble_eq_true rfl) (d_191_ok (d := e) (by omega) HH.1 q_2) ?_
  rintro v_5 h_3 ⟨rfl, H_4⟩
  have H_4 := HH.tr H_4
  refine wp_s 7 [some (.ref 382), some (.int x1)] [.ref 382, .int z_1.1] h_3 i_216_6 rfl ?_
  refine wp_s 8 [some (.ref 382), some (.int x1)] [.int x1, .ref 382, .int z_1.1] h_3 i_216_7 rfl ?_
  refine wp_s 9 [some (.ref 382), some (.int x1)] [.int (0 : Int32), .int x1, .ref 382, .int z_1.1] h_3 i_216_8 rfl ?_
  obtain ⟨z_6, q_7, hd⟩ := dk_bind hd
  refine wp_callV 12 rfl i_216_9 (by decide) rfl (vs := [.int x1, .int (0 : Int32)]) (rest := [.int z_1.1]) rfl rfl rfl (H_4.1 0 (by decide)) (y := m_191) rfl (Nat.le_of_ble_eq_true rfl) (d_191_ok (d := e) (by omega) H_4.1 q_7) ?_
  rintro v_10 h_8 ⟨rfl, H_9⟩
  have H_9 := H_4.tr H_9
  refine wp_cmp_ge 28 15 rfl rfl i_216_12 (fun c_11 => ?_) (fun c_11 => ?_)
  · rw [if_pos c_11] at hd
    refine wp_s 29 [some (.ref 382), some (.int x1)] [.int (0 : Int32)] h_8 i_216_28 rfl ?_
    obtain rfl := Option.some.inj hd
    exact wp_iretZ (z := 0) i_216_29 (by decide) ⟨rfl, H_9⟩
  · rw [if_neg c_11] at hd
    refine wp_s 16 [some (.ref 382), some (.int x1)] [.ref 382] h_8 i_216_15 rfl ?_
    obtain ⟨z_12, q_13, hd⟩ := dk_bind hd
    refine wp_callV 19 rfl i_216_16 (by decide) rfl (vs := []) (rest := []) rfl rfl rfl (H_9.1 0 (by decide)) (y := m_209) rfl (Nat.le_of_ble_eq_true rfl) (d_209_ok (d := e) (by omega) H_9.1 q_13) ?_
    rintro v_16 h_14 ⟨rfl, H_15⟩
    have H_15 := H_9.tr H_15
    refine wp_s 21 [some (.ref 382), some (.int x1)] [.int (12 : Int32), .int z_12.1] h_14 i_216_19 rfl ?_
    refine wp_cmp_ge 28 24 rfl rfl i_216_21 (fun c_17 => ?_) (fun c_17 => ?_)
    · rw [if_pos c_17] at hd
      refine wp_s 29 [some (.ref 382), some (.int x1)] [.int (0 : Int32)] h_14 i_216_28 rfl ?_
      obtain rfl := Option.some.inj hd
      exact wp_iretZ (z := 0) i_216_29 (by decide) ⟨rfl, H_15⟩
    · rw [if_neg c_17] at hd
      refine wp_s 25 [some (.ref 382), some (.int x1)] [.int (1 : Int32)] h_14 i_216_24 rfl ?_
      refine wp_s 29 [some (.ref 382), some (.int x1)] [.int (1 : Int32)] h_14 i_216_25 rfl ?_
      obtain rfl := Option.some.inj hd
      exact wp_iretZ (z := 0) i_216_29 (by decide) ⟨rfl, H_15⟩
def d_217 (g : Nat) (x1 : Int32) (x2 : Int32) (x3 : Int32) (S : rS) : Option (rS) := (if aIn (((16 : Int32) + ((5 : Int32) * x1)) + x2) 181 = true then (if aIn (((16 : Int32) + ((5 : Int32) * x1)) + x2) 181 = true then some (rA S 20 (upd (S.2.1 20) (((16 : Int32) + ((5 : Int32) * x1)) + x2).toNatClampNeg (((S.2.1 20) (((16 : Int32) + ((5 : Int32) * x1)) + x2).toNatClampNeg) + x3))) else none) else none)
set_option maxHeartbeats 4000000 in
set_option maxRecDepth 100000 in
theorem d_217_ok {X : aX} {g d : Nat} {x1 : Int32} {x2 : Int32} {x3 : Int32} {S : rS} {h0 : aH} {zz : rS} (hdp : 0 ≤ d) (HS : rm h0 S) (hd : d_217 g x1 x2 x3 S = some zz) : aWp X d 217 0 (aEntL [.ref 382, .int x1, .int x2, .int x3] 4) [] h0 (fun w h' => w = none ∧ rTo h0 zz h') := by
  unfold d_217 at hd
  have HH := rTo.rf HS
  refine wp_lv (l2 := [some (.ref 382), some (.int x1), some (.int x2), some (.int x3)]) rfl ?_
  refine wp_s 1 [some (.ref 382), some (.int x1), some (.int x2), some (.int x3)] [.ref 382] h0 i_217_0 rfl ?_
  refine wp_get (v := .ref 392) 4 rfl i_217_1 (HH.1 0 (by decide)) rfl ?_
  refine wp_s 6 [some (.ref 382), some (.int x1), some (.int x2), some (.int x3)] [.int (16 : Int32), .ref 392] h0 i_217_4 rfl ?_
  refine wp_s 7 [some (.ref 382), some (.int x1), some (.int x2), some (.int x3)] [.int (5 : Int32), .int (16 : Int32), .ref 392] h0 i_217_6 rfl ?_
  refine wp_s 8 [some (.ref 382), some (.int x1), some (.int x2), some (.int x3)] [.int x1, .int (5 : Int32), .int (16 : Int32), .ref 392] h0 i_217_7 rfl ?_
  refine wp_s 9 [some (.ref 382), some (.int x1), some (.int x2), some (.int x3)] [.int ((5 : Int32) * x1), .int (16 : Int32), .ref 392] h0 i_217_8 rfl ?_
  refine wp_s 10 [some (.ref 382), some (.int x1), some (.int x2), some (.int x3)] [.int ((16 : Int32) + ((5 : Int32) * x1)), .ref 392] h0 i_217_9 rfl ?_
  refine wp_s 11 [some (.ref 382), some (.int x1), some (.int x2), some (.int x3)] [.int x2, .int ((16 : Int32) + ((5 : Int32) * x1)), .ref 392] h0 i_217_10 rfl ?_
  refine wp_s 12 [some (.ref 382), some (.int x1), some (.int x2), some (.int x3)] [.int (((16 : Int32) + ((5 : Int32) * x1)) + x2), .ref 392] h0 i_217_11 rfl ?_
  refine wp_s 13 [some (.ref 382), some (.int x1), some (.int x2), some (.int x3)] [.int (((16 : Int32) + ((5 : Int32) * x1)) + x2), .ref 392, .int (((16 : Int32) + ((5 : Int32) * x1)) + x2), .ref 392] h0 i_217_12 rfl ?_
  obtain ⟨b_1, hd⟩ := dk_if hd
  refine wp_iald (f := (S.2.1 20)) 14 rfl i_217_13 (HH.1 10 (by decide)) b_1 ?_
  refine wp_s 15 [some (.ref 382), some (.int x1), some (.int x2), some (.int x3)] [.int x3, .int ((S.2.1 20) (((16 : Int32) + ((5 : Int32) * x1)) + x2).toNatClampNeg), .int (((16 : Int32) + ((5 : Int32) * x1)) + x2), .ref 392] h0 i_217_14 rfl ?_
  refine wp_s 16 [some (.ref 382), some (.int x1), some (.int x2), some (.int x3)] [.int (((S.2.1 20) (((16 : Int32) + ((5 : Int32) * x1)) + x2).toNatClampNeg) + x3), .int (((16 : Int32) + ((5 : Int32) * x1)) + x2), .ref 392] h0 i_217_15 rfl ?_
  obtain ⟨b_2, hd⟩ := dk_if hd
  refine rq_A20 17 rfl i_217_16 HH b_2 (fun h_3 H_4 => ?_)
  obtain rfl := Option.some.inj hd
  exact wp_ret i_217_17 rfl ⟨rfl, H_4⟩
def d_218 (g : Nat) (x1 : Int32) (S : rS) : Option (Int32 × rS) := ((d_188 g x1 S).bind (fun z_1 => (if z_1.1 = 0 then some ((-1 : Int32), z_1.2) else ((d_216 g x1 z_1.2).bind (fun z_7 => (if ¬ z_7.1 = 0 then ((d_214 g  z_7.2).bind (fun z_13 => ((d_217 g x1 (1 : Int32) (1 : Int32) z_13).bind (fun z_18 => ((d_191 g x1 (1 : Int32) z_18).bind (fun z_23 => some (z_23.1, z_23.2))))))) else some ((-1 : Int32), z_7.2)))))))
set_option maxHeartbeats 4000000 in
set_option maxRecDepth 100000 in
theorem d_218_ok {X : aX} {g d : Nat} {x1 : Int32} {S : rS} {h0 : aH} {zz : Int32 × rS} (hdp : 3 ≤ d) (HS : rm h0 S) (hd : d_218 g x1 S = some zz) : aWp X d 218 0 (aEntL [.ref 382, .int x1] 2) [] h0 (fun w h' => w = some (.int zz.1) ∧ rTo h0 zz.2 h') := by
  unfold d_218 at hd
  have HH := rTo.rf HS
  refine wp_lv (l2 := [some (.ref 382), some (.int x1)]) rfl ?_
  obtain ⟨e, rfl⟩ : ∃ e, d = e + 1 := ⟨d - 1, by omega⟩
  refine wp_s 1 [some (.ref 382), some (.int x1)] [.ref 382] h0 i_218_0 rfl ?_
  refine wp_s 2 [some (.ref 382), some (.int x1)] [.int x1, .ref 382] h0 i_218_1 rfl ?_
  obtain ⟨z_1, q_2, hd⟩ := dk_bind hd
  refine wp_callV 5 rfl i_218_2 (by decide) rfl (vs := [.int x1]) (rest := []) rfl rfl rfl (HH.1 0 (by decide)) (y := m_188) rfl (Nat.le_of_ble_eq_true rfl) (d_188_ok (d := e) (by omega) HH.1 q_2) ?_
  rintro v_5 h_3 ⟨rfl, H_4⟩
  have H_4 := HH.tr H_4
  refine wp_if_eq 16 8 rfl rfl i_218_5 (fun c_6 => ?_) (fun c_6 => ?_)
  · rw [if_pos c_6] at hd
    refine wp_s 17 [some (.ref 382), some (.int x1)] [.int (-1 : Int32)] h_3 i_218_16 rfl ?_
    obtain rfl := Option.some.inj hd
    exact wp_iret i_218_17 ⟨rfl, H_4⟩
  · rw [if_neg c_6] at hd
    refine wp_s 9 [some (.ref 382), some (.int x1)] [.ref 382] h_3 i_218_8 rfl ?_
    refine wp_s 10 [some (.ref 382), some (.int x1)] [.int x1, .ref 382] h_3 i_218_9 rfl ?_
    obtain ⟨z_7, q_8, hd⟩ := dk_bind hd
    refine wp_callV 13 rfl i_218_10 (by decide) rfl (vs := [.int x1]) (rest := []) rfl rfl rfl (H_4.1 0 (by decide)) (y := m_216) rfl (Nat.le_of_ble_eq_true rfl) (d_216_ok (d := e) (by omega) H_4.1 q_8) ?_
    rintro v_11 h_9 ⟨rfl, H_10⟩
    have H_10 := H_4.tr H_10
    refine wp_if_ne 18 16 rfl rfl i_218_13 (fun c_12 => ?_) (fun c_12 => ?_)
    · rw [if_pos c_12] at hd
      refine wp_s 19 [some (.ref 382), some (.int x1)] [.ref 382] h_9 i_218_18 rfl ?_
      obtain ⟨z_13, q_14, hd⟩ := dk_bind hd
      refine wp_callV 22 rfl i_218_19 (by decide) rfl (vs := []) (rest := []) rfl rfl rfl (H_10.1 0 (by decide)) (y := m_214) rfl (Nat.le_of_ble_eq_true rfl) (d_214_ok (d := e) (by omega) H_10.1 q_14) ?_
      rintro v_17 h_15 ⟨rfl, H_16⟩
      have H_16 := H_10.tr H_16
      refine wp_s 23 [some (.ref 382), some (.int x1)] [.ref 382] h_15 i_218_22 rfl ?_
      refine wp_s 24 [some (.ref 382), some (.int x1)] [.int x1, .ref 382] h_15 i_218_23 rfl ?_
      refine wp_s 25 [some (.ref 382), some (.int x1)] [.int (1 : Int32), .int x1, .ref 382] h_15 i_218_24 rfl ?_
      refine wp_s 26 [some (.ref 382), some (.int x1)] [.int (1 : Int32), .int (1 : Int32), .int x1, .ref 382] h_15 i_218_25 rfl ?_
      obtain ⟨z_18, q_19, hd⟩ := dk_bind hd
      refine wp_callV 29 rfl i_218_26 (by decide) rfl (vs := [.int x1, .int (1 : Int32), .int (1 : Int32)]) (rest := []) rfl rfl rfl (H_16.1 0 (by decide)) (y := m_217) rfl (Nat.le_of_ble_eq_true rfl) (d_217_ok (d := e) (by omega) H_16.1 q_19) ?_
      rintro v_22 h_20 ⟨rfl, H_21⟩
      have H_21 := H_16.tr H_21
      refine wp_s 30 [some (.ref 382), some (.int x1)] [.ref 382] h_20 i_218_29 rfl ?_
      refine wp_s 31 [some (.ref 382), some (.int x1)] [.int x1, .ref 382] h_20 i_218_30 rfl ?_
      refine wp_s 32 [some (.ref 382), some (.int x1)] [.int (1 : Int32), .int x1, .ref 382] h_20 i_218_31 rfl ?_
      obtain ⟨z_23, q_24, hd⟩ := dk_bind hd
      refine wp_callV 35 rfl i_218_32 (by decide) rfl (vs := [.int x1, .int (1 : Int32)]) (rest := []) rfl rfl rfl (H_21.1 0 (by decide)) (y := m_191) rfl (Nat.le_of_ble_eq_true rfl) (d_191_ok (d := e) (by omega) H_21.1 q_24) ?_
      rintro v_27 h_25 ⟨rfl, H_26⟩
      have H_26 := H_21.tr H_26
      obtain rfl := Option.some.inj hd
      exact wp_iret i_218_35 ⟨rfl, H_26⟩
    · rw [if_neg c_12] at hd
      refine wp_s 17 [some (.ref 382), some (.int x1)] [.int (-1 : Int32)] h_9 i_218_16 rfl ?_
      obtain rfl := Option.some.inj hd
      exact wp_iret i_218_17 ⟨rfl, H_10⟩
def d_219 (g : Nat) (x1 : Int32) (S : rS) : Option (Int32 × rS) := ((d_188 g x1 S).bind (fun z_1 => (if z_1.1 = 0 then some ((-1 : Int32), z_1.2) else ((d_191 g x1 (1 : Int32) z_1.2).bind (fun z_7 => (if ¬ z_7.1 = 0 then ((d_214 g  z_7.2).bind (fun z_13 => ((d_217 g x1 (1 : Int32) (-1 : Int32) z_13).bind (fun z_18 => ((d_191 g x1 (1 : Int32) z_18).bind (fun z_23 => some (z_23.1, z_23.2))))))) else some ((-1 : Int32), z_7.2)))))))
set_option maxHeartbeats 4000000 in
set_option maxRecDepth 100000 in
theorem d_219_ok {X : aX} {g d : Nat} {x1 : Int32} {S : rS} {h0 : aH} {zz : Int32 × rS} (hdp : 1 ≤ d) (HS : rm h0 S) (hd : d_219 g x1 S = some zz) : aWp X d 219 0 (aEntL [.ref 382, .int x1] 2) [] h0 (fun w h' => w = some (.int zz.1) ∧ rTo h0 zz.2 h') := by
  unfold d_219 at hd
  have HH := rTo.rf HS
  refine wp_lv (l2 := [some (.ref 382), some (.int x1)]) rfl ?_
  obtain ⟨e, rfl⟩ : ∃ e, d = e + 1 := ⟨d - 1, by omega⟩
  refine wp_s 1 [some (.ref 382), some (.int x1)] [.ref 382] h0 i_219_0 rfl ?_
  refine wp_s 2 [some (.ref 382), some (.int x1)] [.int x1, .ref 382] h0 i_219_1 rfl ?_
  obtain ⟨z_1, q_2, hd⟩ := dk_bind hd
  refine wp_callV 5 rfl i_219_2 (by decide) rfl (vs := [.int x1]) (rest := []) rfl rfl rfl (HH.1 0 (by decide)) (y := m_188) rfl (Nat.le_of_ble_eq_true rfl) (d_188_ok (d := e) (by omega) HH.1 q_2) ?_
  rintro v_5 h_3 ⟨rfl, H_4⟩
  have H_4 := HH.tr H_4
  refine wp_if_eq 17 8 rfl rfl i_219_5 (fun c_6 => ?_) (fun c_6 => ?_)
  · rw [if_pos c_6] at hd
    refine wp_s 18 [some (.ref 382), some (.int x1)] [.int (-1 : Int32)] h_3 i_219_17 rfl ?_
    obtain rfl := Option.some.inj hd
    exact wp_iret i_219_18 ⟨rfl, H_4⟩
  · rw [if_neg c_6] at hd
    refine wp_s 9 [some (.ref 382), some (.int x1)] [.ref 382] h_3 i_219_8 rfl ?_
    refine wp_s 10 [some (.ref 382), some (.int x1)] [.int x1, .ref 382] h_3 i_219_9 rfl ?_
    refine wp_s 11 [some (.ref 382), some (.int x1)] [.int (1 : Int32), .int x1, .ref 382] h_3 i_219_10 rfl ?_
    obtain ⟨z_7, q_8, hd⟩ := dk_bind hd
    refine wp_callV 14 rfl i_219_11 (by decide) rfl (vs := [.int x1, .int (1 : Int32)]) (rest := []) rfl rfl rfl (H_4.1 0 (by decide)) (y := m_191) rfl (Nat.le_of_ble_eq_true rfl) (d_191_ok (d := e) (by omega) H_4.1 q_8) ?_
    rintro v_11 h_9 ⟨rfl, H_10⟩
    have H_10 := H_4.tr H_10
    refine wp_if_ne 19 17 rfl rfl i_219_14 (fun c_12 => ?_) (fun c_12 => ?_)
    · rw [if_pos c_12] at hd
      refine wp_s 20 [some (.ref 382), some (.int x1)] [.ref 382] h_9 i_219_19 rfl ?_
      obtain ⟨z_13, q_14, hd⟩ := dk_bind hd
      refine wp_callV 23 rfl i_219_20 (by decide) rfl (vs := []) (rest := []) rfl rfl rfl (H_10.1 0 (by decide)) (y := m_214) rfl (Nat.le_of_ble_eq_true rfl) (d_214_ok (d := e) (by omega) H_10.1 q_14) ?_
      rintro v_17 h_15 ⟨rfl, H_16⟩
      have H_16 := H_10.tr H_16
      refine wp_s 24 [some (.ref 382), some (.int x1)] [.ref 382] h_15 i_219_23 rfl ?_
      refine wp_s 25 [some (.ref 382), some (.int x1)] [.int x1, .ref 382] h_15 i_219_24 rfl ?_
      refine wp_s 26 [some (.ref 382), some (.int x1)] [.int (1 : Int32), .int x1, .ref 382] h_15 i_219_25 rfl ?_
      refine wp_s 27 [some (.ref 382), some (.int x1)] [.int (-1 : Int32), .int (1 : Int32), .int x1, .ref 382] h_15 i_219_26 rfl ?_
      obtain ⟨z_18, q_19, hd⟩ := dk_bind hd
      refine wp_callV 30 rfl i_219_27 (by decide) rfl (vs := [.int x1, .int (1 : Int32), .int (-1 : Int32)]) (rest := []) rfl rfl rfl (H_16.1 0 (by decide)) (y := m_217) rfl (Nat.le_of_ble_eq_true rfl) (d_217_ok (d := e) (by omega) H_16.1 q_19) ?_
      rintro v_22 h_20 ⟨rfl, H_21⟩
      have H_21 := H_16.tr H_21
      refine wp_s 31 [some (.ref 382), some (.int x1)] [.ref 382] h_20 i_219_30 rfl ?_
      refine wp_s 32 [some (.ref 382), some (.int x1)] [.int x1, .ref 382] h_20 i_219_31 rfl ?_
      refine wp_s 33 [some (.ref 382), some (.int x1)] [.int (1 : Int32), .int x1, .ref 382] h_20 i_219_32 rfl ?_
      obtain ⟨z_23, q_24, hd⟩ := dk_bind hd
      refine wp_callV 36 rfl i_219_33 (by decide) rfl (vs := [.int x1, .int (1 : Int32)]) (rest := []) rfl rfl rfl (H_21.1 0 (by decide)) (y := m_191) rfl (Nat.le_of_ble_eq_true rfl) (d_191_ok (d := e) (by omega) H_21.1 q_24) ?_
      rintro v_27 h_25 ⟨rfl, H_26⟩
      have H_26 := H_21.tr H_26
      obtain rfl := Option.some.inj hd
      exact wp_iret i_219_36 ⟨rfl, H_26⟩
    · rw [if_neg c_12] at hd
      refine wp_s 18 [some (.ref 382), some (.int x1)] [.int (-1 : Int32)] h_9 i_219_17 rfl ?_
      obtain rfl := Option.some.inj hd
      exact wp_iret i_219_18 ⟨rfl, H_10⟩
def l_220 (g n tag : Nat) (x1 : Int32) (x2 : Int32) (S : rS) : Option (Int32 × rS) := match n with
  | 0 => none
  | n + 1 => if tag = 0 then (if aIn (9 : Int32) 181 = true then (if ((S.2.1 20) (9 : Int32).toNatClampNeg) ≤ x2 then some (x1, S) else (if aIn ((64 : Int32) + x2) 181 = true then (l_220 g n 0 (x1 ||| ((1 : Int32) <<< (((S.2.1 20) ((64 : Int32) + x2).toNatClampNeg) &&& 31))) (x2 + (1 : Int32)) S) else none)) else none) else none
set_option maxHeartbeats 4000000 in
set_option maxRecDepth 100000 in
theorem l_220_ok {X : aX} {g d : Nat} (hdp : 0 ≤ d) : ∀ n, (∀ (x1 : Int32) (x2 : Int32) (S : rS) (h0 : aH) (zz : Int32 × rS), rm h0 S → l_220 g n 0 x1 x2 S = some zz → aWp X d 220 4 [some (.ref 382), some (.int x1), some (.int x2)] [] h0 (fun w h' => w = some (.int zz.1) ∧ rTo h0 zz.2 h')) := by
  intro n
  induction n with
  | zero => exact fun _ _ _ _ _ _ hd => by simp [l_220] at hd
  | succ n ih =>
    intro x1 x2 S h0 zz HS hd
    unfold l_220 at hd
    rw [if_pos rfl] at hd
    have HH := rTo.rf HS
    refine wp_s 5 [some (.ref 382), some (.int x1), some (.int x2)] [.int x2] h0 i_220_4 rfl ?_
    refine wp_s 6 [some (.ref 382), some (.int x1), some (.int x2)] [.ref 382, .int x2] h0 i_220_5 rfl ?_
    refine wp_get (v := .ref 392) 9 rfl i_220_6 (HH.1 0 (by decide)) rfl ?_
    refine wp_s 11 [some (.ref 382), some (.int x1), some (.int x2)] [.int (9 : Int32), .ref 392, .int x2] h0 i_220_9 rfl ?_
    obtain ⟨b_1, hd⟩ := dk_if hd
    refine wp_iald (f := (S.2.1 20)) 12 rfl i_220_11 (HH.1 10 (by decide)) b_1 ?_
    refine wp_cmp_ge 35 15 rfl rfl i_220_12 (fun c_2 => ?_) (fun c_2 => ?_)
    · rw [if_pos c_2] at hd
      refine wp_s 36 [some (.ref 382), some (.int x1), some (.int x2)] [.int x1] h0 i_220_35 rfl ?_
      obtain rfl := Option.some.inj hd
      exact wp_iret i_220_36 ⟨rfl, HH⟩
    · rw [if_neg c_2] at hd
      refine wp_s 16 [some (.ref 382), some (.int x1), some (.int x2)] [.int x1] h0 i_220_15 rfl ?_
      refine wp_s 17 [some (.ref 382), some (.int x1), some (.int x2)] [.int (1 : Int32), .int x1] h0 i_220_16 rfl ?_
      refine wp_s 18 [some (.ref 382), some (.int x1), some (.int x2)] [.ref 382, .int (1 : Int32), .int x1] h0 i_220_17 rfl ?_
      refine wp_get (v := .ref 392) 21 rfl i_220_18 (HH.1 0 (by decide)) rfl ?_
      refine wp_s 23 [some (.ref 382), some (.int x1), some (.int x2)] [.int (64 : Int32), .ref 392, .int (1 : Int32), .int x1] h0 i_220_21 rfl ?_
      refine wp_s 24 [some (.ref 382), some (.int x1), some (.int x2)] [.int x2, .int (64 : Int32), .ref 392, .int (1 : Int32), .int x1] h0 i_220_23 rfl ?_
      refine wp_s 25 [some (.ref 382), some (.int x1), some (.int x2)] [.int ((64 : Int32) + x2), .ref 392, .int (1 : Int32), .int x1] h0 i_220_24 rfl ?_
      obtain ⟨b_3, hd⟩ := dk_if hd
      refine wp_iald (f := (S.2.1 20)) 26 rfl i_220_25 (HH.1 10 (by decide)) b_3 ?_
      refine wp_s 27 [some (.ref 382), some (.int x1), some (.int x2)] [.int ((1 : Int32) <<< (((S.2.1 20) ((64 : Int32) + x2).toNatClampNeg) &&& 31)), .int x1] h0 i_220_26 rfl ?_
      refine wp_s 28 [some (.ref 382), some (.int x1), some (.int x2)] [.int (x1 ||| ((1 : Int32) <<< (((S.2.1 20) ((64 : Int32) + x2).toNatClampNeg) &&& 31)))] h0 i_220_27 rfl ?_
      refine wp_s 29 [some (.ref 382), some (.int (x1 ||| ((1 : Int32) <<< (((S.2.1 20) ((64 : Int32) + x2).toNatClampNeg) &&& 31)))), some (.int x2)] [] h0 i_220_28 rfl ?_
      refine wp_s 32 [some (.ref 382), some (.int (x1 ||| ((1 : Int32) <<< (((S.2.1 20) ((64 : Int32) + x2).toNatClampNeg) &&& 31)))), some (.int (x2 + (1 : Int32)))] [] h0 i_220_29 rfl ?_
      refine wp_s 4 [some (.ref 382), some (.int (x1 ||| ((1 : Int32) <<< (((S.2.1 20) ((64 : Int32) + x2).toNatClampNeg) &&& 31)))), some (.int (x2 + (1 : Int32)))] [] h0 i_220_32 rfl ?_
      exact aWp.post (aWp.forget (ih _ _ _ _ _ HH.1 hd) ((lvS (lvS (lvS lvE))))) (fun _ _ hq => ⟨hq.1, HH.tr hq.2⟩)
def d_220 (g : Nat)  (S : rS) : Option (Int32 × rS) := (l_220 g g 0 (0 : Int32) (0 : Int32) S)
set_option maxHeartbeats 4000000 in
set_option maxRecDepth 100000 in
theorem d_220_ok {X : aX} {g d : Nat}  {S : rS} {h0 : aH} {zz : Int32 × rS} (hdp : 0 ≤ d) (HS : rm h0 S) (hd : d_220 g  S = some zz) : aWp X d 220 0 (aEntL [.ref 382] 3) [] h0 (fun w h' => w = some (.int zz.1) ∧ rTo h0 zz.2 h') := by
  unfold d_220 at hd
  have HH := rTo.rf HS
  refine wp_lv (l2 := [some (.ref 382), none, none]) rfl ?_
  refine wp_s 1 [some (.ref 382), none, none] [.int (0 : Int32)] h0 i_220_0 rfl ?_
  refine wp_s 2 [some (.ref 382), some (.int (0 : Int32)), none] [] h0 i_220_1 rfl ?_
  refine wp_s 3 [some (.ref 382), some (.int (0 : Int32)), none] [.int (0 : Int32)] h0 i_220_2 rfl ?_
  refine wp_s 4 [some (.ref 382), some (.int (0 : Int32)), some (.int (0 : Int32))] [] h0 i_220_3 rfl ?_
  exact aWp.post (aWp.forget ((l_220_ok hdp g) _ _ _ _ _ HH.1 hd) ((lvS (lvS (lvS lvE))))) (fun _ _ hq => ⟨hq.1, HH.tr hq.2⟩)
def d_221 (g : Nat) (x1 : Int32) (S : rS) : Option (Int32 × rS) := ((d_190 g x1 S).bind (fun z_1 => (if z_1.1 = 0 then some ((-1 : Int32), z_1.2) else (if aIn ((69 : Int32) + x1) 181 = true then (if ((z_1.2.2.1 20) ((69 : Int32) + x1).toNatClampNeg) = (1 : Int32) then some ((-1 : Int32), z_1.2) else ((d_202 g x1 z_1.2).bind (fun z_9 => (if 0 ≤ z_9.1 then some ((-1 : Int32), z_9.2) else ((d_194 g x1 (3 : Int32) z_9.2).bind (fun z_15 => ((d_220 g  z_15.2).bind (fun z_20 => (if (z_15.1 &&& z_20.1) = 0 then ((d_214 g  z_20.2).bind (fun z_26 => (if aIn (9 : Int32) 181 = true then (if aIn ((64 : Int32) + ((z_26.2.1 20) (9 : Int32).toNatClampNeg)) 181 = true then (if aIn (9 : Int32) 181 = true then (if aIn (9 : Int32) 181 = true then (if aIn (9 : Int32) 181 = true then some (((upd (upd (z_26.2.1 20) ((64 : Int32) + ((z_26.2.1 20) (9 : Int32).toNatClampNeg)).toNatClampNeg x1) (9 : Int32).toNatClampNeg (((upd (z_26.2.1 20) ((64 : Int32) + ((z_26.2.1 20) (9 : Int32).toNatClampNeg)).toNatClampNeg x1) (9 : Int32).toNatClampNeg) + (1 : Int32))) (9 : Int32).toNatClampNeg), (rA (rA z_26 20 (upd (z_26.2.1 20) ((64 : Int32) + ((z_26.2.1 20) (9 : Int32).toNatClampNeg)).toNatClampNeg x1)) 20 (upd (upd (z_26.2.1 20) ((64 : Int32) + ((z_26.2.1 20) (9 : Int32).toNatClampNeg)).toNatClampNeg x1) (9 : Int32).toNatClampNeg (((upd (z_26.2.1 20) ((64 : Int32) + ((z_26.2.1 20) (9 : Int32).toNatClampNeg)).toNatClampNeg x1) (9 : Int32).toNatClampNeg) + (1 : Int32))))) else none) else none) else none) else none) else none))) else some ((-1 : Int32), z_20.2)))))))))) else none))))
set_option maxHeartbeats 4000000 in
set_option maxRecDepth 100000 in
theorem d_221_ok {X : aX} {g d : Nat} {x1 : Int32} {S : rS} {h0 : aH} {zz : Int32 × rS} (hdp : 1 ≤ d) (HS : rm h0 S) (hd : d_221 g x1 S = some zz) : aWp X d 221 0 (aEntL [.ref 382, .int x1] 2) [] h0 (fun w h' => w = some (.int zz.1) ∧ rTo h0 zz.2 h') := by
  unfold d_221 at hd
  have HH := rTo.rf HS
  refine wp_lv (l2 := [some (.ref 382), some (.int x1)]) rfl ?_
  obtain ⟨e, rfl⟩ : ∃ e, d = e + 1 := ⟨d - 1, by omega⟩
  refine wp_s 1 [some (.ref 382), some (.int x1)] [.ref 382] h0 i_221_0 rfl ?_
  refine wp_s 2 [some (.ref 382), some (.int x1)] [.int x1, .ref 382] h0 i_221_1 rfl ?_
  obtain ⟨z_1, q_2, hd⟩ := dk_bind hd
  refine wp_callV 5 rfl i_221_2 (by decide) rfl (vs := [.int x1]) (rest := []) rfl rfl rfl (HH.1 0 (by decide)) (y := m_190) rfl (Nat.le_of_ble_eq_true rfl) (d_190_ok (d := e) (by omega) HH.1 q_2) ?_
  rintro v_5 h_3 ⟨rfl, H_4⟩
  have H_4 := HH.tr H_4
  refine wp_if_eq 43 8 rfl rfl i_221_5 (fun c_6 => ?_) (fun c_6 => ?_)
  · rw [if_pos c_6] at hd
    refine wp_s 44 [some (.ref 382), some (.int x1)] [.int (-1 : Int32)] h_3 i_221_43 rfl ?_
    obtain rfl := Option.some.inj hd
    exact wp_iret i_221_44 ⟨rfl, H_4⟩
  · rw [if_neg c_6] at hd
    refine wp_s 9 [some (.ref 382), some (.int x1)] [.ref 382] h_3 i_221_8 rfl ?_
    refine wp_get (v := .ref 392) 12 rfl i_221_9 (H_4.1 0 (by decide)) rfl ?_
    refine wp_s 14 [some (.ref 382), some (.int x1)] [.int (69 : Int32), .ref 392] h_3 i_221_12 rfl ?_
    refine wp_s 15 [some (.ref 382), some (.int x1)] [.int x1, .int (69 : Int32), .ref 392] h_3 i_221_14 rfl ?_
    refine wp_s 16 [some (.ref 382), some (.int x1)] [.int ((69 : Int32) + x1), .ref 392] h_3 i_221_15 rfl ?_
    obtain ⟨b_7, hd⟩ := dk_if hd
    refine wp_iald (f := (z_1.2.2.1 20)) 17 rfl i_221_16 (H_4.1 10 (by decide)) b_7 ?_
    refine wp_s 18 [some (.ref 382), some (.int x1)] [.int (1 : Int32), .int ((z_1.2.2.1 20) ((69 : Int32) + x1).toNatClampNeg)] h_3 i_221_17 rfl ?_
    refine wp_cmp_eq 43 21 rfl rfl i_221_18 (fun c_8 => ?_) (fun c_8 => ?_)
    · rw [if_pos c_8] at hd
      refine wp_s 44 [some (.ref 382), some (.int x1)] [.int (-1 : Int32)] h_3 i_221_43 rfl ?_
      obtain rfl := Option.some.inj hd
      exact wp_iret i_221_44 ⟨rfl, H_4⟩
    · rw [if_neg c_8] at hd
      refine wp_s 22 [some (.ref 382), some (.int x1)] [.ref 382] h_3 i_221_21 rfl ?_
      refine wp_s 23 [some (.ref 382), some (.int x1)] [.int x1, .ref 382] h_3 i_221_22 rfl ?_
      obtain ⟨z_9, q_10, hd⟩ := dk_bind hd
      refine wp_callV 26 rfl i_221_23 (by decide) rfl (vs := [.int x1]) (rest := []) rfl rfl rfl (H_4.1 0 (by decide)) (y := m_202) rfl (Nat.le_of_ble_eq_true rfl) (d_202_ok (d := e) (by omega) H_4.1 q_10) ?_
      rintro v_13 h_11 ⟨rfl, H_12⟩
      have H_12 := H_4.tr H_12
      refine wp_if_ge 43 29 rfl rfl i_221_26 (fun c_14 => ?_) (fun c_14 => ?_)
      · rw [if_pos c_14] at hd
        refine wp_s 44 [some (.ref 382), some (.int x1)] [.int (-1 : Int32)] h_11 i_221_43 rfl ?_
        obtain rfl := Option.some.inj hd
        exact wp_iret i_221_44 ⟨rfl, H_12⟩
      · rw [if_neg c_14] at hd
        refine wp_s 30 [some (.ref 382), some (.int x1)] [.ref 382] h_11 i_221_29 rfl ?_
        refine wp_s 31 [some (.ref 382), some (.int x1)] [.int x1, .ref 382] h_11 i_221_30 rfl ?_
        refine wp_s 32 [some (.ref 382), some (.int x1)] [.int (3 : Int32), .int x1, .ref 382] h_11 i_221_31 rfl ?_
        obtain ⟨z_15, q_16, hd⟩ := dk_bind hd
        refine wp_callV 35 rfl i_221_32 (by decide) rfl (vs := [.int x1, .int (3 : Int32)]) (rest := []) rfl rfl rfl (H_12.1 0 (by decide)) (y := m_194) rfl (Nat.le_of_ble_eq_true rfl) (d_194_ok (d := e) (by omega) H_12.1 q_16) ?_
        rintro v_19 h_17 ⟨rfl, H_18⟩
        have H_18 := H_12.tr H_18
        refine wp_s 36 [some (.ref 382), some (.int x1)] [.ref 382, .int z_15.1] h_17 i_221_35 rfl ?_
        obtain ⟨z_20, q_21, hd⟩ := dk_bind hd
        refine wp_callV 39 rfl i_221_36 (by decide) rfl (vs := []) (rest := [.int z_15.1]) rfl rfl rfl (H_18.1 0 (by decide)) (y := m_220) rfl (Nat.le_of_ble_eq_true rfl) (d_220_ok (d := e) (by omega) H_18.1 q_21) ?_
        rintro v_24 h_22 ⟨rfl, H_23⟩
        have H_23 := H_18.tr H_23
        refine wp_s 40 [some (.ref 382), some (.int x1)] [.int (z_15.1 &&& z_20.1)] h_22 i_221_39 rfl ?_
        refine wp_if_eq 45 43 rfl rfl i_221_40 (fun c_25 => ?_) (fun c_25 => ?_)
        · rw [if_pos c_25] at hd
          refine wp_s 46 [some (.ref 382), some (.int x1)] [.ref 382] h_22 i_221_45 rfl ?_
          obtain ⟨z_26, q_27, hd⟩ := dk_bind hd
          refine wp_callV 49 rfl i_221_46 (by decide) rfl (vs := []) (rest := []) rfl rfl rfl (H_23.1 0 (by decide)) (y := m_214) rfl (Nat.le_of_ble_eq_true rfl) (d_214_ok (d := e) (by omega) H_23.1 q_27) ?_
          rintro v_30 h_28 ⟨rfl, H_29⟩
          have H_29 := H_23.tr H_29
          refine wp_s 50 [some (.ref 382), some (.int x1)] [.ref 382] h_28 i_221_49 rfl ?_
          refine wp_get (v := .ref 392) 53 rfl i_221_50 (H_29.1 0 (by decide)) rfl ?_
          refine wp_s 55 [some (.ref 382), some (.int x1)] [.int (64 : Int32), .ref 392] h_28 i_221_53 rfl ?_
          refine wp_s 56 [some (.ref 382), some (.int x1)] [.ref 382, .int (64 : Int32), .ref 392] h_28 i_221_55 rfl ?_
          refine wp_get (v := .ref 392) 59 rfl i_221_56 (H_29.1 0 (by decide)) rfl ?_
          refine wp_s 61 [some (.ref 382), some (.int x1)] [.int (9 : Int32), .ref 392, .int (64 : Int32), .ref 392] h_28 i_221_59 rfl ?_
          obtain ⟨b_31, hd⟩ := dk_if hd
          refine wp_iald (f := (z_26.2.1 20)) 62 rfl i_221_61 (H_29.1 10 (by decide)) b_31 ?_
          refine wp_s 63 [some (.ref 382), some (.int x1)] [.int ((64 : Int32) + ((z_26.2.1 20) (9 : Int32).toNatClampNeg)), .ref 392] h_28 i_221_62 rfl ?_
          refine wp_s 64 [some (.ref 382), some (.int x1)] [.int x1, .int ((64 : Int32) + ((z_26.2.1 20) (9 : Int32).toNatClampNeg)), .ref 392] h_28 i_221_63 rfl ?_
          obtain ⟨b_32, hd⟩ := dk_if hd
          refine rq_A20 65 rfl i_221_64 H_29 b_32 (fun h_33 H_34 => ?_)
          refine wp_s 66 [some (.ref 382), some (.int x1)] [.ref 382] h_33 i_221_65 rfl ?_
          refine wp_get (v := .ref 392) 69 rfl i_221_66 (H_34.1 0 (by decide)) rfl ?_
          refine wp_s 71 [some (.ref 382), some (.int x1)] [.int (9 : Int32), .ref 392] h_33 i_221_69 rfl ?_
          refine wp_s 72 [some (.ref 382), some (.int x1)] [.int (9 : Int32), .ref 392, .int (9 : Int32), .ref 392] h_33 i_221_71 rfl ?_
          obtain ⟨b_35, hd⟩ := dk_if hd
          refine wp_iald (f := (upd (z_26.2.1 20) ((64 : Int32) + ((z_26.2.1 20) (9 : Int32).toNatClampNeg)).toNatClampNeg x1)) 73 rfl i_221_72 (H_34.1 10 (by decide)) b_35 ?_
          refine wp_s 74 [some (.ref 382), some (.int x1)] [.int (1 : Int32), .int ((upd (z_26.2.1 20) ((64 : Int32) + ((z_26.2.1 20) (9 : Int32).toNatClampNeg)).toNatClampNeg x1) (9 : Int32).toNatClampNeg), .int (9 : Int32), .ref 392] h_33 i_221_73 rfl ?_
          refine wp_s 75 [some (.ref 382), some (.int x1)] [.int (((upd (z_26.2.1 20) ((64 : Int32) + ((z_26.2.1 20) (9 : Int32).toNatClampNeg)).toNatClampNeg x1) (9 : Int32).toNatClampNeg) + (1 : Int32)), .int (9 : Int32), .ref 392] h_33 i_221_74 rfl ?_
          obtain ⟨b_36, hd⟩ := dk_if hd
          refine rq_A20 76 rfl i_221_75 H_34 b_36 (fun h_37 H_38 => ?_)
          refine wp_s 77 [some (.ref 382), some (.int x1)] [.ref 382] h_37 i_221_76 rfl ?_
          refine wp_get (v := .ref 392) 80 rfl i_221_77 (H_38.1 0 (by decide)) rfl ?_
          refine wp_s 82 [some (.ref 382), some (.int x1)] [.int (9 : Int32), .ref 392] h_37 i_221_80 rfl ?_
          obtain ⟨b_39, hd⟩ := dk_if hd
          refine wp_iald (f := (upd (upd (z_26.2.1 20) ((64 : Int32) + ((z_26.2.1 20) (9 : Int32).toNatClampNeg)).toNatClampNeg x1) (9 : Int32).toNatClampNeg (((upd (z_26.2.1 20) ((64 : Int32) + ((z_26.2.1 20) (9 : Int32).toNatClampNeg)).toNatClampNeg x1) (9 : Int32).toNatClampNeg) + (1 : Int32)))) 83 rfl i_221_82 (H_38.1 10 (by decide)) b_39 ?_
          obtain rfl := Option.some.inj hd
          exact wp_iret i_221_83 ⟨rfl, H_38⟩
        · rw [if_neg c_25] at hd
          refine wp_s 44 [some (.ref 382), some (.int x1)] [.int (-1 : Int32)] h_22 i_221_43 rfl ?_
          obtain rfl := Option.some.inj hd
          exact wp_iret i_221_44 ⟨rfl, H_23⟩
def l_222 (g n tag : Nat) (x1 : Int32) (x2 : Int32) (S : rS) : Option (Int32 × rS) := match n with
  | 0 => none
  | n + 1 => if tag = 0 then (if aIn (9 : Int32) 181 = true then (if ((S.2.1 20) (9 : Int32).toNatClampNeg) ≤ x2 then (if aIn (9 : Int32) 181 = true then (if aIn (9 : Int32) 181 = true then (if aIn (9 : Int32) 181 = true then some (((upd (S.2.1 20) (9 : Int32).toNatClampNeg (((S.2.1 20) (9 : Int32).toNatClampNeg) - (1 : Int32))) (9 : Int32).toNatClampNeg), (rA S 20 (upd (S.2.1 20) (9 : Int32).toNatClampNeg (((S.2.1 20) (9 : Int32).toNatClampNeg) - (1 : Int32))))) else none) else none) else none) else (if aIn ((64 : Int32) + x2) 181 = true then (if aIn (((64 : Int32) + x2) - (1 : Int32)) 181 = true then (l_222 g n 0 x1 (x2 + (1 : Int32)) (rA S 20 (upd (S.2.1 20) (((64 : Int32) + x2) - (1 : Int32)).toNatClampNeg ((S.2.1 20) ((64 : Int32) + x2).toNatClampNeg)))) else none) else none)) else none) else none
set_option maxHeartbeats 4000000 in
set_option maxRecDepth 100000 in
theorem l_222_ok {X : aX} {g d : Nat} (hdp : 1 ≤ d) : ∀ n, (∀ (x1 : Int32) (x2 : Int32) (S : rS) (h0 : aH) (zz : Int32 × rS), rm h0 S → l_222 g n 0 x1 x2 S = some zz → aWp X d 222 30 [some (.ref 382), some (.int x1), some (.int x2)] [] h0 (fun w h' => w = some (.int zz.1) ∧ rTo h0 zz.2 h')) := by
  intro n
  induction n with
  | zero => exact fun _ _ _ _ _ _ hd => by simp [l_222] at hd
  | succ n ih =>
    intro x1 x2 S h0 zz HS hd
    unfold l_222 at hd
    rw [if_pos rfl] at hd
    have HH := rTo.rf HS
    obtain ⟨e, rfl⟩ : ∃ e, d = e + 1 := ⟨d - 1, by omega⟩
    refine wp_s 31 [some (.ref 382), some (.int x1), some (.int x2)] [.int x2] h0 i_222_30 rfl ?_
    refine wp_s 32 [some (.ref 382), some (.int x1), some (.int x2)] [.ref 382, .int x2] h0 i_222_31 rfl ?_
    refine wp_get (v := .ref 392) 35 rfl i_222_32 (HH.1 0 (by decide)) rfl ?_
    refine wp_s 37 [some (.ref 382), some (.int x1), some (.int x2)] [.int (9 : Int32), .ref 392, .int x2] h0 i_222_35 rfl ?_
    obtain ⟨b_1, hd⟩ := dk_if hd
    refine wp_iald (f := (S.2.1 20)) 38 rfl i_222_37 (HH.1 10 (by decide)) b_1 ?_
    refine wp_cmp_ge 67 41 rfl rfl i_222_38 (fun c_2 => ?_) (fun c_2 => ?_)
    · rw [if_pos c_2] at hd
      refine wp_s 68 [some (.ref 382), some (.int x1), some (.int x2)] [.ref 382] h0 i_222_67 rfl ?_
      refine wp_get (v := .ref 392) 71 rfl i_222_68 (HH.1 0 (by decide)) rfl ?_
      refine wp_s 73 [some (.ref 382), some (.int x1), some (.int x2)] [.int (9 : Int32), .ref 392] h0 i_222_71 rfl ?_
      refine wp_s 74 [some (.ref 382), some (.int x1), some (.int x2)] [.int (9 : Int32), .ref 392, .int (9 : Int32), .ref 392] h0 i_222_73 rfl ?_
      obtain ⟨b_3, hd⟩ := dk_if hd
      refine wp_iald (f := (S.2.1 20)) 75 rfl i_222_74 (HH.1 10 (by decide)) b_3 ?_
      refine wp_s 76 [some (.ref 382), some (.int x1), some (.int x2)] [.int (1 : Int32), .int ((S.2.1 20) (9 : Int32).toNatClampNeg), .int (9 : Int32), .ref 392] h0 i_222_75 rfl ?_
      refine wp_s 77 [some (.ref 382), some (.int x1), some (.int x2)] [.int (((S.2.1 20) (9 : Int32).toNatClampNeg) - (1 : Int32)), .int (9 : Int32), .ref 392] h0 i_222_76 rfl ?_
      obtain ⟨b_4, hd⟩ := dk_if hd
      refine rq_A20 78 rfl i_222_77 HH b_4 (fun h_5 H_6 => ?_)
      refine wp_s 79 [some (.ref 382), some (.int x1), some (.int x2)] [.ref 382] h_5 i_222_78 rfl ?_
      refine wp_get (v := .ref 392) 82 rfl i_222_79 (H_6.1 0 (by decide)) rfl ?_
      refine wp_s 84 [some (.ref 382), some (.int x1), some (.int x2)] [.int (9 : Int32), .ref 392] h_5 i_222_82 rfl ?_
      obtain ⟨b_7, hd⟩ := dk_if hd
      refine wp_iald (f := (upd (S.2.1 20) (9 : Int32).toNatClampNeg (((S.2.1 20) (9 : Int32).toNatClampNeg) - (1 : Int32)))) 85 rfl i_222_84 (H_6.1 10 (by decide)) b_7 ?_
      obtain rfl := Option.some.inj hd
      exact wp_iret i_222_85 ⟨rfl, H_6⟩
    · rw [if_neg c_2] at hd
      refine wp_s 42 [some (.ref 382), some (.int x1), some (.int x2)] [.ref 382] h0 i_222_41 rfl ?_
      refine wp_get (v := .ref 392) 45 rfl i_222_42 (HH.1 0 (by decide)) rfl ?_
      refine wp_s 47 [some (.ref 382), some (.int x1), some (.int x2)] [.int (64 : Int32), .ref 392] h0 i_222_45 rfl ?_
      refine wp_s 48 [some (.ref 382), some (.int x1), some (.int x2)] [.int x2, .int (64 : Int32), .ref 392] h0 i_222_47 rfl ?_
      refine wp_s 49 [some (.ref 382), some (.int x1), some (.int x2)] [.int ((64 : Int32) + x2), .ref 392] h0 i_222_48 rfl ?_
      refine wp_s 50 [some (.ref 382), some (.int x1), some (.int x2)] [.int (1 : Int32), .int ((64 : Int32) + x2), .ref 392] h0 i_222_49 rfl ?_
      refine wp_s 51 [some (.ref 382), some (.int x1), some (.int x2)] [.int (((64 : Int32) + x2) - (1 : Int32)), .ref 392] h0 i_222_50 rfl ?_
      refine wp_s 52 [some (.ref 382), some (.int x1), some (.int x2)] [.ref 382, .int (((64 : Int32) + x2) - (1 : Int32)), .ref 392] h0 i_222_51 rfl ?_
      refine wp_get (v := .ref 392) 55 rfl i_222_52 (HH.1 0 (by decide)) rfl ?_
      refine wp_s 57 [some (.ref 382), some (.int x1), some (.int x2)] [.int (64 : Int32), .ref 392, .int (((64 : Int32) + x2) - (1 : Int32)), .ref 392] h0 i_222_55 rfl ?_
      refine wp_s 58 [some (.ref 382), some (.int x1), some (.int x2)] [.int x2, .int (64 : Int32), .ref 392, .int (((64 : Int32) + x2) - (1 : Int32)), .ref 392] h0 i_222_57 rfl ?_
      refine wp_s 59 [some (.ref 382), some (.int x1), some (.int x2)] [.int ((64 : Int32) + x2), .ref 392, .int (((64 : Int32) + x2) - (1 : Int32)), .ref 392] h0 i_222_58 rfl ?_
      obtain ⟨b_8, hd⟩ := dk_if hd
      refine wp_iald (f := (S.2.1 20)) 60 rfl i_222_59 (HH.1 10 (by decide)) b_8 ?_
      obtain ⟨b_9, hd⟩ := dk_if hd
      refine rq_A20 61 rfl i_222_60 HH b_9 (fun h_10 H_11 => ?_)
      refine wp_s 64 [some (.ref 382), some (.int x1), some (.int (x2 + (1 : Int32)))] [] h_10 i_222_61 rfl ?_
      refine wp_s 30 [some (.ref 382), some (.int x1), some (.int (x2 + (1 : Int32)))] [] h_10 i_222_64 rfl ?_
      exact aWp.post (aWp.forget (ih _ _ _ _ _ H_11.1 hd) ((lvS (lvS (lvS lvE))))) (fun _ _ hq => ⟨hq.1, H_11.tr hq.2⟩)
def d_222 (g : Nat) (x1 : Int32) (S : rS) : Option (Int32 × rS) := ((d_190 g x1 S).bind (fun z_1001 => (if z_1001.1 = 0 then some ((-1 : Int32), z_1001.2) else ((d_202 g x1 z_1001.2).bind (fun z_1007 => (if 0 ≤ z_1007.1 then ((d_214 g  z_1007.2).bind (fun z_1013 => ((d_202 g x1 z_1013).bind (fun z_1018 => (l_222 g g 0 x1 (z_1018.1 + (1 : Int32)) z_1018.2))))) else some ((-1 : Int32), z_1007.2)))))))
set_option maxHeartbeats 4000000 in
set_option maxRecDepth 100000 in
theorem d_222_ok {X : aX} {g d : Nat} {x1 : Int32} {S : rS} {h0 : aH} {zz : Int32 × rS} (hdp : 1 ≤ d) (HS : rm h0 S) (hd : d_222 g x1 S = some zz) : aWp X d 222 0 (aEntL [.ref 382, .int x1] 3) [] h0 (fun w h' => w = some (.int zz.1) ∧ rTo h0 zz.2 h') := by
  unfold d_222 at hd
  have HH := rTo.rf HS
  refine wp_lv (l2 := [some (.ref 382), some (.int x1), none]) rfl ?_
  obtain ⟨e, rfl⟩ : ∃ e, d = e + 1 := ⟨d - 1, by omega⟩
  refine wp_s 1 [some (.ref 382), some (.int x1), none] [.ref 382] h0 i_222_0 rfl ?_
  refine wp_s 2 [some (.ref 382), some (.int x1), none] [.int x1, .ref 382] h0 i_222_1 rfl ?_
  obtain ⟨z_1001, q_1002, hd⟩ := dk_bind hd
  refine wp_callV 5 rfl i_222_2 (by decide) rfl (vs := [.int x1]) (rest := []) rfl rfl rfl (HH.1 0 (by decide)) (y := m_190) rfl (Nat.le_of_ble_eq_true rfl) (d_190_ok (d := e) (by omega) HH.1 q_1002) ?_
  rintro v_1005 h_1003 ⟨rfl, H_1004⟩
  have H_1004 := HH.tr H_1004
  refine wp_if_eq 16 8 rfl rfl i_222_5 (fun c_1006 => ?_) (fun c_1006 => ?_)
  · rw [if_pos c_1006] at hd
    refine wp_s 17 [some (.ref 382), some (.int x1), none] [.int (-1 : Int32)] h_1003 i_222_16 rfl ?_
    obtain rfl := Option.some.inj hd
    exact wp_iret i_222_17 ⟨rfl, H_1004⟩
  · rw [if_neg c_1006] at hd
    refine wp_s 9 [some (.ref 382), some (.int x1), none] [.ref 382] h_1003 i_222_8 rfl ?_
    refine wp_s 10 [some (.ref 382), some (.int x1), none] [.int x1, .ref 382] h_1003 i_222_9 rfl ?_
    obtain ⟨z_1007, q_1008, hd⟩ := dk_bind hd
    refine wp_callV 13 rfl i_222_10 (by decide) rfl (vs := [.int x1]) (rest := []) rfl rfl rfl (H_1004.1 0 (by decide)) (y := m_202) rfl (Nat.le_of_ble_eq_true rfl) (d_202_ok (d := e) (by omega) H_1004.1 q_1008) ?_
    rintro v_1011 h_1009 ⟨rfl, H_1010⟩
    have H_1010 := H_1004.tr H_1010
    refine wp_if_ge 18 16 rfl rfl i_222_13 (fun c_1012 => ?_) (fun c_1012 => ?_)
    · rw [if_pos c_1012] at hd
      refine wp_s 19 [some (.ref 382), some (.int x1), none] [.ref 382] h_1009 i_222_18 rfl ?_
      obtain ⟨z_1013, q_1014, hd⟩ := dk_bind hd
      refine wp_callV 22 rfl i_222_19 (by decide) rfl (vs := []) (rest := []) rfl rfl rfl (H_1010.1 0 (by decide)) (y := m_214) rfl (Nat.le_of_ble_eq_true rfl) (d_214_ok (d := e) (by omega) H_1010.1 q_1014) ?_
      rintro v_1017 h_1015 ⟨rfl, H_1016⟩
      have H_1016 := H_1010.tr H_1016
      refine wp_s 23 [some (.ref 382), some (.int x1), none] [.ref 382] h_1015 i_222_22 rfl ?_
      refine wp_s 24 [some (.ref 382), some (.int x1), none] [.int x1, .ref 382] h_1015 i_222_23 rfl ?_
      obtain ⟨z_1018, q_1019, hd⟩ := dk_bind hd
      refine wp_callV 27 rfl i_222_24 (by decide) rfl (vs := [.int x1]) (rest := []) rfl rfl rfl (H_1016.1 0 (by decide)) (y := m_202) rfl (Nat.le_of_ble_eq_true rfl) (d_202_ok (d := e) (by omega) H_1016.1 q_1019) ?_
      rintro v_1022 h_1020 ⟨rfl, H_1021⟩
      have H_1021 := H_1016.tr H_1021
      refine wp_s 28 [some (.ref 382), some (.int x1), none] [.int (1 : Int32), .int z_1018.1] h_1020 i_222_27 rfl ?_
      refine wp_s 29 [some (.ref 382), some (.int x1), none] [.int (z_1018.1 + (1 : Int32))] h_1020 i_222_28 rfl ?_
      refine wp_s 30 [some (.ref 382), some (.int x1), some (.int (z_1018.1 + (1 : Int32)))] [] h_1020 i_222_29 rfl ?_
      exact aWp.post (aWp.forget ((l_222_ok hdp g) _ _ _ _ _ H_1021.1 hd) ((lvS (lvS (lvS lvE))))) (fun _ _ hq => ⟨hq.1, H_1021.tr hq.2⟩)
    · rw [if_neg c_1012] at hd
      refine wp_s 17 [some (.ref 382), some (.int x1), none] [.int (-1 : Int32)] h_1009 i_222_16 rfl ?_
      obtain rfl := Option.some.inj hd
      exact wp_iret i_222_17 ⟨rfl, H_1010⟩
def d_223 (g : Nat) (x1 : Int32) (S : rS) : Option (rS) := ((d_191 g x1 (3 : Int32) S).bind (fun z_1 => (if (99 : Int32) ≤ z_1.1 then some z_1.2 else ((d_217 g x1 (3 : Int32) (1 : Int32) z_1.2).bind (fun z_7 => some z_7)))))
set_option maxHeartbeats 4000000 in
set_option maxRecDepth 100000 in
theorem d_223_ok {X : aX} {g d : Nat} {x1 : Int32} {S : rS} {h0 : aH} {zz : rS} (hdp : 1 ≤ d) (HS : rm h0 S) (hd : d_223 g x1 S = some zz) : aWp X d 223 0 (aEntL [.ref 382, .int x1] 2) [] h0 (fun w h' => w = none ∧ rTo h0 zz h') := by
  unfold d_223 at hd
  have HH := rTo.rf HS
  refine wp_lv (l2 := [some (.ref 382), some (.int x1)]) rfl ?_
  obtain ⟨e, rfl⟩ : ∃ e, d = e + 1 := ⟨d - 1, by omega⟩
  refine wp_s 1 [some (.ref 382), some (.int x1)] [.ref 382] h0 i_223_0 rfl ?_
  refine wp_s 2 [some (.ref 382), some (.int x1)] [.int x1, .ref 382] h0 i_223_1 rfl ?_
  refine wp_s 3 [some (.ref 382), some (.int x1)] [.int (3 : Int32), .int x1, .ref 382] h0 i_223_2 rfl ?_
  obtain ⟨z_1, q_2, hd⟩ := dk_bind hd
  refine wp_callV 6 rfl i_223_3 (by decide) rfl (vs := [.int x1, .int (3 : Int32)]) (rest := []) rfl rfl rfl (HH.1 0 (by decide)) (y := m_191) rfl (Nat.le_of_ble_eq_true rfl) (d_191_ok (d := e) (by omega) HH.1 q_2) ?_
  rintro v_5 h_3 ⟨rfl, H_4⟩
  have H_4 := HH.tr H_4
  refine wp_s 8 [some (.ref 382), some (.int x1)] [.int (99 : Int32), .int z_1.1] h_3 i_223_6 rfl ?_
  refine wp_cmp_ge 18 11 rfl rfl i_223_8 (fun c_6 => ?_) (fun c_6 => ?_)
  · rw [if_pos c_6] at hd
    obtain rfl := Option.some.inj hd
    exact wp_ret i_223_18 rfl ⟨rfl, H_4⟩
  · rw [if_neg c_6] at hd
    refine wp_s 12 [some (.ref 382), some (.int x1)] [.ref 382] h_3 i_223_11 rfl ?_
    refine wp_s 13 [some (.ref 382), some (.int x1)] [.int x1, .ref 382] h_3 i_223_12 rfl ?_
    refine wp_s 14 [some (.ref 382), some (.int x1)] [.int (3 : Int32), .int x1, .ref 382] h_3 i_223_13 rfl ?_
    refine wp_s 15 [some (.ref 382), some (.int x1)] [.int (1 : Int32), .int (3 : Int32), .int x1, .ref 382] h_3 i_223_14 rfl ?_
    obtain ⟨z_7, q_8, hd⟩ := dk_bind hd
    refine wp_callV 18 rfl i_223_15 (by decide) rfl (vs := [.int x1, .int (3 : Int32), .int (1 : Int32)]) (rest := []) rfl rfl rfl (H_4.1 0 (by decide)) (y := m_217) rfl (Nat.le_of_ble_eq_true rfl) (d_217_ok (d := e) (by omega) H_4.1 q_8) ?_
    rintro v_11 h_9 ⟨rfl, H_10⟩
    have H_10 := H_4.tr H_10
    obtain rfl := Option.some.inj hd
    exact wp_ret i_223_18 rfl ⟨rfl, H_10⟩
def d_224 (g : Nat) (x1 : Int32) (S : rS) : Option (Int32 × rS) := ((d_188 g x1 S).bind (fun z_1 => (if ¬ z_1.1 = 0 then ((d_214 g  z_1.2).bind (fun z_7 => ((d_223 g x1 z_7).bind (fun z_12 => ((d_200 g x1 z_12).bind (fun z_17 => some (z_17.1, z_17.2))))))) else some ((-1 : Int32), z_1.2))))
set_option maxHeartbeats 4000000 in
set_option maxRecDepth 100000 in
theorem d_224_ok {X : aX} {g d : Nat} {x1 : Int32} {S : rS} {h0 : aH} {zz : Int32 × rS} (hdp : 6 ≤ d) (HS : rm h0 S) (hd : d_224 g x1 S = some zz) : aWp X d 224 0 (aEntL [.ref 382, .int x1] 2) [] h0 (fun w h' => w = some (.int zz.1) ∧ rTo h0 zz.2 h') := by
  unfold d_224 at hd
  have HH := rTo.rf HS
  refine wp_lv (l2 := [some (.ref 382), some (.int x1)]) rfl ?_
  obtain ⟨e, rfl⟩ : ∃ e, d = e + 1 := ⟨d - 1, by omega⟩
  refine wp_s 1 [some (.ref 382), some (.int x1)] [.ref 382] h0 i_224_0 rfl ?_
  refine wp_s 2 [some (.ref 382), some (.int x1)] [.int x1, .ref 382] h0 i_224_1 rfl ?_
  obtain ⟨z_1, q_2, hd⟩ := dk_bind hd
  refine wp_callV 5 rfl i_224_2 (by decide) rfl (vs := [.int x1]) (rest := []) rfl rfl rfl (HH.1 0 (by decide)) (y := m_188) rfl (Nat.le_of_ble_eq_true rfl) (d_188_ok (d := e) (by omega) HH.1 q_2) ?_
  rintro v_5 h_3 ⟨rfl, H_4⟩
  have H_4 := HH.tr H_4
  refine wp_if_ne 10 8 rfl rfl i_224_5 (fun c_6 => ?_) (fun c_6 => ?_)
  · rw [if_pos c_6] at hd
    refine wp_s 11 [some (.ref 382), some (.int x1)] [.ref 382] h_3 i_224_10 rfl ?_
    obtain ⟨z_7, q_8, hd⟩ := dk_bind hd
    refine wp_callV 14 rfl i_224_11 (by decide) rfl (vs := []) (rest := []) rfl rfl rfl (H_4.1 0 (by decide)) (y := m_214) rfl (Nat.le_of_ble_eq_true rfl) (d_214_ok (d := e) (by omega) H_4.1 q_8) ?_
    rintro v_11 h_9 ⟨rfl, H_10⟩
    have H_10 := H_4.tr H_10
    refine wp_s 15 [some (.ref 382), some (.int x1)] [.ref 382] h_9 i_224_14 rfl ?_
    refine wp_s 16 [some (.ref 382), some (.int x1)] [.int x1, .ref 382] h_9 i_224_15 rfl ?_
    obtain ⟨z_12, q_13, hd⟩ := dk_bind hd
    refine wp_callV 19 rfl i_224_16 (by decide) rfl (vs := [.int x1]) (rest := []) rfl rfl rfl (H_10.1 0 (by decide)) (y := m_223) rfl (Nat.le_of_ble_eq_true rfl) (d_223_ok (d := e) (by omega) H_10.1 q_13) ?_
    rintro v_16 h_14 ⟨rfl, H_15⟩
    have H_15 := H_10.tr H_15
    refine wp_s 20 [some (.ref 382), some (.int x1)] [.ref 382] h_14 i_224_19 rfl ?_
    refine wp_s 21 [some (.ref 382), some (.int x1)] [.int x1, .ref 382] h_14 i_224_20 rfl ?_
    obtain ⟨z_17, q_18, hd⟩ := dk_bind hd
    refine wp_callV 24 rfl i_224_21 (by decide) rfl (vs := [.int x1]) (rest := []) rfl rfl rfl (H_15.1 0 (by decide)) (y := m_200) rfl (Nat.le_of_ble_eq_true rfl) (d_200_ok (d := e) (by omega) H_15.1 q_18) ?_
    rintro v_21 h_19 ⟨rfl, H_20⟩
    have H_20 := H_15.tr H_20
    obtain rfl := Option.some.inj hd
    exact wp_iret i_224_24 ⟨rfl, H_20⟩
  · rw [if_neg c_6] at hd
    refine wp_s 9 [some (.ref 382), some (.int x1)] [.int (-1 : Int32)] h_3 i_224_8 rfl ?_
    obtain rfl := Option.some.inj hd
    exact wp_iret i_224_9 ⟨rfl, H_4⟩
def d_226 (g : Nat) (x1 : Int32) (S : rS) : Option (rS) := ((d_191 g x1 (1 : Int32) S).bind (fun z_1 => ((d_217 g x1 (0 : Int32) (-z_1.1) z_1.2).bind (fun z_6 => ((d_217 g x1 (2 : Int32) z_1.1 z_6).bind (fun z_11 => (if aIn (((16 : Int32) + ((5 : Int32) * x1)) + (4 : Int32)) 181 = true then (if aIn (((16 : Int32) + ((5 : Int32) * x1)) + (1 : Int32)) 181 = true then some (rA (rA z_11 20 (upd (z_11.2.1 20) (((16 : Int32) + ((5 : Int32) * x1)) + (4 : Int32)).toNatClampNeg z_1.1)) 20 (upd (upd (z_11.2.1 20) (((16 : Int32) + ((5 : Int32) * x1)) + (4 : Int32)).toNatClampNeg z_1.1) (((16 : Int32) + ((5 : Int32) * x1)) + (1 : Int32)).toNatClampNeg (0 : Int32))) else none) else none)))))))
set_option maxHeartbeats 4000000 in
set_option maxRecDepth 100000 in
theorem d_226_ok {X : aX} {g d : Nat} {x1 : Int32} {S : rS} {h0 : aH} {zz : rS} (hdp : 1 ≤ d) (HS : rm h0 S) (hd : d_226 g x1 S = some zz) : aWp X d 226 0 (aEntL [.ref 382, .int x1] 3) [] h0 (fun w h' => w = none ∧ rTo h0 zz h') := by
  unfold d_226 at hd
  have HH := rTo.rf HS
  refine wp_lv (l2 := [some (.ref 382), some (.int x1), none]) rfl ?_
  obtain ⟨e, rfl⟩ : ∃ e, d = e + 1 := ⟨d - 1, by omega⟩
  refine wp_s 1 [some (.ref 382), some (.int x1), none] [.ref 382] h0 i_226_0 rfl ?_
  refine wp_s 2 [some (.ref 382), some (.int x1), none] [.int x1, .ref 382] h0 i_226_1 rfl ?_
  refine wp_s 3 [some (.ref 382), some (.int x1), none] [.int (1 : Int32), .int x1, .ref 382] h0 i_226_2 rfl ?_
  obtain ⟨z_1, q_2, hd⟩ := dk_bind hd
  refine wp_callV 6 rfl i_226_3 (by decide) rfl (vs := [.int x1, .int (1 : Int32)]) (rest := []) rfl rfl rfl (HH.1 0 (by decide)) (y := m_191) rfl (Nat.le_of_ble_eq_true rfl) (d_191_ok (d := e) (by omega) HH.1 q_2) ?_
  rintro v_5 h_3 ⟨rfl, H_4⟩
  have H_4 := HH.tr H_4
  refine wp_s 7 [some (.ref 382), some (.int x1), some (.int z_1.1)] [] h_3 i_226_6 rfl ?_
  refine wp_s 8 [some (.ref 382), some (.int x1), some (.int z_1.1)] [.ref 382] h_3 i_226_7 rfl ?_
  refine wp_s 9 [some (.ref 382), some (.int x1), some (.int z_1.1)] [.int x1, .ref 382] h_3 i_226_8 rfl ?_
  refine wp_s 10 [some (.ref 382), some (.int x1), some (.int z_1.1)] [.int (0 : Int32), .int x1, .ref 382] h_3 i_226_9 rfl ?_
  refine wp_s 11 [some (.ref 382), some (.int x1), some (.int z_1.1)] [.int z_1.1, .int (0 : Int32), .int x1, .ref 382] h_3 i_226_10 rfl ?_
  refine wp_s 12 [some (.ref 382), some (.int x1), some (.int z_1.1)] [.int (-z_1.1), .int (0 : Int32), .int x1, .ref 382] h_3 i_226_11 rfl ?_
  obtain ⟨z_6, q_7, hd⟩ := dk_bind hd
  refine wp_callV 15 rfl i_226_12 (by decide) rfl (vs := [.int x1, .int (0 : Int32), .int (-z_1.1)]) (rest := []) rfl rfl rfl (H_4.1 0 (by decide)) (y := m_217) rfl (Nat.le_of_ble_eq_true rfl) (d_217_ok (d := e) (by omega) H_4.1 q_7) ?_
  rintro v_10 h_8 ⟨rfl, H_9⟩
  have H_9 := H_4.tr H_9
  refine wp_s 16 [some (.ref 382), some (.int x1), some (.int z_1.1)] [.ref 382] h_8 i_226_15 rfl ?_
  refine wp_s 17 [some (.ref 382), some (.int x1), some (.int z_1.1)] [.int x1, .ref 382] h_8 i_226_16 rfl ?_
  refine wp_s 18 [some (.ref 382), some (.int x1), some (.int z_1.1)] [.int (2 : Int32), .int x1, .ref 382] h_8 i_226_17 rfl ?_
  refine wp_s 19 [some (.ref 382), some (.int x1), some (.int z_1.1)] [.int z_1.1, .int (2 : Int32), .int x1, .ref 382] h_8 i_226_18 rfl ?_
  obtain ⟨z_11, q_12, hd⟩ := dk_bind hd
  refine wp_callV 22 rfl i_226_19 (by decide) rfl (vs := [.int x1, .int (2 : Int32), .int z_1.1]) (rest := []) rfl rfl rfl (H_9.1 0 (by decide)) (y := m_217) rfl (Nat.le_of_ble_eq_true rfl) (d_217_ok (d := e) (by omega) H_9.1 q_12) ?_
  rintro v_15 h_13 ⟨rfl, H_14⟩
  have H_14 := H_9.tr H_14
  refine wp_s 23 [some (.ref 382), some (.int x1), some (.int z_1.1)] [.ref 382] h_13 i_226_22 rfl ?_
  refine wp_get (v := .ref 392) 26 rfl i_226_23 (H_14.1 0 (by decide)) rfl ?_
  refine wp_s 28 [some (.ref 382), some (.int x1), some (.int z_1.1)] [.int (16 : Int32), .ref 392] h_13 i_226_26 rfl ?_
  refine wp_s 29 [some (.ref 382), some (.int x1), some (.int z_1.1)] [.int (5 : Int32), .int (16 : Int32), .ref 392] h_13 i_226_28 rfl ?_
  refine wp_s 30 [some (.ref 382), some (.int x1), some (.int z_1.1)] [.int x1, .int (5 : Int32), .int (16 : Int32), .ref 392] h_13 i_226_29 rfl ?_
  refine wp_s 31 [some (.ref 382), some (.int x1), some (.int z_1.1)] [.int ((5 : Int32) * x1), .int (16 : Int32), .ref 392] h_13 i_226_30 rfl ?_
  refine wp_s 32 [some (.ref 382), some (.int x1), some (.int z_1.1)] [.int ((16 : Int32) + ((5 : Int32) * x1)), .ref 392] h_13 i_226_31 rfl ?_
  refine wp_s 33 [some (.ref 382), some (.int x1), some (.int z_1.1)] [.int (4 : Int32), .int ((16 : Int32) + ((5 : Int32) * x1)), .ref 392] h_13 i_226_32 rfl ?_
  refine wp_s 34 [some (.ref 382), some (.int x1), some (.int z_1.1)] [.int (((16 : Int32) + ((5 : Int32) * x1)) + (4 : Int32)), .ref 392] h_13 i_226_33 rfl ?_
  refine wp_s 35 [some (.ref 382), some (.int x1), some (.int z_1.1)] [.int z_1.1, .int (((16 : Int32) + ((5 : Int32) * x1)) + (4 : Int32)), .ref 392] h_13 i_226_34 rfl ?_
  obtain ⟨b_16, hd⟩ := dk_if hd
  refine rq_A20 36 rfl i_226_35 H_14 b_16 (fun h_17 H_18 => ?_)
  refine wp_s 37 [some (.ref 382), some (.int x1), some (.int z_1.1)] [.ref 382] h_17 i_226_36 rfl ?_
  refine wp_get (v := .ref 392) 40 rfl i_226_37 (H_18.1 0 (by decide)) rfl ?_
  refine wp_s 42 [some (.ref 382), some (.int x1), some (.int z_1.1)] [.int (16 : Int32), .ref 392] h_17 i_226_40 rfl ?_
  refine wp_s 43 [some (.ref 382), some (.int x1), some (.int z_1.1)] [.int (5 : Int32), .int (16 : Int32), .ref 392] h_17 i_226_42 rfl ?_
  refine wp_s 44 [some (.ref 382), some (.int x1), some (.int z_1.1)] [.int x1, .int (5 : Int32), .int (16 : Int32), .ref 392] h_17 i_226_43 rfl ?_
  refine wp_s 45 [some (.ref 382), some (.int x1), some (.int z_1.1)] [.int ((5 : Int32) * x1), .int (16 : Int32), .ref 392] h_17 i_226_44 rfl ?_
  refine wp_s 46 [some (.ref 382), some (.int x1), some (.int z_1.1)] [.int ((16 : Int32) + ((5 : Int32) * x1)), .ref 392] h_17 i_226_45 rfl ?_
  refine wp_s 47 [some (.ref 382), some (.int x1), some (.int z_1.1)] [.int (1 : Int32), .int ((16 : Int32) + ((5 : Int32) * x1)), .ref 392] h_17 i_226_46 rfl ?_
  refine wp_s 48 [some (.ref 382), some (.int x1), some (.int z_1.1)] [.int (((16 : Int32) + ((5 : Int32) * x1)) + (1 : Int32)), .ref 392] h_17 i_226_47 rfl ?_
  refine wp_s 49 [some (.ref 382), some (.int x1), some (.int z_1.1)] [.int (0 : Int32), .int (((16 : Int32) + ((5 : Int32) * x1)) + (1 : Int32)), .ref 392] h_17 i_226_48 rfl ?_
  obtain ⟨b_19, hd⟩ := dk_if hd
  refine rq_A20 50 rfl i_226_49 H_18 b_19 (fun h_20 H_21 => ?_)
  obtain rfl := Option.some.inj hd
  exact wp_ret i_226_50 rfl ⟨rfl, H_21⟩
