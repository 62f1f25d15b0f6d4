/-! each instruction of the program -/
theorem p0_0 : prog 0 0 = some (.aload_n 0, 1, []) := by decide +kernel
theorem p0_1 : prog 0 1 = some (.invokespecial 3, 3, [6]) := by decide +kernel
theorem p0_4 : prog 0 4 = some (.aload_n 0, 1, []) := by decide +kernel
theorem p0_5 : prog 0 5 = some (.new 9, 3, [1]) := by decide +kernel
theorem p0_8 : prog 0 8 = some (.dup, 1, []) := by decide +kernel
theorem p0_9 : prog 0 9 = some (.invokespecial 11, 3, [5, 94, 1]) := by decide +kernel
theorem p0_12 : prog 0 12 = some (.putfield 12, 3, [8, 0, 1]) := by decide +kernel
theorem p0_15 : prog 0 15 = some (.aload_n 0, 1, []) := by decide +kernel
theorem p0_16 : prog 0 16 = some (.new 16, 3, [4]) := by decide +kernel
theorem p0_19 : prog 0 19 = some (.dup, 1, []) := by decide +kernel
theorem p0_20 : prog 0 20 = some (.invokespecial 18, 3, [5, 128, 1]) := by decide +kernel
theorem p0_23 : prog 0 23 = some (.putfield 19, 3, [8, 1, 1]) := by decide +kernel
theorem p0_26 : prog 0 26 = some (.aload_n 0, 1, []) := by decide +kernel
theorem p0_27 : prog 0 27 = some (.new 23, 3, [7]) := by decide +kernel
theorem p0_30 : prog 0 30 = some (.dup, 1, []) := by decide +kernel
theorem p0_31 : prog 0 31 = some (.invokespecial 25, 3, [2, 150, 1]) := by decide +kernel
theorem p0_34 : prog 0 34 = some (.putfield 26, 3, [8, 2, 1]) := by decide +kernel
theorem p0_37 : prog 0 37 = some (.aload_n 0, 1, []) := by decide +kernel
theorem p0_38 : prog 0 38 = some (.new 30, 3, [3]) := by decide +kernel
theorem p0_41 : prog 0 41 = some (.dup, 1, []) := by decide +kernel
theorem p0_42 : prog 0 42 = some (.invokespecial 32, 3, [5, 120, 1]) := by decide +kernel
theorem p0_45 : prog 0 45 = some (.putfield 33, 3, [8, 3, 1]) := by decide +kernel
theorem p0_48 : prog 0 48 = some (.aload_n 0, 1, []) := by decide +kernel
theorem p0_49 : prog 0 49 = some (.new 37, 3, [5]) := by decide +kernel
theorem p0_52 : prog 0 52 = some (.dup, 1, []) := by decide +kernel
theorem p0_53 : prog 0 53 = some (.invokespecial 39, 3, [5, 135, 1]) := by decide +kernel
theorem p0_56 : prog 0 56 = some (.putfield 40, 3, [8, 4, 1]) := by decide +kernel
theorem p0_59 : prog 0 59 = some (.aload_n 0, 1, []) := by decide +kernel
theorem p0_60 : prog 0 60 = some (.ldc 44, 2, [0, 1000000]) := by decide +kernel
theorem p0_62 : prog 0 62 = some (.putfield 45, 3, [8, 5, 0]) := by decide +kernel
theorem p0_65 : prog 0 65 = some (.return_, 1, []) := by decide +kernel
theorem p1_0 : prog 1 0 = some (.iload_n 1, 1, []) := by decide +kernel
theorem p1_1 : prog 1 1 = some (.iload_n 2, 1, []) := by decide +kernel
theorem p1_2 : prog 1 2 = some (.invokestatic 49, 3, [1, 22, 2]) := by decide +kernel
theorem p1_5 : prog 1 5 = some (.ifCond .eq 36, 3, [41]) := by decide +kernel
theorem p1_8 : prog 1 8 = some (.iload_n 3, 1, []) := by decide +kernel
theorem p1_9 : prog 1 9 = some (.iconst 0, 1, []) := by decide +kernel
theorem p1_10 : prog 1 10 = some (.bipush 47, 2, []) := by decide +kernel
theorem p1_12 : prog 1 12 = some (.invokestatic 53, 3, [1, 24, 3]) := by decide +kernel
theorem p1_15 : prog 1 15 = some (.ifCond .eq 26, 3, [41]) := by decide +kernel
theorem p1_18 : prog 1 18 = some (.iload 4, 2, []) := by decide +kernel
theorem p1_20 : prog 1 20 = some (.iconst (-1), 1, []) := by decide +kernel
theorem p1_21 : prog 1 21 = some (.bipush 7, 2, []) := by decide +kernel
theorem p1_23 : prog 1 23 = some (.invokestatic 53, 3, [1, 24, 3]) := by decide +kernel
theorem p1_26 : prog 1 26 = some (.ifCond .eq 15, 3, [41]) := by decide +kernel
theorem p1_29 : prog 1 29 = some (.iload 5, 2, []) := by decide +kernel
theorem p1_31 : prog 1 31 = some (.iconst 0, 1, []) := by decide +kernel
theorem p1_32 : prog 1 32 = some (.sipush 255, 3, []) := by decide +kernel
theorem p1_35 : prog 1 35 = some (.invokestatic 53, 3, [1, 24, 3]) := by decide +kernel
theorem p1_38 : prog 1 38 = some (.ifCond .ne 5, 3, [43]) := by decide +kernel
theorem p1_41 : prog 1 41 = some (.iconst 0, 1, []) := by decide +kernel
theorem p1_42 : prog 1 42 = some (.ireturn, 1, [1]) := by decide +kernel
theorem p1_43 : prog 1 43 = some (.aload_n 0, 1, []) := by decide +kernel
theorem p1_44 : prog 1 44 = some (.getfield 12, 3, [8, 0, 1]) := by decide +kernel
theorem p1_47 : prog 1 47 = some (.iload_n 1, 1, []) := by decide +kernel
theorem p1_48 : prog 1 48 = some (.invokevirtual 57, 3, [0, 95, 2, 1]) := by decide +kernel
theorem p1_51 : prog 1 51 = some (.iload_n 2, 1, []) := by decide +kernel
theorem p1_52 : prog 1 52 = some (.iload_n 3, 1, []) := by decide +kernel
theorem p1_53 : prog 1 53 = some (.iload 4, 2, []) := by decide +kernel
theorem p1_55 : prog 1 55 = some (.iload 5, 2, []) := by decide +kernel
theorem p1_57 : prog 1 57 = some (.invokevirtual 61, 3, [0, 76, 5, 0]) := by decide +kernel
theorem p1_60 : prog 1 60 = some (.iconst 1, 1, []) := by decide +kernel
theorem p1_61 : prog 1 61 = some (.ireturn, 1, [1]) := by decide +kernel
theorem p2_0 : prog 2 0 = some (.aload_n 0, 1, []) := by decide +kernel
theorem p2_1 : prog 2 1 = some (.iload_n 1, 1, []) := by decide +kernel
theorem p2_2 : prog 2 2 = some (.iload_n 2, 1, []) := by decide +kernel
theorem p2_3 : prog 2 3 = some (.invokevirtual 67, 3, [0, 20, 3, 8]) := by decide +kernel
theorem p2_6 : prog 2 6 = some (.ifCond .ne 5, 3, [11]) := by decide +kernel
theorem p2_9 : prog 2 9 = some (.iconst 0, 1, []) := by decide +kernel
theorem p2_10 : prog 2 10 = some (.ireturn, 1, [1]) := by decide +kernel
theorem p2_11 : prog 2 11 = some (.aload_n 0, 1, []) := by decide +kernel
theorem p2_12 : prog 2 12 = some (.getfield 12, 3, [8, 0, 1]) := by decide +kernel
theorem p2_15 : prog 2 15 = some (.iload_n 1, 1, []) := by decide +kernel
theorem p2_16 : prog 2 16 = some (.invokevirtual 57, 3, [0, 95, 2, 1]) := by decide +kernel
theorem p2_19 : prog 2 19 = some (.iload_n 2, 1, []) := by decide +kernel
theorem p2_20 : prog 2 20 = some (.invokevirtual 70, 3, [0, 77, 2, 0]) := by decide +kernel
theorem p2_23 : prog 2 23 = some (.iconst 1, 1, []) := by decide +kernel
theorem p2_24 : prog 2 24 = some (.ireturn, 1, [1]) := by decide +kernel
theorem p3_0 : prog 3 0 = some (.aload_n 0, 1, []) := by decide +kernel
theorem p3_1 : prog 3 1 = some (.iload_n 1, 1, []) := by decide +kernel
theorem p3_2 : prog 3 2 = some (.iload_n 2, 1, []) := by decide +kernel
theorem p3_3 : prog 3 3 = some (.invokevirtual 67, 3, [0, 20, 3, 8]) := by decide +kernel
theorem p3_6 : prog 3 6 = some (.ifCond .eq 25, 3, [31]) := by decide +kernel
theorem p3_9 : prog 3 9 = some (.iload 4, 2, []) := by decide +kernel
theorem p3_11 : prog 3 11 = some (.iconst 0, 1, []) := by decide +kernel
theorem p3_12 : prog 3 12 = some (.bipush 11, 2, []) := by decide +kernel
theorem p3_14 : prog 3 14 = some (.invokestatic 53, 3, [1, 24, 3]) := by decide +kernel
theorem p3_17 : prog 3 17 = some (.ifCond .eq 14, 3, [31]) := by decide +kernel
theorem p3_20 : prog 3 20 = some (.iload 5, 2, []) := by decide +kernel
theorem p3_22 : prog 3 22 = some (.iconst 0, 1, []) := by decide +kernel
theorem p3_23 : prog 3 23 = some (.bipush 31, 2, []) := by decide +kernel
theorem p3_25 : prog 3 25 = some (.invokestatic 53, 3, [1, 24, 3]) := by decide +kernel
theorem p3_28 : prog 3 28 = some (.ifCond .ne 5, 3, [33]) := by decide +kernel
theorem p3_31 : prog 3 31 = some (.iconst 0, 1, []) := by decide +kernel
theorem p3_32 : prog 3 32 = some (.ireturn, 1, [1]) := by decide +kernel
theorem p3_33 : prog 3 33 = some (.aload_n 0, 1, []) := by decide +kernel
theorem p3_34 : prog 3 34 = some (.getfield 12, 3, [8, 0, 1]) := by decide +kernel
theorem p3_37 : prog 3 37 = some (.iload_n 1, 1, []) := by decide +kernel
theorem p3_38 : prog 3 38 = some (.invokevirtual 57, 3, [0, 95, 2, 1]) := by decide +kernel
theorem p3_41 : prog 3 41 = some (.iload_n 2, 1, []) := by decide +kernel
theorem p3_42 : prog 3 42 = some (.iload_n 3, 1, []) := by decide +kernel
theorem p3_43 : prog 3 43 = some (.iload 4, 2, []) := by decide +kernel
theorem p3_45 : prog 3 45 = some (.invokestatic 74, 3, [1, 26, 2]) := by decide +kernel
theorem p3_48 : prog 3 48 = some (.iload 5, 2, []) := by decide +kernel
theorem p3_50 : prog 3 50 = some (.invokevirtual 78, 3, [0, 78, 4, 0]) := by decide +kernel
theorem p3_53 : prog 3 53 = some (.iconst 1, 1, []) := by decide +kernel
theorem p3_54 : prog 3 54 = some (.ireturn, 1, [1]) := by decide +kernel
theorem p4_0 : prog 4 0 = some (.aload_n 0, 1, []) := by decide +kernel
theorem p4_1 : prog 4 1 = some (.iload_n 1, 1, []) := by decide +kernel
theorem p4_2 : prog 4 2 = some (.iload_n 2, 1, []) := by decide +kernel
theorem p4_3 : prog 4 3 = some (.iconst 0, 1, []) := by decide +kernel
theorem p4_4 : prog 4 4 = some (.iload_n 3, 1, []) := by decide +kernel
theorem p4_5 : prog 4 5 = some (.invokevirtual 82, 3, [0, 21, 5, 8]) := by decide +kernel
theorem p4_8 : prog 4 8 = some (.ifCond .ne 5, 3, [13]) := by decide +kernel
theorem p4_11 : prog 4 11 = some (.iconst 0, 1, []) := by decide +kernel
theorem p4_12 : prog 4 12 = some (.ireturn, 1, [1]) := by decide +kernel
theorem p4_13 : prog 4 13 = some (.aload_n 0, 1, []) := by decide +kernel
theorem p4_14 : prog 4 14 = some (.getfield 12, 3, [8, 0, 1]) := by decide +kernel
theorem p4_17 : prog 4 17 = some (.iload_n 1, 1, []) := by decide +kernel
theorem p4_18 : prog 4 18 = some (.invokevirtual 57, 3, [0, 95, 2, 1]) := by decide +kernel
theorem p4_21 : prog 4 21 = some (.iload_n 2, 1, []) := by decide +kernel
theorem p4_22 : prog 4 22 = some (.iload_n 3, 1, []) := by decide +kernel
theorem p4_23 : prog 4 23 = some (.dload 4, 2, []) := by decide +kernel
theorem p4_25 : prog 4 25 = some (.invokevirtual 86, 3, [0, 79, 4, 0]) := by decide +kernel
theorem p4_28 : prog 4 28 = some (.iconst 1, 1, []) := by decide +kernel
theorem p4_29 : prog 4 29 = some (.ireturn, 1, [1]) := by decide +kernel
theorem p5_0 : prog 5 0 = some (.aload_n 0, 1, []) := by decide +kernel
theorem p5_1 : prog 5 1 = some (.iload_n 1, 1, []) := by decide +kernel
theorem p5_2 : prog 5 2 = some (.iload_n 2, 1, []) := by decide +kernel
theorem p5_3 : prog 5 3 = some (.iload_n 3, 1, []) := by decide +kernel
theorem p5_4 : prog 5 4 = some (.iload 4, 2, []) := by decide +kernel
theorem p5_6 : prog 5 6 = some (.invokevirtual 82, 3, [0, 21, 5, 8]) := by decide +kernel
theorem p5_9 : prog 5 9 = some (.ifCond .ne 5, 3, [14]) := by decide +kernel
theorem p5_12 : prog 5 12 = some (.iconst 0, 1, []) := by decide +kernel
theorem p5_13 : prog 5 13 = some (.ireturn, 1, [1]) := by decide +kernel
theorem p5_14 : prog 5 14 = some (.aload_n 0, 1, []) := by decide +kernel
theorem p5_15 : prog 5 15 = some (.getfield 12, 3, [8, 0, 1]) := by decide +kernel
theorem p5_18 : prog 5 18 = some (.iload_n 1, 1, []) := by decide +kernel
theorem p5_19 : prog 5 19 = some (.invokevirtual 57, 3, [0, 95, 2, 1]) := by decide +kernel
theorem p5_22 : prog 5 22 = some (.iload_n 2, 1, []) := by decide +kernel
theorem p5_23 : prog 5 23 = some (.iload_n 3, 1, []) := by decide +kernel
theorem p5_24 : prog 5 24 = some (.iload 4, 2, []) := by decide +kernel
theorem p5_26 : prog 5 26 = some (.invokestatic 74, 3, [1, 26, 2]) := by decide +kernel
theorem p5_29 : prog 5 29 = some (.iconst (-1), 1, []) := by decide +kernel
theorem p5_30 : prog 5 30 = some (.invokevirtual 78, 3, [0, 78, 4, 0]) := by decide +kernel
theorem p5_33 : prog 5 33 = some (.iconst 1, 1, []) := by decide +kernel
theorem p5_34 : prog 5 34 = some (.ireturn, 1, [1]) := by decide +kernel
theorem p6_0 : prog 6 0 = some (.aload_n 0, 1, []) := by decide +kernel
theorem p6_1 : prog 6 1 = some (.getfield 12, 3, [8, 0, 1]) := by decide +kernel
theorem p6_4 : prog 6 4 = some (.getfield 90, 3, [1, 1, 1]) := by decide +kernel
theorem p6_7 : prog 6 7 = some (.aload_n 0, 1, []) := by decide +kernel
theorem p6_8 : prog 6 8 = some (.getfield 12, 3, [8, 0, 1]) := by decide +kernel
theorem p6_11 : prog 6 11 = some (.getfield 94, 3, [1, 0, 1]) := by decide +kernel
theorem p6_14 : prog 6 14 = some (.invokevirtual 97, 3, [0, 80, 2, 0]) := by decide +kernel
theorem p6_17 : prog 6 17 = some (.aload_n 0, 1, []) := by decide +kernel
theorem p6_18 : prog 6 18 = some (.getfield 12, 3, [8, 0, 1]) := by decide +kernel
theorem p6_21 : prog 6 21 = some (.getfield 90, 3, [1, 1, 1]) := by decide +kernel
theorem p6_24 : prog 6 24 = some (.invokevirtual 101, 3, [0, 81, 1, 0]) := by decide +kernel
theorem p6_27 : prog 6 27 = some (.ireturn, 1, [0]) := by decide +kernel
theorem p7_0 : prog 7 0 = some (.iload_n 1, 1, []) := by decide +kernel
theorem p7_1 : prog 7 1 = some (.bipush 33, 2, []) := by decide +kernel
theorem p7_3 : prog 7 3 = some (.bipush 126, 2, []) := by decide +kernel
theorem p7_5 : prog 7 5 = some (.invokestatic 53, 3, [1, 24, 3]) := by decide +kernel
theorem p7_8 : prog 7 8 = some (.ifCond .ne 5, 3, [13]) := by decide +kernel
theorem p7_11 : prog 7 11 = some (.iconst (-1), 1, []) := by decide +kernel
theorem p7_12 : prog 7 12 = some (.ireturn, 1, [0]) := by decide +kernel
theorem p7_13 : prog 7 13 = some (.aload_n 0, 1, []) := by decide +kernel
theorem p7_14 : prog 7 14 = some (.getfield 19, 3, [8, 1, 1]) := by decide +kernel
theorem p7_17 : prog 7 17 = some (.invokevirtual 105, 3, [0, 130, 1, 4]) := by decide +kernel
theorem p7_20 : prog 7 20 = some (.ifCond .eq 6, 3, [26]) := by decide +kernel
theorem p7_23 : prog 7 23 = some (.bipush (-3), 2, []) := by decide +kernel
theorem p7_25 : prog 7 25 = some (.ireturn, 1, [0]) := by decide +kernel
theorem p7_26 : prog 7 26 = some (.aload_n 0, 1, []) := by decide +kernel
theorem p7_27 : prog 7 27 = some (.getfield 19, 3, [8, 1, 1]) := by decide +kernel
theorem p7_30 : prog 7 30 = some (.iload_n 1, 1, []) := by decide +kernel
theorem p7_31 : prog 7 31 = some (.i2c, 1, []) := by decide +kernel
theorem p7_32 : prog 7 32 = some (.invokevirtual 109, 3, [0, 131, 2, 4]) := by decide +kernel
theorem p7_35 : prog 7 35 = some (.aload_n 0, 1, []) := by decide +kernel
theorem p7_36 : prog 7 36 = some (.getfield 19, 3, [8, 1, 1]) := by decide +kernel
theorem p7_39 : prog 7 39 = some (.invokevirtual 113, 3, [0, 129, 1, 4]) := by decide +kernel
theorem p7_42 : prog 7 42 = some (.ireturn, 1, [0]) := by decide +kernel
theorem p8_0 : prog 8 0 = some (.iload_n 1, 1, []) := by decide +kernel
theorem p8_1 : prog 8 1 = some (.iconst 1, 1, []) := by decide +kernel
theorem p8_2 : prog 8 2 = some (.bipush 33, 2, []) := by decide +kernel
theorem p8_4 : prog 8 4 = some (.invokestatic 53, 3, [1, 24, 3]) := by decide +kernel
theorem p8_7 : prog 8 7 = some (.ifCond .eq 22, 3, [29]) := by decide +kernel
theorem p8_10 : prog 8 10 = some (.iload_n 2, 1, []) := by decide +kernel
theorem p8_11 : prog 8 11 = some (.iload_n 1, 1, []) := by decide +kernel
theorem p8_12 : prog 8 12 = some (.bipush 33, 2, []) := by decide +kernel
theorem p8_14 : prog 8 14 = some (.invokestatic 53, 3, [1, 24, 3]) := by decide +kernel
theorem p8_17 : prog 8 17 = some (.ifCond .eq 12, 3, [29]) := by decide +kernel
theorem p8_20 : prog 8 20 = some (.iload_n 3, 1, []) := by decide +kernel
theorem p8_21 : prog 8 21 = some (.iconst 0, 1, []) := by decide +kernel
theorem p8_22 : prog 8 22 = some (.iconst 3, 1, []) := by decide +kernel
theorem p8_23 : prog 8 23 = some (.invokestatic 53, 3, [1, 24, 3]) := by decide +kernel
theorem p8_26 : prog 8 26 = some (.ifCond .ne 5, 3, [31]) := by decide +kernel
theorem p8_29 : prog 8 29 = some (.iconst (-1), 1, []) := by decide +kernel
theorem p8_30 : prog 8 30 = some (.ireturn, 1, [0]) := by decide +kernel
theorem p8_31 : prog 8 31 = some (.aload_n 0, 1, []) := by decide +kernel
theorem p8_32 : prog 8 32 = some (.getfield 26, 3, [8, 2, 1]) := by decide +kernel
theorem p8_35 : prog 8 35 = some (.invokevirtual 116, 3, [0, 152, 1, 7]) := by decide +kernel
theorem p8_38 : prog 8 38 = some (.ifCond .eq 6, 3, [44]) := by decide +kernel
theorem p8_41 : prog 8 41 = some (.bipush (-3), 2, []) := by decide +kernel
theorem p8_43 : prog 8 43 = some (.ireturn, 1, [0]) := by decide +kernel
theorem p8_44 : prog 8 44 = some (.aload_n 0, 1, []) := by decide +kernel
theorem p8_45 : prog 8 45 = some (.getfield 26, 3, [8, 2, 1]) := by decide +kernel
theorem p8_48 : prog 8 48 = some (.aload_n 0, 1, []) := by decide +kernel
theorem p8_49 : prog 8 49 = some (.getfield 19, 3, [8, 1, 1]) := by decide +kernel
theorem p8_52 : prog 8 52 = some (.iload_n 1, 1, []) := by decide +kernel
theorem p8_53 : prog 8 53 = some (.iload_n 2, 1, []) := by decide +kernel
theorem p8_54 : prog 8 54 = some (.iload_n 3, 1, []) := by decide +kernel
theorem p8_55 : prog 8 55 = some (.invokevirtual 117, 3, [0, 153, 5, 7]) := by decide +kernel
theorem p8_58 : prog 8 58 = some (.aload_n 0, 1, []) := by decide +kernel
theorem p8_59 : prog 8 59 = some (.getfield 19, 3, [8, 1, 1]) := by decide +kernel
theorem p8_62 : prog 8 62 = some (.invokevirtual 120, 3, [0, 132, 1, 4]) := by decide +kernel
theorem p8_65 : prog 8 65 = some (.aload_n 0, 1, []) := by decide +kernel
theorem p8_66 : prog 8 66 = some (.getfield 26, 3, [8, 2, 1]) := by decide +kernel
theorem p8_69 : prog 8 69 = some (.invokevirtual 123, 3, [0, 151, 1, 7]) := by decide +kernel
theorem p8_72 : prog 8 72 = some (.ireturn, 1, [0]) := by decide +kernel
theorem p9_0 : prog 9 0 = some (.aload_n 0, 1, []) := by decide +kernel
theorem p9_1 : prog 9 1 = some (.getfield 26, 3, [8, 2, 1]) := by decide +kernel
theorem p9_4 : prog 9 4 = some (.invokevirtual 123, 3, [0, 151, 1, 7]) := by decide +kernel
theorem p9_7 : prog 9 7 = some (.istore_n 1, 1, []) := by decide +kernel
theorem p9_8 : prog 9 8 = some (.aload_n 0, 1, []) := by decide +kernel
theorem p9_9 : prog 9 9 = some (.getfield 26, 3, [8, 2, 1]) := by decide +kernel
theorem p9_12 : prog 9 12 = some (.invokevirtual 126, 3, [0, 154, 1, 7]) := by decide +kernel
theorem p9_15 : prog 9 15 = some (.aload_n 0, 1, []) := by decide +kernel
theorem p9_16 : prog 9 16 = some (.getfield 19, 3, [8, 1, 1]) := by decide +kernel
theorem p9_19 : prog 9 19 = some (.invokevirtual 120, 3, [0, 132, 1, 4]) := by decide +kernel
theorem p9_22 : prog 9 22 = some (.iload_n 1, 1, []) := by decide +kernel
theorem p9_23 : prog 9 23 = some (.ireturn, 1, [0]) := by decide +kernel
theorem p10_0 : prog 10 0 = some (.iload_n 1, 1, []) := by decide +kernel
theorem p10_1 : prog 10 1 = some (.iload_n 2, 1, []) := by decide +kernel
theorem p10_2 : prog 10 2 = some (.iload_n 3, 1, []) := by decide +kernel
theorem p10_3 : prog 10 3 = some (.invokestatic 127, 3, [1, 23, 3]) := by decide +kernel
theorem p10_6 : prog 10 6 = some (.ifCond .ne 5, 3, [11]) := by decide +kernel
theorem p10_9 : prog 10 9 = some (.iconst 0, 1, []) := by decide +kernel
theorem p10_10 : prog 10 10 = some (.ireturn, 1, [1]) := by decide +kernel
theorem p10_11 : prog 10 11 = some (.aload_n 0, 1, []) := by decide +kernel
theorem p10_12 : prog 10 12 = some (.iload_n 1, 1, []) := by decide +kernel
theorem p10_13 : prog 10 13 = some (.iload_n 2, 1, []) := by decide +kernel
theorem p10_14 : prog 10 14 = some (.iload_n 3, 1, []) := by decide +kernel
theorem p10_15 : prog 10 15 = some (.invokestatic 130, 3, [1, 25, 3]) := by decide +kernel
theorem p10_18 : prog 10 18 = some (.putfield 45, 3, [8, 5, 0]) := by decide +kernel
theorem p10_21 : prog 10 21 = some (.iconst 1, 1, []) := by decide +kernel
theorem p10_22 : prog 10 22 = some (.ireturn, 1, [1]) := by decide +kernel
theorem p11_0 : prog 11 0 = some (.aload_n 0, 1, []) := by decide +kernel
theorem p11_1 : prog 11 1 = some (.invokevirtual 134, 3, [0, 18, 1, 8]) := by decide +kernel
theorem p11_4 : prog 11 4 = some (.invokevirtual 138, 3, [0, 107, 1, 2]) := by decide +kernel
theorem p11_7 : prog 11 7 = some (.ireturn, 1, [0]) := by decide +kernel
theorem p12_0 : prog 12 0 = some (.iload_n 2, 1, []) := by decide +kernel
theorem p12_1 : prog 12 1 = some (.iconst 0, 1, []) := by decide +kernel
theorem p12_2 : prog 12 2 = some (.iconst 4, 1, []) := by decide +kernel
theorem p12_3 : prog 12 3 = some (.invokestatic 53, 3, [1, 24, 3]) := by decide +kernel
theorem p12_6 : prog 12 6 = some (.ifCond .ne 5, 3, [11]) := by decide +kernel
theorem p12_9 : prog 12 9 = some (.iconst (-1), 1, []) := by decide +kernel
theorem p12_10 : prog 12 10 = some (.ireturn, 1, [0]) := by decide +kernel
theorem p12_11 : prog 12 11 = some (.aload_n 0, 1, []) := by decide +kernel
theorem p12_12 : prog 12 12 = some (.invokevirtual 134, 3, [0, 18, 1, 8]) := by decide +kernel
theorem p12_15 : prog 12 15 = some (.astore_n 3, 1, []) := by decide +kernel
theorem p12_16 : prog 12 16 = some (.aload_n 3, 1, []) := by decide +kernel
theorem p12_17 : prog 12 17 = some (.iload_n 1, 1, []) := by decide +kernel
theorem p12_18 : prog 12 18 = some (.invokevirtual 141, 3, [0, 108, 2, 2]) := by decide +kernel
theorem p12_21 : prog 12 21 = some (.ifCond .ne 6, 3, [27]) := by decide +kernel
theorem p12_24 : prog 12 24 = some (.bipush (-2), 2, []) := by decide +kernel
theorem p12_26 : prog 12 26 = some (.ireturn, 1, [0]) := by decide +kernel
theorem p12_27 : prog 12 27 = some (.aload_n 3, 1, []) := by decide +kernel
theorem p12_28 : prog 12 28 = some (.iload_n 1, 1, []) := by decide +kernel
theorem p12_29 : prog 12 29 = some (.invokevirtual 145, 3, [0, 117, 2, 2]) := by decide +kernel
theorem p12_32 : prog 12 32 = some (.istore 4, 2, []) := by decide +kernel
theorem p12_34 : prog 12 34 = some (.iload_n 2, 1, []) := by decide +kernel
theorem p12_35 : prog 12 35 = some (.tableswitch 71 0 3 #[29, 35, 41, 47], 29, [106, 64, 70, 76, 82]) := by decide +kernel
theorem p12_64 : prog 12 64 = some (.aload_n 3, 1, []) := by decide +kernel
theorem p12_65 : prog 12 65 = some (.iload_n 1, 1, []) := by decide +kernel
theorem p12_66 : prog 12 66 = some (.invokevirtual 149, 3, [0, 114, 2, 2]) := by decide +kernel
theorem p12_69 : prog 12 69 = some (.ireturn, 1, [0]) := by decide +kernel
theorem p12_70 : prog 12 70 = some (.aload_n 3, 1, []) := by decide +kernel
theorem p12_71 : prog 12 71 = some (.iload_n 1, 1, []) := by decide +kernel
theorem p12_72 : prog 12 72 = some (.invokevirtual 152, 3, [0, 115, 2, 2]) := by decide +kernel
theorem p12_75 : prog 12 75 = some (.ireturn, 1, [0]) := by decide +kernel
theorem p12_76 : prog 12 76 = some (.aload_n 3, 1, []) := by decide +kernel
theorem p12_77 : prog 12 77 = some (.iload_n 1, 1, []) := by decide +kernel
theorem p12_78 : prog 12 78 = some (.invokevirtual 155, 3, [0, 116, 2, 2]) := by decide +kernel
theorem p12_81 : prog 12 81 = some (.ireturn, 1, [0]) := by decide +kernel
theorem p12_82 : prog 12 82 = some (.iload 4, 2, []) := by decide +kernel
theorem p12_84 : prog 12 84 = some (.iconst (-1), 1, []) := by decide +kernel
theorem p12_85 : prog 12 85 = some (.if_icmp .ne 7, 3, [92]) := by decide +kernel
theorem p12_88 : prog 12 88 = some (.iconst 0, 1, []) := by decide +kernel
theorem p12_89 : prog 12 89 = some (.goto 16, 3, [105]) := by decide +kernel
theorem p12_92 : prog 12 92 = some (.iload 4, 2, []) := by decide +kernel
theorem p12_94 : prog 12 94 = some (.invokestatic 158, 3, [1, 27, 1]) := by decide +kernel
theorem p12_97 : prog 12 97 = some (.ifCond .eq 7, 3, [104]) := by decide +kernel
theorem p12_100 : prog 12 100 = some (.iconst 2, 1, []) := by decide +kernel
theorem p12_101 : prog 12 101 = some (.goto 4, 3, [105]) := by decide +kernel
theorem p12_104 : prog 12 104 = some (.iconst 1, 1, []) := by decide +kernel
theorem p12_105 : prog 12 105 = some (.ireturn, 1, [0]) := by decide +kernel
theorem p12_106 : prog 12 106 = some (.iload 4, 2, []) := by decide +kernel
theorem p12_108 : prog 12 108 = some (.iconst (-1), 1, []) := by decide +kernel
theorem p12_109 : prog 12 109 = some (.if_icmp .ne 8, 3, [117]) := by decide +kernel
theorem p12_112 : prog 12 112 = some (.bipush (-2), 2, []) := by decide +kernel
theorem p12_114 : prog 12 114 = some (.goto 8, 3, [122]) := by decide +kernel
theorem p12_117 : prog 12 117 = some (.iload 4, 2, []) := by decide +kernel
theorem p12_119 : prog 12 119 = some (.invokestatic 161, 3, [1, 28, 1]) := by decide +kernel
theorem p12_122 : prog 12 122 = some (.ireturn, 1, [0]) := by decide +kernel
theorem p13_0 : prog 13 0 = some (.aload_n 0, 1, []) := by decide +kernel
theorem p13_1 : prog 13 1 = some (.invokevirtual 134, 3, [0, 18, 1, 8]) := by decide +kernel
theorem p13_4 : prog 13 4 = some (.astore_n 2, 1, []) := by decide +kernel
theorem p13_5 : prog 13 5 = some (.aload_n 2, 1, []) := by decide +kernel
theorem p13_6 : prog 13 6 = some (.iload_n 1, 1, []) := by decide +kernel
theorem p13_7 : prog 13 7 = some (.invokevirtual 141, 3, [0, 108, 2, 2]) := by decide +kernel
theorem p13_10 : prog 13 10 = some (.ifCond .eq 13, 3, [23]) := by decide +kernel
theorem p13_13 : prog 13 13 = some (.aload_n 2, 1, []) := by decide +kernel
theorem p13_14 : prog 13 14 = some (.iload_n 1, 1, []) := by decide +kernel
theorem p13_15 : prog 13 15 = some (.invokevirtual 149, 3, [0, 114, 2, 2]) := by decide +kernel
theorem p13_18 : prog 13 18 = some (.bipush 31, 2, []) := by decide +kernel
theorem p13_20 : prog 13 20 = some (.if_icmp .eq 5, 3, [25]) := by decide +kernel
theorem p13_23 : prog 13 23 = some (.dconst 0, 1, []) := by decide +kernel
theorem p13_24 : prog 13 24 = some (.dreturn, 1, []) := by decide +kernel
theorem p13_25 : prog 13 25 = some (.aload_n 0, 1, []) := by decide +kernel
theorem p13_26 : prog 13 26 = some (.getfield 12, 3, [8, 0, 1]) := by decide +kernel
theorem p13_29 : prog 13 29 = some (.aload_n 2, 1, []) := by decide +kernel
theorem p13_30 : prog 13 30 = some (.iload_n 1, 1, []) := by decide +kernel
theorem p13_31 : prog 13 31 = some (.invokevirtual 155, 3, [0, 116, 2, 2]) := by decide +kernel
theorem p13_34 : prog 13 34 = some (.aload_n 2, 1, []) := by decide +kernel
theorem p13_35 : prog 13 35 = some (.iload_n 1, 1, []) := by decide +kernel
theorem p13_36 : prog 13 36 = some (.invokevirtual 145, 3, [0, 117, 2, 2]) := by decide +kernel
theorem p13_39 : prog 13 39 = some (.invokevirtual 164, 3, [0, 103, 3, 1]) := by decide +kernel
theorem p13_42 : prog 13 42 = some (.dreturn, 1, []) := by decide +kernel
theorem p14_0 : prog 14 0 = some (.aload_n 0, 1, []) := by decide +kernel
theorem p14_1 : prog 14 1 = some (.invokevirtual 134, 3, [0, 18, 1, 8]) := by decide +kernel
theorem p14_4 : prog 14 4 = some (.astore_n 3, 1, []) := by decide +kernel
theorem p14_5 : prog 14 5 = some (.aload_n 0, 1, []) := by decide +kernel
theorem p14_6 : prog 14 6 = some (.getfield 40, 3, [8, 4, 1]) := by decide +kernel
theorem p14_9 : prog 14 9 = some (.iload_n 2, 1, []) := by decide +kernel
theorem p14_10 : prog 14 10 = some (.invokevirtual 168, 3, [0, 136, 2, 5]) := by decide +kernel
theorem p14_13 : prog 14 13 = some (.iload_n 1, 1, []) := by decide +kernel
theorem p14_14 : prog 14 14 = some (.ifCond .eq 23, 3, [37]) := by decide +kernel
theorem p14_17 : prog 14 17 = some (.aload_n 0, 1, []) := by decide +kernel
theorem p14_18 : prog 14 18 = some (.getfield 40, 3, [8, 4, 1]) := by decide +kernel
theorem p14_21 : prog 14 21 = some (.aload_n 3, 1, []) := by decide +kernel
theorem p14_22 : prog 14 22 = some (.aload_n 0, 1, []) := by decide +kernel
theorem p14_23 : prog 14 23 = some (.getfield 33, 3, [8, 3, 1]) := by decide +kernel
theorem p14_26 : prog 14 26 = some (.aload_n 0, 1, []) := by decide +kernel
theorem p14_27 : prog 14 27 = some (.aload_n 3, 1, []) := by decide +kernel
theorem p14_28 : prog 14 28 = some (.invokevirtual 171, 3, [0, 19, 2, 8]) := by decide +kernel
theorem p14_31 : prog 14 31 = some (.invokevirtual 175, 3, [0, 140, 4, 5]) := by decide +kernel
theorem p14_34 : prog 14 34 = some (.goto 15, 3, [49]) := by decide +kernel
theorem p14_37 : prog 14 37 = some (.aload_n 0, 1, []) := by decide +kernel
theorem p14_38 : prog 14 38 = some (.getfield 40, 3, [8, 4, 1]) := by decide +kernel
theorem p14_41 : prog 14 41 = some (.aload_n 3, 1, []) := by decide +kernel
theorem p14_42 : prog 14 42 = some (.aload_n 0, 1, []) := by decide +kernel
theorem p14_43 : prog 14 43 = some (.getfield 33, 3, [8, 3, 1]) := by decide +kernel
theorem p14_46 : prog 14 46 = some (.invokevirtual 179, 3, [0, 139, 3, 5]) := by decide +kernel
theorem p14_49 : prog 14 49 = some (.iload_n 2, 1, []) := by decide +kernel
theorem p14_50 : prog 14 50 = some (.iconst (-1), 1, []) := by decide +kernel
theorem p14_51 : prog 14 51 = some (.if_icmp .ne 13, 3, [64]) := by decide +kernel
theorem p14_54 : prog 14 54 = some (.aload_n 0, 1, []) := by decide +kernel
theorem p14_55 : prog 14 55 = some (.getfield 40, 3, [8, 4, 1]) := by decide +kernel
theorem p14_58 : prog 14 58 = some (.invokevirtual 183, 3, [0, 137, 1, 5]) := by decide +kernel
theorem p14_61 : prog 14 61 = some (.goto 10, 3, [71]) := by decide +kernel
theorem p14_64 : prog 14 64 = some (.aload_n 0, 1, []) := by decide +kernel
theorem p14_65 : prog 14 65 = some (.getfield 40, 3, [8, 4, 1]) := by decide +kernel
theorem p14_68 : prog 14 68 = some (.invokevirtual 184, 3, [0, 138, 1, 5]) := by decide +kernel
theorem p14_71 : prog 14 71 = some (.ireturn, 1, [0]) := by decide +kernel
theorem p15_0 : prog 15 0 = some (.aload_n 0, 1, []) := by decide +kernel
theorem p15_1 : prog 15 1 = some (.aload_n 0, 1, []) := by decide +kernel
theorem p15_2 : prog 15 2 = some (.invokevirtual 134, 3, [0, 18, 1, 8]) := by decide +kernel
theorem p15_5 : prog 15 5 = some (.invokevirtual 171, 3, [0, 19, 2, 8]) := by decide +kernel
theorem p15_8 : prog 15 8 = some (.ireturn, 1, [0]) := by decide +kernel
theorem p16_0 : prog 16 0 = some (.iload_n 1, 1, []) := by decide +kernel
theorem p16_1 : prog 16 1 = some (.iload_n 2, 1, []) := by decide +kernel
theorem p16_2 : prog 16 2 = some (.iload_n 3, 1, []) := by decide +kernel
theorem p16_3 : prog 16 3 = some (.invokestatic 127, 3, [1, 23, 3]) := by decide +kernel
theorem p16_6 : prog 16 6 = some (.ifCond .ne 5, 3, [11]) := by decide +kernel
theorem p16_9 : prog 16 9 = some (.iconst (-1), 1, []) := by decide +kernel
theorem p16_10 : prog 16 10 = some (.ireturn, 1, [0]) := by decide +kernel
theorem p16_11 : prog 16 11 = some (.aload_n 0, 1, []) := by decide +kernel
theorem p16_12 : prog 16 12 = some (.invokevirtual 134, 3, [0, 18, 1, 8]) := by decide +kernel
theorem p16_15 : prog 16 15 = some (.astore 4, 2, []) := by decide +kernel
theorem p16_17 : prog 16 17 = some (.iload_n 1, 1, []) := by decide +kernel
theorem p16_18 : prog 16 18 = some (.iload_n 2, 1, []) := by decide +kernel
theorem p16_19 : prog 16 19 = some (.iload_n 3, 1, []) := by decide +kernel
theorem p16_20 : prog 16 20 = some (.invokestatic 130, 3, [1, 25, 3]) := by decide +kernel
theorem p16_23 : prog 16 23 = some (.istore 5, 2, []) := by decide +kernel
theorem p16_25 : prog 16 25 = some (.iload 5, 2, []) := by decide +kernel
theorem p16_27 : prog 16 27 = some (.aload_n 0, 1, []) := by decide +kernel
theorem p16_28 : prog 16 28 = some (.aload 4, 2, []) := by decide +kernel
theorem p16_30 : prog 16 30 = some (.invokevirtual 171, 3, [0, 19, 2, 8]) := by decide +kernel
theorem p16_33 : prog 16 33 = some (.if_icmp .lt 7, 3, [40]) := by decide +kernel
theorem p16_36 : prog 16 36 = some (.iconst 0, 1, []) := by decide +kernel
theorem p16_37 : prog 16 37 = some (.goto 17, 3, [54]) := by decide +kernel
theorem p16_40 : prog 16 40 = some (.iload 5, 2, []) := by decide +kernel
theorem p16_42 : prog 16 42 = some (.aload_n 0, 1, []) := by decide +kernel
theorem p16_43 : prog 16 43 = some (.getfield 45, 3, [8, 5, 0]) := by decide +kernel
theorem p16_46 : prog 16 46 = some (.if_icmp .le 7, 3, [53]) := by decide +kernel
theorem p16_49 : prog 16 49 = some (.iconst 1, 1, []) := by decide +kernel
theorem p16_50 : prog 16 50 = some (.goto 4, 3, [54]) := by decide +kernel
theorem p16_53 : prog 16 53 = some (.iconst 2, 1, []) := by decide +kernel
theorem p16_54 : prog 16 54 = some (.istore 6, 2, []) := by decide +kernel
theorem p16_56 : prog 16 56 = some (.aload 4, 2, []) := by decide +kernel
theorem p16_58 : prog 16 58 = some (.iconst 3, 1, []) := by decide +kernel
theorem p16_59 : prog 16 59 = some (.invokevirtual 187, 3, [0, 118, 2, 2]) := by decide +kernel
theorem p16_62 : prog 16 62 = some (.ifCond .le 6, 3, [68]) := by decide +kernel
theorem p16_65 : prog 16 65 = some (.iinc 6 4, 3, []) := by decide +kernel
theorem p16_68 : prog 16 68 = some (.aload 4, 2, []) := by decide +kernel
theorem p16_70 : prog 16 70 = some (.iconst 2, 1, []) := by decide +kernel
theorem p16_71 : prog 16 71 = some (.invokevirtual 187, 3, [0, 118, 2, 2]) := by decide +kernel
theorem p16_74 : prog 16 74 = some (.ifCond .le 6, 3, [80]) := by decide +kernel
theorem p16_77 : prog 16 77 = some (.iinc 6 8, 3, []) := by decide +kernel
theorem p16_80 : prog 16 80 = some (.iload 6, 2, []) := by decide +kernel
theorem p16_82 : prog 16 82 = some (.ireturn, 1, [0]) := by decide +kernel
theorem p17_0 : prog 17 0 = some (.iload_n 1, 1, []) := by decide +kernel
theorem p17_1 : prog 17 1 = some (.iload_n 2, 1, []) := by decide +kernel
theorem p17_2 : prog 17 2 = some (.invokestatic 49, 3, [1, 22, 2]) := by decide +kernel
theorem p17_5 : prog 17 5 = some (.ifCond .eq 14, 3, [19]) := by decide +kernel
theorem p17_8 : prog 17 8 = some (.iload 4, 2, []) := by decide +kernel
theorem p17_10 : prog 17 10 = some (.iconst (-1), 1, []) := by decide +kernel
theorem p17_11 : prog 17 11 = some (.bipush 11, 2, []) := by decide +kernel
theorem p17_13 : prog 17 13 = some (.invokestatic 53, 3, [1, 24, 3]) := by decide +kernel
theorem p17_16 : prog 17 16 = some (.ifCond .ne 5, 3, [21]) := by decide +kernel
theorem p17_19 : prog 17 19 = some (.iconst (-1), 1, []) := by decide +kernel
theorem p17_20 : prog 17 20 = some (.ireturn, 1, [0]) := by decide +kernel
theorem p17_21 : prog 17 21 = some (.aload_n 0, 1, []) := by decide +kernel
theorem p17_22 : prog 17 22 = some (.getfield 12, 3, [8, 0, 1]) := by decide +kernel
theorem p17_25 : prog 17 25 = some (.iload_n 1, 1, []) := by decide +kernel
theorem p17_26 : prog 17 26 = some (.invokevirtual 57, 3, [0, 95, 2, 1]) := by decide +kernel
theorem p17_29 : prog 17 29 = some (.astore 5, 2, []) := by decide +kernel
theorem p17_31 : prog 17 31 = some (.aload 5, 2, []) := by decide +kernel
theorem p17_33 : prog 17 33 = some (.iload_n 2, 1, []) := by decide +kernel
theorem p17_34 : prog 17 34 = some (.invokevirtual 190, 3, [0, 82, 2, 0]) := by decide +kernel
theorem p17_37 : prog 17 37 = some (.ifCond .ne 6, 3, [43]) := by decide +kernel
theorem p17_40 : prog 17 40 = some (.bipush (-2), 2, []) := by decide +kernel
theorem p17_42 : prog 17 42 = some (.ireturn, 1, [0]) := by decide +kernel
theorem p17_43 : prog 17 43 = some (.aload_n 0, 1, []) := by decide +kernel
theorem p17_44 : prog 17 44 = some (.getfield 33, 3, [8, 3, 1]) := by decide +kernel
theorem p17_47 : prog 17 47 = some (.aload 5, 2, []) := by decide +kernel
theorem p17_49 : prog 17 49 = some (.iload_n 2, 1, []) := by decide +kernel
theorem p17_50 : prog 17 50 = some (.invokevirtual 193, 3, [0, 84, 2, 0]) := by decide +kernel
theorem p17_53 : prog 17 53 = some (.iload_n 2, 1, []) := by decide +kernel
theorem p17_54 : prog 17 54 = some (.iload 4, 2, []) := by decide +kernel
theorem p17_56 : prog 17 56 = some (.iconst (-1), 1, []) := by decide +kernel
theorem p17_57 : prog 17 57 = some (.if_icmp .ne 7, 3, [64]) := by decide +kernel
theorem p17_60 : prog 17 60 = some (.iconst (-1), 1, []) := by decide +kernel
theorem p17_61 : prog 17 61 = some (.goto 9, 3, [70]) := by decide +kernel
theorem p17_64 : prog 17 64 = some (.iload_n 3, 1, []) := by decide +kernel
theorem p17_65 : prog 17 65 = some (.iload 4, 2, []) := by decide +kernel
theorem p17_67 : prog 17 67 = some (.invokestatic 74, 3, [1, 26, 2]) := by decide +kernel
theorem p17_70 : prog 17 70 = some (.invokevirtual 196, 3, [0, 121, 4, 3]) := by decide +kernel
theorem p17_73 : prog 17 73 = some (.aload_n 0, 1, []) := by decide +kernel
theorem p17_74 : prog 17 74 = some (.getfield 19, 3, [8, 1, 1]) := by decide +kernel
theorem p17_77 : prog 17 77 = some (.aload_n 0, 1, []) := by decide +kernel
theorem p17_78 : prog 17 78 = some (.getfield 33, 3, [8, 3, 1]) := by decide +kernel
theorem p17_81 : prog 17 81 = some (.invokevirtual 199, 3, [0, 134, 2, 4]) := by decide +kernel
theorem p17_84 : prog 17 84 = some (.ifCond .eq 7, 3, [91]) := by decide +kernel
theorem p17_87 : prog 17 87 = some (.iconst 1, 1, []) := by decide +kernel
theorem p17_88 : prog 17 88 = some (.goto 4, 3, [92]) := by decide +kernel
theorem p17_91 : prog 17 91 = some (.iconst 0, 1, []) := by decide +kernel
theorem p17_92 : prog 17 92 = some (.ireturn, 1, [0]) := by decide +kernel
theorem p18_0 : prog 18 0 = some (.aload_n 0, 1, []) := by decide +kernel
theorem p18_1 : prog 18 1 = some (.getfield 12, 3, [8, 0, 1]) := by decide +kernel
theorem p18_4 : prog 18 4 = some (.invokevirtual 203, 3, [0, 96, 1, 1]) := by decide +kernel
theorem p18_7 : prog 18 7 = some (.aload_n 0, 1, []) := by decide +kernel
theorem p18_8 : prog 18 8 = some (.getfield 12, 3, [8, 0, 1]) := by decide +kernel
theorem p18_11 : prog 18 11 = some (.getfield 206, 3, [1, 2, 1]) := by decide +kernel
theorem p18_14 : prog 18 14 = some (.aload_n 0, 1, []) := by decide +kernel
theorem p18_15 : prog 18 15 = some (.getfield 26, 3, [8, 2, 1]) := by decide +kernel
theorem p18_18 : prog 18 18 = some (.aload_n 0, 1, []) := by decide +kernel
theorem p18_19 : prog 18 19 = some (.getfield 33, 3, [8, 3, 1]) := by decide +kernel
theorem p18_22 : prog 18 22 = some (.invokevirtual 210, 3, [0, 111, 3, 2]) := by decide +kernel
theorem p18_25 : prog 18 25 = some (.aload_n 0, 1, []) := by decide +kernel
theorem p18_26 : prog 18 26 = some (.getfield 12, 3, [8, 0, 1]) := by decide +kernel
theorem p18_29 : prog 18 29 = some (.getfield 206, 3, [1, 2, 1]) := by decide +kernel
theorem p18_32 : prog 18 32 = some (.areturn, 1, []) := by decide +kernel
theorem p19_0 : prog 19 0 = some (.aload_n 1, 1, []) := by decide +kernel
theorem p19_1 : prog 19 1 = some (.iconst 3, 1, []) := by decide +kernel
theorem p19_2 : prog 19 2 = some (.invokevirtual 187, 3, [0, 118, 2, 2]) := by decide +kernel
theorem p19_5 : prog 19 5 = some (.ifCond .le 7, 3, [12]) := by decide +kernel
theorem p19_8 : prog 19 8 = some (.iconst 1, 1, []) := by decide +kernel
theorem p19_9 : prog 19 9 = some (.goto 4, 3, [13]) := by decide +kernel
theorem p19_12 : prog 19 12 = some (.iconst 0, 1, []) := by decide +kernel
theorem p19_13 : prog 19 13 = some (.istore_n 2, 1, []) := by decide +kernel
theorem p19_14 : prog 19 14 = some (.iload_n 2, 1, []) := by decide +kernel
theorem p19_15 : prog 19 15 = some (.ifCond .eq 25, 3, [40]) := by decide +kernel
theorem p19_18 : prog 19 18 = some (.aload_n 0, 1, []) := by decide +kernel
theorem p19_19 : prog 19 19 = some (.getfield 45, 3, [8, 5, 0]) := by decide +kernel
theorem p19_22 : prog 19 22 = some (.ldc 44, 2, [0, 1000000]) := by decide +kernel
theorem p19_24 : prog 19 24 = some (.if_icmp .lt 16, 3, [40]) := by decide +kernel
theorem p19_27 : prog 19 27 = some (.aload_n 0, 1, []) := by decide +kernel
theorem p19_28 : prog 19 28 = some (.getfield 45, 3, [8, 5, 0]) := by decide +kernel
theorem p19_31 : prog 19 31 = some (.ldc 44, 2, [0, 1000000]) := by decide +kernel
theorem p19_33 : prog 19 33 = some (.idiv, 1, []) := by decide +kernel
theorem p19_34 : prog 19 34 = some (.iconst 1, 1, []) := by decide +kernel
theorem p19_35 : prog 19 35 = some (.iadd, 1, []) := by decide +kernel
theorem p19_36 : prog 19 36 = some (.ldc 44, 2, [0, 1000000]) := by decide +kernel
theorem p19_38 : prog 19 38 = some (.imul, 1, []) := by decide +kernel
theorem p19_39 : prog 19 39 = some (.ireturn, 1, [0]) := by decide +kernel
theorem p19_40 : prog 19 40 = some (.iload_n 2, 1, []) := by decide +kernel
theorem p19_41 : prog 19 41 = some (.ifCond .ne 10, 3, [51]) := by decide +kernel
theorem p19_44 : prog 19 44 = some (.aload_n 1, 1, []) := by decide +kernel
theorem p19_45 : prog 19 45 = some (.invokevirtual 214, 3, [0, 119, 1, 2]) := by decide +kernel
theorem p19_48 : prog 19 48 = some (.ifCond .eq 18, 3, [66]) := by decide +kernel
theorem p19_51 : prog 19 51 = some (.aload_n 0, 1, []) := by decide +kernel
theorem p19_52 : prog 19 52 = some (.getfield 45, 3, [8, 5, 0]) := by decide +kernel
theorem p19_55 : prog 19 55 = some (.sipush 1000, 3, []) := by decide +kernel
theorem p19_58 : prog 19 58 = some (.idiv, 1, []) := by decide +kernel
theorem p19_59 : prog 19 59 = some (.iconst 1, 1, []) := by decide +kernel
theorem p19_60 : prog 19 60 = some (.iadd, 1, []) := by decide +kernel
theorem p19_61 : prog 19 61 = some (.sipush 1000, 3, []) := by decide +kernel
theorem p19_64 : prog 19 64 = some (.imul, 1, []) := by decide +kernel
theorem p19_65 : prog 19 65 = some (.ireturn, 1, [0]) := by decide +kernel
theorem p19_66 : prog 19 66 = some (.aload_n 0, 1, []) := by decide +kernel
theorem p19_67 : prog 19 67 = some (.getfield 45, 3, [8, 5, 0]) := by decide +kernel
theorem p19_70 : prog 19 70 = some (.iconst 1, 1, []) := by decide +kernel
theorem p19_71 : prog 19 71 = some (.iadd, 1, []) := by decide +kernel
theorem p19_72 : prog 19 72 = some (.ireturn, 1, [0]) := by decide +kernel
theorem p20_0 : prog 20 0 = some (.iload_n 1, 1, []) := by decide +kernel
theorem p20_1 : prog 20 1 = some (.iload_n 2, 1, []) := by decide +kernel
theorem p20_2 : prog 20 2 = some (.invokestatic 49, 3, [1, 22, 2]) := by decide +kernel
theorem p20_5 : prog 20 5 = some (.ifCond .eq 22, 3, [27]) := by decide +kernel
theorem p20_8 : prog 20 8 = some (.aload_n 0, 1, []) := by decide +kernel
theorem p20_9 : prog 20 9 = some (.getfield 12, 3, [8, 0, 1]) := by decide +kernel
theorem p20_12 : prog 20 12 = some (.iload_n 1, 1, []) := by decide +kernel
theorem p20_13 : prog 20 13 = some (.invokevirtual 57, 3, [0, 95, 2, 1]) := by decide +kernel
theorem p20_16 : prog 20 16 = some (.iload_n 2, 1, []) := by decide +kernel
theorem p20_17 : prog 20 17 = some (.invokevirtual 190, 3, [0, 82, 2, 0]) := by decide +kernel
theorem p20_20 : prog 20 20 = some (.ifCond .eq 7, 3, [27]) := by decide +kernel
theorem p20_23 : prog 20 23 = some (.iconst 1, 1, []) := by decide +kernel
theorem p20_24 : prog 20 24 = some (.goto 4, 3, [28]) := by decide +kernel
theorem p20_27 : prog 20 27 = some (.iconst 0, 1, []) := by decide +kernel
theorem p20_28 : prog 20 28 = some (.ireturn, 1, [1]) := by decide +kernel
theorem p21_0 : prog 21 0 = some (.aload_n 0, 1, []) := by decide +kernel
theorem p21_1 : prog 21 1 = some (.iload_n 1, 1, []) := by decide +kernel
theorem p21_2 : prog 21 2 = some (.iload_n 2, 1, []) := by decide +kernel
theorem p21_3 : prog 21 3 = some (.invokevirtual 67, 3, [0, 20, 3, 8]) := by decide +kernel
theorem p21_6 : prog 21 6 = some (.ifCond .eq 39, 3, [45]) := by decide +kernel
theorem p21_9 : prog 21 9 = some (.iload 4, 2, []) := by decide +kernel
theorem p21_11 : prog 21 11 = some (.iconst 0, 1, []) := by decide +kernel
theorem p21_12 : prog 21 12 = some (.bipush 11, 2, []) := by decide +kernel
theorem p21_14 : prog 21 14 = some (.invokestatic 53, 3, [1, 24, 3]) := by decide +kernel
theorem p21_17 : prog 21 17 = some (.ifCond .eq 28, 3, [45]) := by decide +kernel
theorem p21_20 : prog 21 20 = some (.aload_n 0, 1, []) := by decide +kernel
theorem p21_21 : prog 21 21 = some (.getfield 12, 3, [8, 0, 1]) := by decide +kernel
theorem p21_24 : prog 21 24 = some (.iload_n 1, 1, []) := by decide +kernel
theorem p21_25 : prog 21 25 = some (.invokevirtual 57, 3, [0, 95, 2, 1]) := by decide +kernel
theorem p21_28 : prog 21 28 = some (.iload_n 2, 1, []) := by decide +kernel
theorem p21_29 : prog 21 29 = some (.iload_n 3, 1, []) := by decide +kernel
theorem p21_30 : prog 21 30 = some (.iload 4, 2, []) := by decide +kernel
theorem p21_32 : prog 21 32 = some (.invokestatic 74, 3, [1, 26, 2]) := by decide +kernel
theorem p21_35 : prog 21 35 = some (.invokevirtual 217, 3, [0, 88, 3, 0]) := by decide +kernel
theorem p21_38 : prog 21 38 = some (.ifCond .eq 7, 3, [45]) := by decide +kernel
theorem p21_41 : prog 21 41 = some (.iconst 1, 1, []) := by decide +kernel
theorem p21_42 : prog 21 42 = some (.goto 4, 3, [46]) := by decide +kernel
theorem p21_45 : prog 21 45 = some (.iconst 0, 1, []) := by decide +kernel
theorem p21_46 : prog 21 46 = some (.ireturn, 1, [1]) := by decide +kernel
theorem p22_0 : prog 22 0 = some (.iload_n 0, 1, []) := by decide +kernel
theorem p22_1 : prog 22 1 = some (.iconst 0, 1, []) := by decide +kernel
theorem p22_2 : prog 22 2 = some (.iconst 1, 1, []) := by decide +kernel
theorem p22_3 : prog 22 3 = some (.invokestatic 53, 3, [1, 24, 3]) := by decide +kernel
theorem p22_6 : prog 22 6 = some (.ifCond .eq 17, 3, [23]) := by decide +kernel
theorem p22_9 : prog 22 9 = some (.iload_n 1, 1, []) := by decide +kernel
theorem p22_10 : prog 22 10 = some (.iconst 0, 1, []) := by decide +kernel
theorem p22_11 : prog 22 11 = some (.bipush 7, 2, []) := by decide +kernel
theorem p22_13 : prog 22 13 = some (.invokestatic 53, 3, [1, 24, 3]) := by decide +kernel
theorem p22_16 : prog 22 16 = some (.ifCond .eq 7, 3, [23]) := by decide +kernel
theorem p22_19 : prog 22 19 = some (.iconst 1, 1, []) := by decide +kernel
theorem p22_20 : prog 22 20 = some (.goto 4, 3, [24]) := by decide +kernel
theorem p22_23 : prog 22 23 = some (.iconst 0, 1, []) := by decide +kernel
theorem p22_24 : prog 22 24 = some (.ireturn, 1, [1]) := by decide +kernel
theorem p23_0 : prog 23 0 = some (.iload_n 0, 1, []) := by decide +kernel
theorem p23_1 : prog 23 1 = some (.iconst 0, 1, []) := by decide +kernel
theorem p23_2 : prog 23 2 = some (.sipush 999, 3, []) := by decide +kernel
theorem p23_5 : prog 23 5 = some (.invokestatic 53, 3, [1, 24, 3]) := by decide +kernel
theorem p23_8 : prog 23 8 = some (.ifCond .eq 29, 3, [37]) := by decide +kernel
theorem p23_11 : prog 23 11 = some (.iload_n 1, 1, []) := by decide +kernel
theorem p23_12 : prog 23 12 = some (.iconst 0, 1, []) := by decide +kernel
theorem p23_13 : prog 23 13 = some (.sipush 999, 3, []) := by decide +kernel
theorem p23_16 : prog 23 16 = some (.invokestatic 53, 3, [1, 24, 3]) := by decide +kernel
theorem p23_19 : prog 23 19 = some (.ifCond .eq 18, 3, [37]) := by decide +kernel
theorem p23_22 : prog 23 22 = some (.iload_n 2, 1, []) := by decide +kernel
theorem p23_23 : prog 23 23 = some (.iconst 0, 1, []) := by decide +kernel
theorem p23_24 : prog 23 24 = some (.sipush 999, 3, []) := by decide +kernel
theorem p23_27 : prog 23 27 = some (.invokestatic 53, 3, [1, 24, 3]) := by decide +kernel
theorem p23_30 : prog 23 30 = some (.ifCond .eq 7, 3, [37]) := by decide +kernel
theorem p23_33 : prog 23 33 = some (.iconst 1, 1, []) := by decide +kernel
theorem p23_34 : prog 23 34 = some (.goto 4, 3, [38]) := by decide +kernel
theorem p23_37 : prog 23 37 = some (.iconst 0, 1, []) := by decide +kernel
theorem p23_38 : prog 23 38 = some (.ireturn, 1, [1]) := by decide +kernel
theorem p24_0 : prog 24 0 = some (.iload_n 0, 1, []) := by decide +kernel
theorem p24_1 : prog 24 1 = some (.iload_n 1, 1, []) := by decide +kernel
theorem p24_2 : prog 24 2 = some (.if_icmp .lt 12, 3, [14]) := by decide +kernel
theorem p24_5 : prog 24 5 = some (.iload_n 0, 1, []) := by decide +kernel
theorem p24_6 : prog 24 6 = some (.iload_n 2, 1, []) := by decide +kernel
theorem p24_7 : prog 24 7 = some (.if_icmp .gt 7, 3, [14]) := by decide +kernel
theorem p24_10 : prog 24 10 = some (.iconst 1, 1, []) := by decide +kernel
theorem p24_11 : prog 24 11 = some (.goto 4, 3, [15]) := by decide +kernel
theorem p24_14 : prog 24 14 = some (.iconst 0, 1, []) := by decide +kernel
theorem p24_15 : prog 24 15 = some (.ireturn, 1, [1]) := by decide +kernel
theorem p25_0 : prog 25 0 = some (.iload_n 0, 1, []) := by decide +kernel
theorem p25_1 : prog 25 1 = some (.ldc 44, 2, [0, 1000000]) := by decide +kernel
theorem p25_3 : prog 25 3 = some (.imul, 1, []) := by decide +kernel
theorem p25_4 : prog 25 4 = some (.iload_n 1, 1, []) := by decide +kernel
theorem p25_5 : prog 25 5 = some (.sipush 1000, 3, []) := by decide +kernel
theorem p25_8 : prog 25 8 = some (.imul, 1, []) := by decide +kernel
theorem p25_9 : prog 25 9 = some (.iadd, 1, []) := by decide +kernel
theorem p25_10 : prog 25 10 = some (.iload_n 2, 1, []) := by decide +kernel
theorem p25_11 : prog 25 11 = some (.iadd, 1, []) := by decide +kernel
theorem p25_12 : prog 25 12 = some (.ireturn, 1, [0]) := by decide +kernel
theorem p26_0 : prog 26 0 = some (.iload_n 0, 1, []) := by decide +kernel
theorem p26_1 : prog 26 1 = some (.ifCond .eq 10, 3, [11]) := by decide +kernel
theorem p26_4 : prog 26 4 = some (.bipush 12, 2, []) := by decide +kernel
theorem p26_6 : prog 26 6 = some (.iload_n 1, 1, []) := by decide +kernel
theorem p26_7 : prog 26 7 = some (.iadd, 1, []) := by decide +kernel
theorem p26_8 : prog 26 8 = some (.goto 4, 3, [12]) := by decide +kernel
theorem p26_11 : prog 26 11 = some (.iload_n 1, 1, []) := by decide +kernel
theorem p26_12 : prog 26 12 = some (.ireturn, 1, [0]) := by decide +kernel
theorem p27_0 : prog 27 0 = some (.iload_n 0, 1, []) := by decide +kernel
theorem p27_1 : prog 27 1 = some (.bipush 12, 2, []) := by decide +kernel
theorem p27_3 : prog 27 3 = some (.if_icmp .lt 7, 3, [10]) := by decide +kernel
theorem p27_6 : prog 27 6 = some (.iconst 1, 1, []) := by decide +kernel
theorem p27_7 : prog 27 7 = some (.goto 4, 3, [11]) := by decide +kernel
theorem p27_10 : prog 27 10 = some (.iconst 0, 1, []) := by decide +kernel
theorem p27_11 : prog 27 11 = some (.ireturn, 1, [1]) := by decide +kernel
theorem p28_0 : prog 28 0 = some (.iload_n 0, 1, []) := by decide +kernel
theorem p28_1 : prog 28 1 = some (.bipush 12, 2, []) := by decide +kernel
theorem p28_3 : prog 28 3 = some (.irem, 1, []) := by decide +kernel
theorem p28_4 : prog 28 4 = some (.ireturn, 1, [0]) := by decide +kernel
theorem p29_0 : prog 29 0 = some (.iload_n 0, 1, []) := by decide +kernel
theorem p29_1 : prog 29 1 = some (.tableswitch 153 1 33 #[147, 147, 151, 147, 147, 147, 153, 147, 153, 147, 151, 153, 153, 153, 153, 153, 153, 153, 153, 147, 153, 147, 151, 149, 151, 147, 147, 153, 147, 153, 149, 149, 151], 147, [154, 148, 148, 152, 148, 148, 148, 154, 148, 154, 148, 152, 154, 154, 154, 154, 154, 154, 154, 154, 148, 154, 148, 152, 150, 152, 148, 148, 154, 148, 154, 150, 150, 152]) := by decide +kernel
theorem p29_148 : prog 29 148 = some (.iconst 3, 1, []) := by decide +kernel
theorem p29_149 : prog 29 149 = some (.ireturn, 1, [0]) := by decide +kernel
theorem p29_150 : prog 29 150 = some (.iconst 2, 1, []) := by decide +kernel
theorem p29_151 : prog 29 151 = some (.ireturn, 1, [0]) := by decide +kernel
theorem p29_152 : prog 29 152 = some (.iconst 1, 1, []) := by decide +kernel
theorem p29_153 : prog 29 153 = some (.ireturn, 1, [0]) := by decide +kernel
theorem p29_154 : prog 29 154 = some (.iconst 0, 1, []) := by decide +kernel
theorem p29_155 : prog 29 155 = some (.ireturn, 1, [0]) := by decide +kernel
theorem p30_0 : prog 30 0 = some (.iload_n 0, 1, []) := by decide +kernel
theorem p30_1 : prog 30 1 = some (.lookupswitch 61 #[(3, 59), (11, 59), (23, 59), (24, 59), (25, 59), (33, 59)], 59, []) := by decide +kernel
theorem p30_60 : prog 30 60 = some (.iconst 1, 1, []) := by decide +kernel
theorem p30_61 : prog 30 61 = some (.ireturn, 1, [1]) := by decide +kernel
theorem p30_62 : prog 30 62 = some (.iconst 0, 1, []) := by decide +kernel
theorem p30_63 : prog 30 63 = some (.ireturn, 1, [1]) := by decide +kernel
theorem p31_0 : prog 31 0 = some (.aload_n 0, 1, []) := by decide +kernel
theorem p31_1 : prog 31 1 = some (.invokespecial 1, 3, [6]) := by decide +kernel
theorem p31_4 : prog 31 4 = some (.aload_n 0, 1, []) := by decide +kernel
theorem p31_5 : prog 31 5 = some (.bipush 16, 2, []) := by decide +kernel
theorem p31_7 : prog 31 7 = some (.newarray .boolean, 2, [2]) := by decide +kernel
theorem p31_9 : prog 31 9 = some (.putfield 7, 3, [9, 0, 1]) := by decide +kernel
theorem p31_12 : prog 31 12 = some (.aload_n 0, 1, []) := by decide +kernel
theorem p31_13 : prog 31 13 = some (.sipush 192, 3, []) := by decide +kernel
theorem p31_16 : prog 31 16 = some (.newarray .boolean, 2, [2]) := by decide +kernel
theorem p31_18 : prog 31 18 = some (.putfield 13, 3, [9, 1, 1]) := by decide +kernel
theorem p31_21 : prog 31 21 = some (.aload_n 0, 1, []) := by decide +kernel
theorem p31_22 : prog 31 22 = some (.bipush 16, 2, []) := by decide +kernel
theorem p31_24 : prog 31 24 = some (.newarray .int, 2, [0]) := by decide +kernel
theorem p31_26 : prog 31 26 = some (.putfield 16, 3, [9, 2, 1]) := by decide +kernel
theorem p31_29 : prog 31 29 = some (.aload_n 0, 1, []) := by decide +kernel
theorem p31_30 : prog 31 30 = some (.bipush 16, 2, []) := by decide +kernel
theorem p31_32 : prog 31 32 = some (.newarray .int, 2, [0]) := by decide +kernel
theorem p31_34 : prog 31 34 = some (.putfield 20, 3, [9, 3, 1]) := by decide +kernel
theorem p31_37 : prog 31 37 = some (.aload_n 0, 1, []) := by decide +kernel
theorem p31_38 : prog 31 38 = some (.bipush 16, 2, []) := by decide +kernel
theorem p31_40 : prog 31 40 = some (.newarray .int, 2, [0]) := by decide +kernel
theorem p31_42 : prog 31 42 = some (.putfield 23, 3, [9, 4, 1]) := by decide +kernel
theorem p31_45 : prog 31 45 = some (.aload_n 0, 1, []) := by decide +kernel
theorem p31_46 : prog 31 46 = some (.bipush 16, 2, []) := by decide +kernel
theorem p31_48 : prog 31 48 = some (.newarray .int, 2, [0]) := by decide +kernel
theorem p31_50 : prog 31 50 = some (.putfield 26, 3, [9, 5, 1]) := by decide +kernel
theorem p31_53 : prog 31 53 = some (.aload_n 0, 1, []) := by decide +kernel
theorem p31_54 : prog 31 54 = some (.sipush 384, 3, []) := by decide +kernel
theorem p31_57 : prog 31 57 = some (.newarray .int, 2, [0]) := by decide +kernel
theorem p31_59 : prog 31 59 = some (.putfield 29, 3, [9, 6, 1]) := by decide +kernel
theorem p31_62 : prog 31 62 = some (.aload_n 0, 1, []) := by decide +kernel
theorem p31_63 : prog 31 63 = some (.sipush 192, 3, []) := by decide +kernel
theorem p31_66 : prog 31 66 = some (.newarray .double, 2, [3]) := by decide +kernel
theorem p31_68 : prog 31 68 = some (.putfield 32, 3, [9, 7, 1]) := by decide +kernel
theorem p31_71 : prog 31 71 = some (.aload_n 0, 1, []) := by decide +kernel
theorem p31_72 : prog 31 72 = some (.bipush 108, 2, []) := by decide +kernel
theorem p31_74 : prog 31 74 = some (.newarray .int, 2, [0]) := by decide +kernel
theorem p31_76 : prog 31 76 = some (.putfield 36, 3, [9, 8, 1]) := by decide +kernel
theorem p31_79 : prog 31 79 = some (.aload_n 0, 1, []) := by decide +kernel
theorem p31_80 : prog 31 80 = some (.bipush 9, 2, []) := by decide +kernel
theorem p31_82 : prog 31 82 = some (.newarray .int, 2, [0]) := by decide +kernel
theorem p31_84 : prog 31 84 = some (.putfield 39, 3, [9, 9, 1]) := by decide +kernel
theorem p31_87 : prog 31 87 = some (.aload_n 0, 1, []) := by decide +kernel
theorem p31_88 : prog 31 88 = some (.bipush 8, 2, []) := by decide +kernel
theorem p31_90 : prog 31 90 = some (.newarray .int, 2, [0]) := by decide +kernel
theorem p31_92 : prog 31 92 = some (.putfield 42, 3, [9, 10, 1]) := by decide +kernel
theorem p31_95 : prog 31 95 = some (.aload_n 0, 1, []) := by decide +kernel
theorem p31_96 : prog 31 96 = some (.bipush 8, 2, []) := by decide +kernel
theorem p31_98 : prog 31 98 = some (.newarray .int, 2, [0]) := by decide +kernel
theorem p31_100 : prog 31 100 = some (.putfield 45, 3, [9, 11, 1]) := by decide +kernel
theorem p31_103 : prog 31 103 = some (.aload_n 0, 1, []) := by decide +kernel
theorem p31_104 : prog 31 104 = some (.bipush 8, 2, []) := by decide +kernel
theorem p31_106 : prog 31 106 = some (.newarray .int, 2, [0]) := by decide +kernel
theorem p31_108 : prog 31 108 = some (.putfield 48, 3, [9, 12, 1]) := by decide +kernel
theorem p31_111 : prog 31 111 = some (.aload_n 0, 1, []) := by decide +kernel
theorem p31_112 : prog 31 112 = some (.iconst 1, 1, []) := by decide +kernel
theorem p31_113 : prog 31 113 = some (.putfield 51, 3, [9, 14, 0]) := by decide +kernel
theorem p31_116 : prog 31 116 = some (.aload_n 0, 1, []) := by decide +kernel
theorem p31_117 : prog 31 117 = some (.sipush 1408, 3, []) := by decide +kernel
theorem p31_120 : prog 31 120 = some (.newarray .int, 2, [0]) := by decide +kernel
theorem p31_122 : prog 31 122 = some (.putfield 55, 3, [9, 17, 1]) := by decide +kernel
theorem p31_125 : prog 31 125 = some (.aload_n 0, 1, []) := by decide +kernel
theorem p31_126 : prog 31 126 = some (.sipush 1408, 3, []) := by decide +kernel
theorem p31_129 : prog 31 129 = some (.newarray .int, 2, [0]) := by decide +kernel
theorem p31_131 : prog 31 131 = some (.putfield 58, 3, [9, 18, 1]) := by decide +kernel
theorem p31_134 : prog 31 134 = some (.aload_n 0, 1, []) := by decide +kernel
theorem p31_135 : prog 31 135 = some (.sipush 1408, 3, []) := by decide +kernel
theorem p31_138 : prog 31 138 = some (.newarray .int, 2, [0]) := by decide +kernel
theorem p31_140 : prog 31 140 = some (.putfield 61, 3, [9, 19, 1]) := by decide +kernel
theorem p31_143 : prog 31 143 = some (.aload_n 0, 1, []) := by decide +kernel
theorem p31_144 : prog 31 144 = some (.sipush 1408, 3, []) := by decide +kernel
theorem p31_147 : prog 31 147 = some (.newarray .int, 2, [0]) := by decide +kernel
theorem p31_149 : prog 31 149 = some (.putfield 64, 3, [9, 20, 1]) := by decide +kernel
theorem p31_152 : prog 31 152 = some (.aload_n 0, 1, []) := by decide +kernel
theorem p31_153 : prog 31 153 = some (.sipush 1408, 3, []) := by decide +kernel
theorem p31_156 : prog 31 156 = some (.newarray .int, 2, [0]) := by decide +kernel
theorem p31_158 : prog 31 158 = some (.putfield 67, 3, [9, 21, 1]) := by decide +kernel
theorem p31_161 : prog 31 161 = some (.aload_n 0, 1, []) := by decide +kernel
theorem p31_162 : prog 31 162 = some (.bipush 20, 2, []) := by decide +kernel
theorem p31_164 : prog 31 164 = some (.newarray .int, 2, [0]) := by decide +kernel
theorem p31_166 : prog 31 166 = some (.putfield 70, 3, [9, 23, 1]) := by decide +kernel
theorem p31_169 : prog 31 169 = some (.aload_n 0, 1, []) := by decide +kernel
theorem p31_170 : prog 31 170 = some (.bipush 42, 2, []) := by decide +kernel
theorem p31_172 : prog 31 172 = some (.newarray .boolean, 2, [2]) := by decide +kernel
theorem p31_174 : prog 31 174 = some (.putfield 73, 3, [9, 24, 1]) := by decide +kernel
theorem p31_177 : prog 31 177 = some (.iconst 0, 1, []) := by decide +kernel
theorem p31_178 : prog 31 178 = some (.istore_n 1, 1, []) := by decide +kernel
theorem p31_179 : prog 31 179 = some (.iload_n 1, 1, []) := by decide +kernel
theorem p31_180 : prog 31 180 = some (.sipush 384, 3, []) := by decide +kernel
theorem p31_183 : prog 31 183 = some (.if_icmp .ge 16, 3, [199]) := by decide +kernel
theorem p31_186 : prog 31 186 = some (.aload_n 0, 1, []) := by decide +kernel
theorem p31_187 : prog 31 187 = some (.getfield 29, 3, [9, 6, 1]) := by decide +kernel
theorem p31_190 : prog 31 190 = some (.iload_n 1, 1, []) := by decide +kernel
theorem p31_191 : prog 31 191 = some (.iconst (-1), 1, []) := by decide +kernel
theorem p31_192 : prog 31 192 = some (.iastore, 1, []) := by decide +kernel
theorem p31_193 : prog 31 193 = some (.iinc 1 1, 3, []) := by decide +kernel
theorem p31_196 : prog 31 196 = some (.goto (-17), 3, [179]) := by decide +kernel
theorem p31_199 : prog 31 199 = some (.return_, 1, []) := by decide +kernel
theorem p32_0 : prog 32 0 = some (.iload_n 0, 1, []) := by decide +kernel
theorem p32_1 : prog 32 1 = some (.iload_n 1, 1, []) := by decide +kernel
theorem p32_2 : prog 32 2 = some (.if_icmp .lt 12, 3, [14]) := by decide +kernel
theorem p32_5 : prog 32 5 = some (.iload_n 0, 1, []) := by decide +kernel
theorem p32_6 : prog 32 6 = some (.iload_n 2, 1, []) := by decide +kernel
theorem p32_7 : prog 32 7 = some (.if_icmp .gt 7, 3, [14]) := by decide +kernel
theorem p32_10 : prog 32 10 = some (.iconst 1, 1, []) := by decide +kernel
theorem p32_11 : prog 32 11 = some (.goto 4, 3, [15]) := by decide +kernel
theorem p32_14 : prog 32 14 = some (.iconst 0, 1, []) := by decide +kernel
theorem p32_15 : prog 32 15 = some (.ireturn, 1, [1]) := by decide +kernel
theorem p33_0 : prog 33 0 = some (.iload_n 1, 1, []) := by decide +kernel
theorem p33_1 : prog 33 1 = some (.iconst 0, 1, []) := by decide +kernel
theorem p33_2 : prog 33 2 = some (.iconst 1, 1, []) := by decide +kernel
theorem p33_3 : prog 33 3 = some (.invokestatic 76, 3, [1, 32, 3]) := by decide +kernel
theorem p33_6 : prog 33 6 = some (.ifCond .eq 31, 3, [37]) := by decide +kernel
theorem p33_9 : prog 33 9 = some (.iload_n 2, 1, []) := by decide +kernel
theorem p33_10 : prog 33 10 = some (.iconst 0, 1, []) := by decide +kernel
theorem p33_11 : prog 33 11 = some (.bipush 7, 2, []) := by decide +kernel
theorem p33_13 : prog 33 13 = some (.invokestatic 76, 3, [1, 32, 3]) := by decide +kernel
theorem p33_16 : prog 33 16 = some (.ifCond .eq 21, 3, [37]) := by decide +kernel
theorem p33_19 : prog 33 19 = some (.aload_n 0, 1, []) := by decide +kernel
theorem p33_20 : prog 33 20 = some (.getfield 7, 3, [9, 0, 1]) := by decide +kernel
theorem p33_23 : prog 33 23 = some (.bipush 8, 2, []) := by decide +kernel
theorem p33_25 : prog 33 25 = some (.iload_n 1, 1, []) := by decide +kernel
theorem p33_26 : prog 33 26 = some (.imul, 1, []) := by decide +kernel
theorem p33_27 : prog 33 27 = some (.iload_n 2, 1, []) := by decide +kernel
theorem p33_28 : prog 33 28 = some (.iadd, 1, []) := by decide +kernel
theorem p33_29 : prog 33 29 = some (.baload, 1, []) := by decide +kernel
theorem p33_30 : prog 33 30 = some (.ifCond .eq 7, 3, [37]) := by decide +kernel
theorem p33_33 : prog 33 33 = some (.iconst 1, 1, []) := by decide +kernel
theorem p33_34 : prog 33 34 = some (.goto 4, 3, [38]) := by decide +kernel
theorem p33_37 : prog 33 37 = some (.iconst 0, 1, []) := by decide +kernel
theorem p33_38 : prog 33 38 = some (.ireturn, 1, [1]) := by decide +kernel
theorem p34_0 : prog 34 0 = some (.iload_n 1, 1, []) := by decide +kernel
theorem p34_1 : prog 34 1 = some (.iconst 0, 1, []) := by decide +kernel
theorem p34_2 : prog 34 2 = some (.iconst 1, 1, []) := by decide +kernel
theorem p34_3 : prog 34 3 = some (.invokestatic 76, 3, [1, 32, 3]) := by decide +kernel
theorem p34_6 : prog 34 6 = some (.ifCond .eq 46, 3, [52]) := by decide +kernel
theorem p34_9 : prog 34 9 = some (.iload_n 2, 1, []) := by decide +kernel
theorem p34_10 : prog 34 10 = some (.iconst 0, 1, []) := by decide +kernel
theorem p34_11 : prog 34 11 = some (.bipush 7, 2, []) := by decide +kernel
theorem p34_13 : prog 34 13 = some (.invokestatic 76, 3, [1, 32, 3]) := by decide +kernel
theorem p34_16 : prog 34 16 = some (.ifCond .eq 36, 3, [52]) := by decide +kernel
theorem p34_19 : prog 34 19 = some (.iload_n 3, 1, []) := by decide +kernel
theorem p34_20 : prog 34 20 = some (.iconst 0, 1, []) := by decide +kernel
theorem p34_21 : prog 34 21 = some (.bipush 47, 2, []) := by decide +kernel
theorem p34_23 : prog 34 23 = some (.invokestatic 76, 3, [1, 32, 3]) := by decide +kernel
theorem p34_26 : prog 34 26 = some (.ifCond .eq 26, 3, [52]) := by decide +kernel
theorem p34_29 : prog 34 29 = some (.iload 4, 2, []) := by decide +kernel
theorem p34_31 : prog 34 31 = some (.iconst (-1), 1, []) := by decide +kernel
theorem p34_32 : prog 34 32 = some (.bipush 7, 2, []) := by decide +kernel
theorem p34_34 : prog 34 34 = some (.invokestatic 76, 3, [1, 32, 3]) := by decide +kernel
theorem p34_37 : prog 34 37 = some (.ifCond .eq 15, 3, [52]) := by decide +kernel
theorem p34_40 : prog 34 40 = some (.iload 5, 2, []) := by decide +kernel
theorem p34_42 : prog 34 42 = some (.iconst 0, 1, []) := by decide +kernel
theorem p34_43 : prog 34 43 = some (.sipush 255, 3, []) := by decide +kernel
theorem p34_46 : prog 34 46 = some (.invokestatic 76, 3, [1, 32, 3]) := by decide +kernel
theorem p34_49 : prog 34 49 = some (.ifCond .ne 5, 3, [54]) := by decide +kernel
theorem p34_52 : prog 34 52 = some (.iconst 0, 1, []) := by decide +kernel
theorem p34_53 : prog 34 53 = some (.ireturn, 1, [1]) := by decide +kernel
theorem p34_54 : prog 34 54 = some (.bipush 8, 2, []) := by decide +kernel
theorem p34_56 : prog 34 56 = some (.iload_n 1, 1, []) := by decide +kernel
theorem p34_57 : prog 34 57 = some (.imul, 1, []) := by decide +kernel
theorem p34_58 : prog 34 58 = some (.iload_n 2, 1, []) := by decide +kernel
theorem p34_59 : prog 34 59 = some (.iadd, 1, []) := by decide +kernel
theorem p34_60 : prog 34 60 = some (.istore 6, 2, []) := by decide +kernel
theorem p34_62 : prog 34 62 = some (.aload_n 0, 1, []) := by decide +kernel
theorem p34_63 : prog 34 63 = some (.getfield 7, 3, [9, 0, 1]) := by decide +kernel
theorem p34_66 : prog 34 66 = some (.iload 6, 2, []) := by decide +kernel
theorem p34_68 : prog 34 68 = some (.iconst 1, 1, []) := by decide +kernel
theorem p34_69 : prog 34 69 = some (.bastore, 1, []) := by decide +kernel
theorem p34_70 : prog 34 70 = some (.aload_n 0, 1, []) := by decide +kernel
theorem p34_71 : prog 34 71 = some (.getfield 20, 3, [9, 3, 1]) := by decide +kernel
theorem p34_74 : prog 34 74 = some (.iload 6, 2, []) := by decide +kernel
theorem p34_76 : prog 34 76 = some (.iload_n 3, 1, []) := by decide +kernel
theorem p34_77 : prog 34 77 = some (.bipush 16, 2, []) := by decide +kernel
theorem p34_79 : prog 34 79 = some (.idiv, 1, []) := by decide +kernel
theorem p34_80 : prog 34 80 = some (.iastore, 1, []) := by decide +kernel
theorem p34_81 : prog 34 81 = some (.aload_n 0, 1, []) := by decide +kernel
theorem p34_82 : prog 34 82 = some (.getfield 16, 3, [9, 2, 1]) := by decide +kernel
theorem p34_85 : prog 34 85 = some (.iload 6, 2, []) := by decide +kernel
theorem p34_87 : prog 34 87 = some (.iload_n 3, 1, []) := by decide +kernel
theorem p34_88 : prog 34 88 = some (.bipush 16, 2, []) := by decide +kernel
theorem p34_90 : prog 34 90 = some (.irem, 1, []) := by decide +kernel
theorem p34_91 : prog 34 91 = some (.iastore, 1, []) := by decide +kernel
theorem p34_92 : prog 34 92 = some (.aload_n 0, 1, []) := by decide +kernel
theorem p34_93 : prog 34 93 = some (.getfield 23, 3, [9, 4, 1]) := by decide +kernel
theorem p34_96 : prog 34 96 = some (.iload 6, 2, []) := by decide +kernel
theorem p34_98 : prog 34 98 = some (.iload 4, 2, []) := by decide +kernel
theorem p34_100 : prog 34 100 = some (.iastore, 1, []) := by decide +kernel
theorem p34_101 : prog 34 101 = some (.aload_n 0, 1, []) := by decide +kernel
theorem p34_102 : prog 34 102 = some (.getfield 26, 3, [9, 5, 1]) := by decide +kernel
theorem p34_105 : prog 34 105 = some (.iload 6, 2, []) := by decide +kernel
theorem p34_107 : prog 34 107 = some (.iload 5, 2, []) := by decide +kernel
theorem p34_109 : prog 34 109 = some (.iastore, 1, []) := by decide +kernel
theorem p34_110 : prog 34 110 = some (.iconst 1, 1, []) := by decide +kernel
theorem p34_111 : prog 34 111 = some (.ireturn, 1, [1]) := by decide +kernel
theorem p35_0 : prog 35 0 = some (.aload_n 0, 1, []) := by decide +kernel
theorem p35_1 : prog 35 1 = some (.iload_n 1, 1, []) := by decide +kernel
theorem p35_2 : prog 35 2 = some (.iload_n 2, 1, []) := by decide +kernel
theorem p35_3 : prog 35 3 = some (.invokevirtual 80, 3, [0, 33, 3, 9]) := by decide +kernel
theorem p35_6 : prog 35 6 = some (.ifCond .ne 5, 3, [11]) := by decide +kernel
theorem p35_9 : prog 35 9 = some (.iconst 0, 1, []) := by decide +kernel
theorem p35_10 : prog 35 10 = some (.ireturn, 1, [1]) := by decide +kernel
theorem p35_11 : prog 35 11 = some (.aload_n 0, 1, []) := by decide +kernel
theorem p35_12 : prog 35 12 = some (.getfield 7, 3, [9, 0, 1]) := by decide +kernel
theorem p35_15 : prog 35 15 = some (.bipush 8, 2, []) := by decide +kernel
theorem p35_17 : prog 35 17 = some (.iload_n 1, 1, []) := by decide +kernel
theorem p35_18 : prog 35 18 = some (.imul, 1, []) := by decide +kernel
theorem p35_19 : prog 35 19 = some (.iload_n 2, 1, []) := by decide +kernel
theorem p35_20 : prog 35 20 = some (.iadd, 1, []) := by decide +kernel
theorem p35_21 : prog 35 21 = some (.iconst 0, 1, []) := by decide +kernel
theorem p35_22 : prog 35 22 = some (.bastore, 1, []) := by decide +kernel
theorem p35_23 : prog 35 23 = some (.bipush 24, 2, []) := by decide +kernel
theorem p35_25 : prog 35 25 = some (.bipush 8, 2, []) := by decide +kernel
theorem p35_27 : prog 35 27 = some (.iload_n 1, 1, []) := by decide +kernel
theorem p35_28 : prog 35 28 = some (.imul, 1, []) := by decide +kernel
theorem p35_29 : prog 35 29 = some (.iload_n 2, 1, []) := by decide +kernel
theorem p35_30 : prog 35 30 = some (.iadd, 1, []) := by decide +kernel
theorem p35_31 : prog 35 31 = some (.imul, 1, []) := by decide +kernel
theorem p35_32 : prog 35 32 = some (.istore_n 3, 1, []) := by decide +kernel
theorem p35_33 : prog 35 33 = some (.iload_n 3, 1, []) := by decide +kernel
theorem p35_34 : prog 35 34 = some (.bipush 24, 2, []) := by decide +kernel
theorem p35_36 : prog 35 36 = some (.bipush 8, 2, []) := by decide +kernel
theorem p35_38 : prog 35 38 = some (.iload_n 1, 1, []) := by decide +kernel
theorem p35_39 : prog 35 39 = some (.imul, 1, []) := by decide +kernel
theorem p35_40 : prog 35 40 = some (.iload_n 2, 1, []) := by decide +kernel
theorem p35_41 : prog 35 41 = some (.iadd, 1, []) := by decide +kernel
theorem p35_42 : prog 35 42 = some (.imul, 1, []) := by decide +kernel
theorem p35_43 : prog 35 43 = some (.bipush 24, 2, []) := by decide +kernel
theorem p35_45 : prog 35 45 = some (.iadd, 1, []) := by decide +kernel
theorem p35_46 : prog 35 46 = some (.if_icmp .ge 16, 3, [62]) := by decide +kernel
theorem p35_49 : prog 35 49 = some (.aload_n 0, 1, []) := by decide +kernel
theorem p35_50 : prog 35 50 = some (.getfield 29, 3, [9, 6, 1]) := by decide +kernel
theorem p35_53 : prog 35 53 = some (.iload_n 3, 1, []) := by decide +kernel
theorem p35_54 : prog 35 54 = some (.iconst (-1), 1, []) := by decide +kernel
theorem p35_55 : prog 35 55 = some (.iastore, 1, []) := by decide +kernel
theorem p35_56 : prog 35 56 = some (.iinc 3 1, 3, []) := by decide +kernel
theorem p35_59 : prog 35 59 = some (.goto (-26), 3, [33]) := by decide +kernel
theorem p35_62 : prog 35 62 = some (.iconst 1, 1, []) := by decide +kernel
theorem p35_63 : prog 35 63 = some (.ireturn, 1, [1]) := by decide +kernel
theorem p36_0 : prog 36 0 = some (.bipush 24, 2, []) := by decide +kernel
theorem p36_2 : prog 36 2 = some (.bipush 8, 2, []) := by decide +kernel
theorem p36_4 : prog 36 4 = some (.iload_n 0, 1, []) := by decide +kernel
theorem p36_5 : prog 36 5 = some (.imul, 1, []) := by decide +kernel
theorem p36_6 : prog 36 6 = some (.iload_n 1, 1, []) := by decide +kernel
theorem p36_7 : prog 36 7 = some (.iadd, 1, []) := by decide +kernel
theorem p36_8 : prog 36 8 = some (.imul, 1, []) := by decide +kernel
theorem p36_9 : prog 36 9 = some (.iload_n 2, 1, []) := by decide +kernel
theorem p36_10 : prog 36 10 = some (.iadd, 1, []) := by decide +kernel
theorem p36_11 : prog 36 11 = some (.iconst 1, 1, []) := by decide +kernel
theorem p36_12 : prog 36 12 = some (.isub, 1, []) := by decide +kernel
theorem p36_13 : prog 36 13 = some (.ireturn, 1, [0]) := by decide +kernel
theorem p37_0 : prog 37 0 = some (.aload_n 0, 1, []) := by decide +kernel
theorem p37_1 : prog 37 1 = some (.iload_n 1, 1, []) := by decide +kernel
theorem p37_2 : prog 37 2 = some (.iload_n 2, 1, []) := by decide +kernel
theorem p37_3 : prog 37 3 = some (.invokevirtual 80, 3, [0, 33, 3, 9]) := by decide +kernel
theorem p37_6 : prog 37 6 = some (.ifCond .eq 25, 3, [31]) := by decide +kernel
theorem p37_9 : prog 37 9 = some (.iload 4, 2, []) := by decide +kernel
theorem p37_11 : prog 37 11 = some (.iconst 0, 1, []) := by decide +kernel
theorem p37_12 : prog 37 12 = some (.bipush 11, 2, []) := by decide +kernel
theorem p37_14 : prog 37 14 = some (.invokestatic 76, 3, [1, 32, 3]) := by decide +kernel
theorem p37_17 : prog 37 17 = some (.ifCond .eq 14, 3, [31]) := by decide +kernel
theorem p37_20 : prog 37 20 = some (.iload 5, 2, []) := by decide +kernel
theorem p37_22 : prog 37 22 = some (.iconst 0, 1, []) := by decide +kernel
theorem p37_23 : prog 37 23 = some (.bipush 31, 2, []) := by decide +kernel
theorem p37_25 : prog 37 25 = some (.invokestatic 76, 3, [1, 32, 3]) := by decide +kernel
theorem p37_28 : prog 37 28 = some (.ifCond .ne 5, 3, [33]) := by decide +kernel
theorem p37_31 : prog 37 31 = some (.iconst 0, 1, []) := by decide +kernel
theorem p37_32 : prog 37 32 = some (.ireturn, 1, [1]) := by decide +kernel
theorem p37_33 : prog 37 33 = some (.aload_n 0, 1, []) := by decide +kernel
theorem p37_34 : prog 37 34 = some (.getfield 29, 3, [9, 6, 1]) := by decide +kernel
theorem p37_37 : prog 37 37 = some (.iload_n 1, 1, []) := by decide +kernel
theorem p37_38 : prog 37 38 = some (.iload_n 2, 1, []) := by decide +kernel
theorem p37_39 : prog 37 39 = some (.iload_n 3, 1, []) := by decide +kernel
theorem p37_40 : prog 37 40 = some (.ifCond .eq 8, 3, [48]) := by decide +kernel
theorem p37_43 : prog 37 43 = some (.bipush 13, 2, []) := by decide +kernel
theorem p37_45 : prog 37 45 = some (.goto 4, 3, [49]) := by decide +kernel
theorem p37_48 : prog 37 48 = some (.iconst 1, 1, []) := by decide +kernel
theorem p37_49 : prog 37 49 = some (.iload 4, 2, []) := by decide +kernel
theorem p37_51 : prog 37 51 = some (.iadd, 1, []) := by decide +kernel
theorem p37_52 : prog 37 52 = some (.invokestatic 84, 3, [1, 36, 3]) := by decide +kernel
theorem p37_55 : prog 37 55 = some (.iload 5, 2, []) := by decide +kernel
theorem p37_57 : prog 37 57 = some (.iastore, 1, []) := by decide +kernel
theorem p37_58 : prog 37 58 = some (.iload_n 3, 1, []) := by decide +kernel
theorem p37_59 : prog 37 59 = some (.ifCond .ne 21, 3, [80]) := by decide +kernel
theorem p37_62 : prog 37 62 = some (.aload_n 0, 1, []) := by decide +kernel
theorem p37_63 : prog 37 63 = some (.getfield 13, 3, [9, 1, 1]) := by decide +kernel
theorem p37_66 : prog 37 66 = some (.bipush 12, 2, []) := by decide +kernel
theorem p37_68 : prog 37 68 = some (.bipush 8, 2, []) := by decide +kernel
theorem p37_70 : prog 37 70 = some (.iload_n 1, 1, []) := by decide +kernel
theorem p37_71 : prog 37 71 = some (.imul, 1, []) := by decide +kernel
theorem p37_72 : prog 37 72 = some (.iload_n 2, 1, []) := by decide +kernel
theorem p37_73 : prog 37 73 = some (.iadd, 1, []) := by decide +kernel
theorem p37_74 : prog 37 74 = some (.imul, 1, []) := by decide +kernel
theorem p37_75 : prog 37 75 = some (.iload 4, 2, []) := by decide +kernel
theorem p37_77 : prog 37 77 = some (.iadd, 1, []) := by decide +kernel
theorem p37_78 : prog 37 78 = some (.iconst 0, 1, []) := by decide +kernel
theorem p37_79 : prog 37 79 = some (.bastore, 1, []) := by decide +kernel
theorem p37_80 : prog 37 80 = some (.iconst 1, 1, []) := by decide +kernel
theorem p37_81 : prog 37 81 = some (.ireturn, 1, [1]) := by decide +kernel
theorem p38_0 : prog 38 0 = some (.aload_n 0, 1, []) := by decide +kernel
theorem p38_1 : prog 38 1 = some (.iload_n 1, 1, []) := by decide +kernel
theorem p38_2 : prog 38 2 = some (.iload_n 2, 1, []) := by decide +kernel
theorem p38_3 : prog 38 3 = some (.invokevirtual 80, 3, [0, 33, 3, 9]) := by decide +kernel
theorem p38_6 : prog 38 6 = some (.ifCond .eq 29, 3, [35]) := by decide +kernel
theorem p38_9 : prog 38 9 = some (.iload_n 3, 1, []) := by decide +kernel
theorem p38_10 : prog 38 10 = some (.iconst 0, 1, []) := by decide +kernel
theorem p38_11 : prog 38 11 = some (.bipush 11, 2, []) := by decide +kernel
theorem p38_13 : prog 38 13 = some (.invokestatic 76, 3, [1, 32, 3]) := by decide +kernel
theorem p38_16 : prog 38 16 = some (.ifCond .eq 19, 3, [35]) := by decide +kernel
theorem p38_19 : prog 38 19 = some (.aload_n 0, 1, []) := by decide +kernel
theorem p38_20 : prog 38 20 = some (.getfield 29, 3, [9, 6, 1]) := by decide +kernel
theorem p38_23 : prog 38 23 = some (.iload_n 1, 1, []) := by decide +kernel
theorem p38_24 : prog 38 24 = some (.iload_n 2, 1, []) := by decide +kernel
theorem p38_25 : prog 38 25 = some (.iconst 1, 1, []) := by decide +kernel
theorem p38_26 : prog 38 26 = some (.iload_n 3, 1, []) := by decide +kernel
theorem p38_27 : prog 38 27 = some (.iadd, 1, []) := by decide +kernel
theorem p38_28 : prog 38 28 = some (.invokestatic 84, 3, [1, 36, 3]) := by decide +kernel
theorem p38_31 : prog 38 31 = some (.iaload, 1, []) := by decide +kernel
theorem p38_32 : prog 38 32 = some (.ifCond .ge 5, 3, [37]) := by decide +kernel
theorem p38_35 : prog 38 35 = some (.iconst 0, 1, []) := by decide +kernel
theorem p38_36 : prog 38 36 = some (.ireturn, 1, [1]) := by decide +kernel
theorem p38_37 : prog 38 37 = some (.aload_n 0, 1, []) := by decide +kernel
theorem p38_38 : prog 38 38 = some (.getfield 13, 3, [9, 1, 1]) := by decide +kernel
theorem p38_41 : prog 38 41 = some (.bipush 12, 2, []) := by decide +kernel
theorem p38_43 : prog 38 43 = some (.bipush 8, 2, []) := by decide +kernel
theorem p38_45 : prog 38 45 = some (.iload_n 1, 1, []) := by decide +kernel
theorem p38_46 : prog 38 46 = some (.imul, 1, []) := by decide +kernel
theorem p38_47 : prog 38 47 = some (.iload_n 2, 1, []) := by decide +kernel
theorem p38_48 : prog 38 48 = some (.iadd, 1, []) := by decide +kernel
theorem p38_49 : prog 38 49 = some (.imul, 1, []) := by decide +kernel
theorem p38_50 : prog 38 50 = some (.iload_n 3, 1, []) := by decide +kernel
theorem p38_51 : prog 38 51 = some (.iadd, 1, []) := by decide +kernel
theorem p38_52 : prog 38 52 = some (.iconst 1, 1, []) := by decide +kernel
theorem p38_53 : prog 38 53 = some (.bastore, 1, []) := by decide +kernel
theorem p38_54 : prog 38 54 = some (.aload_n 0, 1, []) := by decide +kernel
theorem p38_55 : prog 38 55 = some (.getfield 32, 3, [9, 7, 1]) := by decide +kernel
theorem p38_58 : prog 38 58 = some (.bipush 12, 2, []) := by decide +kernel
theorem p38_60 : prog 38 60 = some (.bipush 8, 2, []) := by decide +kernel
theorem p38_62 : prog 38 62 = some (.iload_n 1, 1, []) := by decide +kernel
theorem p38_63 : prog 38 63 = some (.imul, 1, []) := by decide +kernel
theorem p38_64 : prog 38 64 = some (.iload_n 2, 1, []) := by decide +kernel
theorem p38_65 : prog 38 65 = some (.iadd, 1, []) := by decide +kernel
theorem p38_66 : prog 38 66 = some (.imul, 1, []) := by decide +kernel
theorem p38_67 : prog 38 67 = some (.iload_n 3, 1, []) := by decide +kernel
theorem p38_68 : prog 38 68 = some (.iadd, 1, []) := by decide +kernel
theorem p38_69 : prog 38 69 = some (.dload 4, 2, []) := by decide +kernel
theorem p38_71 : prog 38 71 = some (.dastore, 1, []) := by decide +kernel
theorem p38_72 : prog 38 72 = some (.iconst 1, 1, []) := by decide +kernel
theorem p38_73 : prog 38 73 = some (.ireturn, 1, [1]) := by decide +kernel
theorem p39_0 : prog 39 0 = some (.aload_n 0, 1, []) := by decide +kernel
theorem p39_1 : prog 39 1 = some (.iload_n 1, 1, []) := by decide +kernel
theorem p39_2 : prog 39 2 = some (.iload_n 2, 1, []) := by decide +kernel
theorem p39_3 : prog 39 3 = some (.invokevirtual 80, 3, [0, 33, 3, 9]) := by decide +kernel
theorem p39_6 : prog 39 6 = some (.ifCond .eq 14, 3, [20]) := by decide +kernel
theorem p39_9 : prog 39 9 = some (.iload 4, 2, []) := by decide +kernel
theorem p39_11 : prog 39 11 = some (.iconst 0, 1, []) := by decide +kernel
theorem p39_12 : prog 39 12 = some (.bipush 11, 2, []) := by decide +kernel
theorem p39_14 : prog 39 14 = some (.invokestatic 76, 3, [1, 32, 3]) := by decide +kernel
theorem p39_17 : prog 39 17 = some (.ifCond .ne 5, 3, [22]) := by decide +kernel
theorem p39_20 : prog 39 20 = some (.iconst 0, 1, []) := by decide +kernel
theorem p39_21 : prog 39 21 = some (.ireturn, 1, [1]) := by decide +kernel
theorem p39_22 : prog 39 22 = some (.iload_n 1, 1, []) := by decide +kernel
theorem p39_23 : prog 39 23 = some (.iload_n 2, 1, []) := by decide +kernel
theorem p39_24 : prog 39 24 = some (.iload_n 3, 1, []) := by decide +kernel
theorem p39_25 : prog 39 25 = some (.ifCond .eq 8, 3, [33]) := by decide +kernel
theorem p39_28 : prog 39 28 = some (.bipush 13, 2, []) := by decide +kernel
theorem p39_30 : prog 39 30 = some (.goto 4, 3, [34]) := by decide +kernel
theorem p39_33 : prog 39 33 = some (.iconst 1, 1, []) := by decide +kernel
theorem p39_34 : prog 39 34 = some (.iload 4, 2, []) := by decide +kernel
theorem p39_36 : prog 39 36 = some (.iadd, 1, []) := by decide +kernel
theorem p39_37 : prog 39 37 = some (.invokestatic 84, 3, [1, 36, 3]) := by decide +kernel
theorem p39_40 : prog 39 40 = some (.istore 5, 2, []) := by decide +kernel
theorem p39_42 : prog 39 42 = some (.aload_n 0, 1, []) := by decide +kernel
theorem p39_43 : prog 39 43 = some (.getfield 29, 3, [9, 6, 1]) := by decide +kernel
theorem p39_46 : prog 39 46 = some (.iload 5, 2, []) := by decide +kernel
theorem p39_48 : prog 39 48 = some (.iaload, 1, []) := by decide +kernel
theorem p39_49 : prog 39 49 = some (.ifCond .ge 5, 3, [54]) := by decide +kernel
theorem p39_52 : prog 39 52 = some (.iconst 0, 1, []) := by decide +kernel
theorem p39_53 : prog 39 53 = some (.ireturn, 1, [1]) := by decide +kernel
theorem p39_54 : prog 39 54 = some (.aload_n 0, 1, []) := by decide +kernel
theorem p39_55 : prog 39 55 = some (.getfield 29, 3, [9, 6, 1]) := by decide +kernel
theorem p39_58 : prog 39 58 = some (.iload 5, 2, []) := by decide +kernel
theorem p39_60 : prog 39 60 = some (.iconst (-1), 1, []) := by decide +kernel
theorem p39_61 : prog 39 61 = some (.iastore, 1, []) := by decide +kernel
theorem p39_62 : prog 39 62 = some (.iconst 1, 1, []) := by decide +kernel
theorem p39_63 : prog 39 63 = some (.ireturn, 1, [1]) := by decide +kernel
theorem p40_0 : prog 40 0 = some (.iconst 0, 1, []) := by decide +kernel
theorem p40_1 : prog 40 1 = some (.istore_n 1, 1, []) := by decide +kernel
theorem p40_2 : prog 40 2 = some (.iconst 0, 1, []) := by decide +kernel
theorem p40_3 : prog 40 3 = some (.istore_n 2, 1, []) := by decide +kernel
theorem p40_4 : prog 40 4 = some (.iload_n 2, 1, []) := by decide +kernel
theorem p40_5 : prog 40 5 = some (.bipush 8, 2, []) := by decide +kernel
theorem p40_7 : prog 40 7 = some (.if_icmp .ge 84, 3, [91]) := by decide +kernel
theorem p40_10 : prog 40 10 = some (.aload_n 0, 1, []) := by decide +kernel
theorem p40_11 : prog 40 11 = some (.getfield 7, 3, [9, 0, 1]) := by decide +kernel
theorem p40_14 : prog 40 14 = some (.bipush 8, 2, []) := by decide +kernel
theorem p40_16 : prog 40 16 = some (.iload_n 2, 1, []) := by decide +kernel
theorem p40_17 : prog 40 17 = some (.iadd, 1, []) := by decide +kernel
theorem p40_18 : prog 40 18 = some (.aload_n 0, 1, []) := by decide +kernel
theorem p40_19 : prog 40 19 = some (.getfield 7, 3, [9, 0, 1]) := by decide +kernel
theorem p40_22 : prog 40 22 = some (.iload_n 2, 1, []) := by decide +kernel
theorem p40_23 : prog 40 23 = some (.baload, 1, []) := by decide +kernel
theorem p40_24 : prog 40 24 = some (.bastore, 1, []) := by decide +kernel
theorem p40_25 : prog 40 25 = some (.aload_n 0, 1, []) := by decide +kernel
theorem p40_26 : prog 40 26 = some (.getfield 16, 3, [9, 2, 1]) := by decide +kernel
theorem p40_29 : prog 40 29 = some (.bipush 8, 2, []) := by decide +kernel
theorem p40_31 : prog 40 31 = some (.iload_n 2, 1, []) := by decide +kernel
theorem p40_32 : prog 40 32 = some (.iadd, 1, []) := by decide +kernel
theorem p40_33 : prog 40 33 = some (.aload_n 0, 1, []) := by decide +kernel
theorem p40_34 : prog 40 34 = some (.getfield 16, 3, [9, 2, 1]) := by decide +kernel
theorem p40_37 : prog 40 37 = some (.iload_n 2, 1, []) := by decide +kernel
theorem p40_38 : prog 40 38 = some (.iaload, 1, []) := by decide +kernel
theorem p40_39 : prog 40 39 = some (.iastore, 1, []) := by decide +kernel
theorem p40_40 : prog 40 40 = some (.aload_n 0, 1, []) := by decide +kernel
theorem p40_41 : prog 40 41 = some (.getfield 20, 3, [9, 3, 1]) := by decide +kernel
theorem p40_44 : prog 40 44 = some (.bipush 8, 2, []) := by decide +kernel
theorem p40_46 : prog 40 46 = some (.iload_n 2, 1, []) := by decide +kernel
theorem p40_47 : prog 40 47 = some (.iadd, 1, []) := by decide +kernel
theorem p40_48 : prog 40 48 = some (.aload_n 0, 1, []) := by decide +kernel
theorem p40_49 : prog 40 49 = some (.getfield 20, 3, [9, 3, 1]) := by decide +kernel
theorem p40_52 : prog 40 52 = some (.iload_n 2, 1, []) := by decide +kernel
theorem p40_53 : prog 40 53 = some (.iaload, 1, []) := by decide +kernel
theorem p40_54 : prog 40 54 = some (.iastore, 1, []) := by decide +kernel
theorem p40_55 : prog 40 55 = some (.aload_n 0, 1, []) := by decide +kernel
theorem p40_56 : prog 40 56 = some (.getfield 23, 3, [9, 4, 1]) := by decide +kernel
theorem p40_59 : prog 40 59 = some (.bipush 8, 2, []) := by decide +kernel
theorem p40_61 : prog 40 61 = some (.iload_n 2, 1, []) := by decide +kernel
theorem p40_62 : prog 40 62 = some (.iadd, 1, []) := by decide +kernel
theorem p40_63 : prog 40 63 = some (.aload_n 0, 1, []) := by decide +kernel
theorem p40_64 : prog 40 64 = some (.getfield 23, 3, [9, 4, 1]) := by decide +kernel
theorem p40_67 : prog 40 67 = some (.iload_n 2, 1, []) := by decide +kernel
theorem p40_68 : prog 40 68 = some (.iaload, 1, []) := by decide +kernel
theorem p40_69 : prog 40 69 = some (.iastore, 1, []) := by decide +kernel
theorem p40_70 : prog 40 70 = some (.aload_n 0, 1, []) := by decide +kernel
theorem p40_71 : prog 40 71 = some (.getfield 26, 3, [9, 5, 1]) := by decide +kernel
theorem p40_74 : prog 40 74 = some (.bipush 8, 2, []) := by decide +kernel
theorem p40_76 : prog 40 76 = some (.iload_n 2, 1, []) := by decide +kernel
theorem p40_77 : prog 40 77 = some (.iadd, 1, []) := by decide +kernel
theorem p40_78 : prog 40 78 = some (.aload_n 0, 1, []) := by decide +kernel
theorem p40_79 : prog 40 79 = some (.getfield 26, 3, [9, 5, 1]) := by decide +kernel
theorem p40_82 : prog 40 82 = some (.iload_n 2, 1, []) := by decide +kernel
theorem p40_83 : prog 40 83 = some (.iaload, 1, []) := by decide +kernel
theorem p40_84 : prog 40 84 = some (.iastore, 1, []) := by decide +kernel
theorem p40_85 : prog 40 85 = some (.iinc 2 1, 3, []) := by decide +kernel
theorem p40_88 : prog 40 88 = some (.goto (-84), 3, [4]) := by decide +kernel
theorem p40_91 : prog 40 91 = some (.iconst 0, 1, []) := by decide +kernel
theorem p40_92 : prog 40 92 = some (.istore_n 2, 1, []) := by decide +kernel
theorem p40_93 : prog 40 93 = some (.iload_n 2, 1, []) := by decide +kernel
theorem p40_94 : prog 40 94 = some (.sipush 192, 3, []) := by decide +kernel
theorem p40_97 : prog 40 97 = some (.if_icmp .ge 37, 3, [134]) := by decide +kernel
theorem p40_100 : prog 40 100 = some (.aload_n 0, 1, []) := by decide +kernel
theorem p40_101 : prog 40 101 = some (.getfield 29, 3, [9, 6, 1]) := by decide +kernel
theorem p40_104 : prog 40 104 = some (.sipush 192, 3, []) := by decide +kernel
theorem p40_107 : prog 40 107 = some (.iload_n 2, 1, []) := by decide +kernel
theorem p40_108 : prog 40 108 = some (.iadd, 1, []) := by decide +kernel
theorem p40_109 : prog 40 109 = some (.aload_n 0, 1, []) := by decide +kernel
theorem p40_110 : prog 40 110 = some (.getfield 29, 3, [9, 6, 1]) := by decide +kernel
theorem p40_113 : prog 40 113 = some (.iload_n 2, 1, []) := by decide +kernel
theorem p40_114 : prog 40 114 = some (.iaload, 1, []) := by decide +kernel
theorem p40_115 : prog 40 115 = some (.iastore, 1, []) := by decide +kernel
theorem p40_116 : prog 40 116 = some (.aload_n 0, 1, []) := by decide +kernel
theorem p40_117 : prog 40 117 = some (.getfield 29, 3, [9, 6, 1]) := by decide +kernel
theorem p40_120 : prog 40 120 = some (.iload_n 2, 1, []) := by decide +kernel
theorem p40_121 : prog 40 121 = some (.iaload, 1, []) := by decide +kernel
theorem p40_122 : prog 40 122 = some (.ifCond .lt 6, 3, [128]) := by decide +kernel
theorem p40_125 : prog 40 125 = some (.iinc 1 1, 3, []) := by decide +kernel
theorem p40_128 : prog 40 128 = some (.iinc 2 1, 3, []) := by decide +kernel
theorem p40_131 : prog 40 131 = some (.goto (-38), 3, [93]) := by decide +kernel
theorem p40_134 : prog 40 134 = some (.iconst 0, 1, []) := by decide +kernel
theorem p40_135 : prog 40 135 = some (.istore_n 2, 1, []) := by decide +kernel
theorem p40_136 : prog 40 136 = some (.iload_n 2, 1, []) := by decide +kernel
theorem p40_137 : prog 40 137 = some (.bipush 96, 2, []) := by decide +kernel
theorem p40_139 : prog 40 139 = some (.if_icmp .ge 39, 3, [178]) := by decide +kernel
theorem p40_142 : prog 40 142 = some (.aload_n 0, 1, []) := by decide +kernel
theorem p40_143 : prog 40 143 = some (.getfield 13, 3, [9, 1, 1]) := by decide +kernel
theorem p40_146 : prog 40 146 = some (.bipush 96, 2, []) := by decide +kernel
theorem p40_148 : prog 40 148 = some (.iload_n 2, 1, []) := by decide +kernel
theorem p40_149 : prog 40 149 = some (.iadd, 1, []) := by decide +kernel
theorem p40_150 : prog 40 150 = some (.aload_n 0, 1, []) := by decide +kernel
theorem p40_151 : prog 40 151 = some (.getfield 13, 3, [9, 1, 1]) := by decide +kernel
theorem p40_154 : prog 40 154 = some (.iload_n 2, 1, []) := by decide +kernel
theorem p40_155 : prog 40 155 = some (.baload, 1, []) := by decide +kernel
theorem p40_156 : prog 40 156 = some (.bastore, 1, []) := by decide +kernel
theorem p40_157 : prog 40 157 = some (.aload_n 0, 1, []) := by decide +kernel
theorem p40_158 : prog 40 158 = some (.getfield 32, 3, [9, 7, 1]) := by decide +kernel
theorem p40_161 : prog 40 161 = some (.bipush 96, 2, []) := by decide +kernel
theorem p40_163 : prog 40 163 = some (.iload_n 2, 1, []) := by decide +kernel
theorem p40_164 : prog 40 164 = some (.iadd, 1, []) := by decide +kernel
theorem p40_165 : prog 40 165 = some (.aload_n 0, 1, []) := by decide +kernel
theorem p40_166 : prog 40 166 = some (.getfield 32, 3, [9, 7, 1]) := by decide +kernel
theorem p40_169 : prog 40 169 = some (.iload_n 2, 1, []) := by decide +kernel
theorem p40_170 : prog 40 170 = some (.daload, 1, []) := by decide +kernel
theorem p40_171 : prog 40 171 = some (.dastore, 1, []) := by decide +kernel
theorem p40_172 : prog 40 172 = some (.iinc 2 1, 3, []) := by decide +kernel
theorem p40_175 : prog 40 175 = some (.goto (-39), 3, [136]) := by decide +kernel
theorem p40_178 : prog 40 178 = some (.iload_n 1, 1, []) := by decide +kernel
theorem p40_179 : prog 40 179 = some (.ireturn, 1, [0]) := by decide +kernel
theorem p41_0 : prog 41 0 = some (.iload_n 1, 1, []) := by decide +kernel
theorem p41_1 : prog 41 1 = some (.bipush 33, 2, []) := by decide +kernel
theorem p41_3 : prog 41 3 = some (.bipush 126, 2, []) := by decide +kernel
theorem p41_5 : prog 41 5 = some (.invokestatic 76, 3, [1, 32, 3]) := by decide +kernel
theorem p41_8 : prog 41 8 = some (.ifCond .ne 5, 3, [13]) := by decide +kernel
theorem p41_11 : prog 41 11 = some (.iconst (-1), 1, []) := by decide +kernel
theorem p41_12 : prog 41 12 = some (.ireturn, 1, [0]) := by decide +kernel
theorem p41_13 : prog 41 13 = some (.aload_n 0, 1, []) := by decide +kernel
theorem p41_14 : prog 41 14 = some (.getfield 39, 3, [9, 9, 1]) := by decide +kernel
theorem p41_17 : prog 41 17 = some (.bipush 8, 2, []) := by decide +kernel
theorem p41_19 : prog 41 19 = some (.iaload, 1, []) := by decide +kernel
theorem p41_20 : prog 41 20 = some (.bipush 12, 2, []) := by decide +kernel
theorem p41_22 : prog 41 22 = some (.if_icmp .ne 6, 3, [28]) := by decide +kernel
theorem p41_25 : prog 41 25 = some (.bipush (-3), 2, []) := by decide +kernel
theorem p41_27 : prog 41 27 = some (.ireturn, 1, [0]) := by decide +kernel
theorem p41_28 : prog 41 28 = some (.aload_n 0, 1, []) := by decide +kernel
theorem p41_29 : prog 41 29 = some (.getfield 36, 3, [9, 8, 1]) := by decide +kernel
theorem p41_32 : prog 41 32 = some (.bipush 96, 2, []) := by decide +kernel
theorem p41_34 : prog 41 34 = some (.aload_n 0, 1, []) := by decide +kernel
theorem p41_35 : prog 41 35 = some (.getfield 39, 3, [9, 9, 1]) := by decide +kernel
theorem p41_38 : prog 41 38 = some (.bipush 8, 2, []) := by decide +kernel
theorem p41_40 : prog 41 40 = some (.iaload, 1, []) := by decide +kernel
theorem p41_41 : prog 41 41 = some (.iadd, 1, []) := by decide +kernel
theorem p41_42 : prog 41 42 = some (.iload_n 1, 1, []) := by decide +kernel
theorem p41_43 : prog 41 43 = some (.iastore, 1, []) := by decide +kernel
theorem p41_44 : prog 41 44 = some (.aload_n 0, 1, []) := by decide +kernel
theorem p41_45 : prog 41 45 = some (.getfield 39, 3, [9, 9, 1]) := by decide +kernel
theorem p41_48 : prog 41 48 = some (.bipush 8, 2, []) := by decide +kernel
theorem p41_50 : prog 41 50 = some (.dup2, 1, []) := by decide +kernel
theorem p41_51 : prog 41 51 = some (.iaload, 1, []) := by decide +kernel
theorem p41_52 : prog 41 52 = some (.iconst 1, 1, []) := by decide +kernel
theorem p41_53 : prog 41 53 = some (.iadd, 1, []) := by decide +kernel
theorem p41_54 : prog 41 54 = some (.iastore, 1, []) := by decide +kernel
theorem p41_55 : prog 41 55 = some (.aload_n 0, 1, []) := by decide +kernel
theorem p41_56 : prog 41 56 = some (.getfield 39, 3, [9, 9, 1]) := by decide +kernel
theorem p41_59 : prog 41 59 = some (.bipush 8, 2, []) := by decide +kernel
theorem p41_61 : prog 41 61 = some (.iaload, 1, []) := by decide +kernel
theorem p41_62 : prog 41 62 = some (.ireturn, 1, [0]) := by decide +kernel
theorem p42_0 : prog 42 0 = some (.iload_n 1, 1, []) := by decide +kernel
theorem p42_1 : prog 42 1 = some (.iconst 1, 1, []) := by decide +kernel
theorem p42_2 : prog 42 2 = some (.bipush 33, 2, []) := by decide +kernel
theorem p42_4 : prog 42 4 = some (.invokestatic 76, 3, [1, 32, 3]) := by decide +kernel
theorem p42_7 : prog 42 7 = some (.ifCond .eq 22, 3, [29]) := by decide +kernel
theorem p42_10 : prog 42 10 = some (.iload_n 2, 1, []) := by decide +kernel
theorem p42_11 : prog 42 11 = some (.iload_n 1, 1, []) := by decide +kernel
theorem p42_12 : prog 42 12 = some (.bipush 33, 2, []) := by decide +kernel
theorem p42_14 : prog 42 14 = some (.invokestatic 76, 3, [1, 32, 3]) := by decide +kernel
theorem p42_17 : prog 42 17 = some (.ifCond .eq 12, 3, [29]) := by decide +kernel
theorem p42_20 : prog 42 20 = some (.iload_n 3, 1, []) := by decide +kernel
theorem p42_21 : prog 42 21 = some (.iconst 0, 1, []) := by decide +kernel
theorem p42_22 : prog 42 22 = some (.iconst 3, 1, []) := by decide +kernel
theorem p42_23 : prog 42 23 = some (.invokestatic 76, 3, [1, 32, 3]) := by decide +kernel
theorem p42_26 : prog 42 26 = some (.ifCond .ne 5, 3, [31]) := by decide +kernel
theorem p42_29 : prog 42 29 = some (.iconst (-1), 1, []) := by decide +kernel
theorem p42_30 : prog 42 30 = some (.ireturn, 1, [0]) := by decide +kernel
theorem p42_31 : prog 42 31 = some (.aload_n 0, 1, []) := by decide +kernel
theorem p42_32 : prog 42 32 = some (.getfield 88, 3, [9, 13, 0]) := by decide +kernel
theorem p42_35 : prog 42 35 = some (.bipush 8, 2, []) := by decide +kernel
theorem p42_37 : prog 42 37 = some (.if_icmp .ne 6, 3, [43]) := by decide +kernel
theorem p42_40 : prog 42 40 = some (.bipush (-3), 2, []) := by decide +kernel
theorem p42_42 : prog 42 42 = some (.ireturn, 1, [0]) := by decide +kernel
theorem p42_43 : prog 42 43 = some (.iconst 0, 1, []) := by decide +kernel
theorem p42_44 : prog 42 44 = some (.istore 4, 2, []) := by decide +kernel
theorem p42_46 : prog 42 46 = some (.iload 4, 2, []) := by decide +kernel
theorem p42_48 : prog 42 48 = some (.aload_n 0, 1, []) := by decide +kernel
theorem p42_49 : prog 42 49 = some (.getfield 39, 3, [9, 9, 1]) := by decide +kernel
theorem p42_52 : prog 42 52 = some (.bipush 8, 2, []) := by decide +kernel
theorem p42_54 : prog 42 54 = some (.iaload, 1, []) := by decide +kernel
theorem p42_55 : prog 42 55 = some (.if_icmp .ge 34, 3, [89]) := by decide +kernel
theorem p42_58 : prog 42 58 = some (.aload_n 0, 1, []) := by decide +kernel
theorem p42_59 : prog 42 59 = some (.getfield 36, 3, [9, 8, 1]) := by decide +kernel
theorem p42_62 : prog 42 62 = some (.bipush 12, 2, []) := by decide +kernel
theorem p42_64 : prog 42 64 = some (.aload_n 0, 1, []) := by decide +kernel
theorem p42_65 : prog 42 65 = some (.getfield 88, 3, [9, 13, 0]) := by decide +kernel
theorem p42_68 : prog 42 68 = some (.imul, 1, []) := by decide +kernel
theorem p42_69 : prog 42 69 = some (.iload 4, 2, []) := by decide +kernel
theorem p42_71 : prog 42 71 = some (.iadd, 1, []) := by decide +kernel
theorem p42_72 : prog 42 72 = some (.aload_n 0, 1, []) := by decide +kernel
theorem p42_73 : prog 42 73 = some (.getfield 36, 3, [9, 8, 1]) := by decide +kernel
theorem p42_76 : prog 42 76 = some (.bipush 96, 2, []) := by decide +kernel
theorem p42_78 : prog 42 78 = some (.iload 4, 2, []) := by decide +kernel
theorem p42_80 : prog 42 80 = some (.iadd, 1, []) := by decide +kernel
theorem p42_81 : prog 42 81 = some (.iaload, 1, []) := by decide +kernel
theorem p42_82 : prog 42 82 = some (.iastore, 1, []) := by decide +kernel
theorem p42_83 : prog 42 83 = some (.iinc 4 1, 3, []) := by decide +kernel
theorem p42_86 : prog 42 86 = some (.goto (-40), 3, [46]) := by decide +kernel
theorem p42_89 : prog 42 89 = some (.aload_n 0, 1, []) := by decide +kernel
theorem p42_90 : prog 42 90 = some (.getfield 39, 3, [9, 9, 1]) := by decide +kernel
theorem p42_93 : prog 42 93 = some (.aload_n 0, 1, []) := by decide +kernel
theorem p42_94 : prog 42 94 = some (.getfield 88, 3, [9, 13, 0]) := by decide +kernel
theorem p42_97 : prog 42 97 = some (.aload_n 0, 1, []) := by decide +kernel
theorem p42_98 : prog 42 98 = some (.getfield 39, 3, [9, 9, 1]) := by decide +kernel
theorem p42_101 : prog 42 101 = some (.bipush 8, 2, []) := by decide +kernel
theorem p42_103 : prog 42 103 = some (.iaload, 1, []) := by decide +kernel
theorem p42_104 : prog 42 104 = some (.iastore, 1, []) := by decide +kernel
theorem p42_105 : prog 42 105 = some (.aload_n 0, 1, []) := by decide +kernel
theorem p42_106 : prog 42 106 = some (.getfield 39, 3, [9, 9, 1]) := by decide +kernel
theorem p42_109 : prog 42 109 = some (.bipush 8, 2, []) := by decide +kernel
theorem p42_111 : prog 42 111 = some (.iconst 0, 1, []) := by decide +kernel
theorem p42_112 : prog 42 112 = some (.iastore, 1, []) := by decide +kernel
theorem p42_113 : prog 42 113 = some (.aload_n 0, 1, []) := by decide +kernel
theorem p42_114 : prog 42 114 = some (.getfield 42, 3, [9, 10, 1]) := by decide +kernel
theorem p42_117 : prog 42 117 = some (.aload_n 0, 1, []) := by decide +kernel
theorem p42_118 : prog 42 118 = some (.getfield 88, 3, [9, 13, 0]) := by decide +kernel
theorem p42_121 : prog 42 121 = some (.iload_n 1, 1, []) := by decide +kernel
theorem p42_122 : prog 42 122 = some (.iastore, 1, []) := by decide +kernel
theorem p42_123 : prog 42 123 = some (.aload_n 0, 1, []) := by decide +kernel
theorem p42_124 : prog 42 124 = some (.getfield 45, 3, [9, 11, 1]) := by decide +kernel
theorem p42_127 : prog 42 127 = some (.aload_n 0, 1, []) := by decide +kernel
theorem p42_128 : prog 42 128 = some (.getfield 88, 3, [9, 13, 0]) := by decide +kernel
theorem p42_131 : prog 42 131 = some (.iload_n 2, 1, []) := by decide +kernel
theorem p42_132 : prog 42 132 = some (.iastore, 1, []) := by decide +kernel
theorem p42_133 : prog 42 133 = some (.aload_n 0, 1, []) := by decide +kernel
theorem p42_134 : prog 42 134 = some (.getfield 48, 3, [9, 12, 1]) := by decide +kernel
theorem p42_137 : prog 42 137 = some (.aload_n 0, 1, []) := by decide +kernel
theorem p42_138 : prog 42 138 = some (.getfield 88, 3, [9, 13, 0]) := by decide +kernel
theorem p42_141 : prog 42 141 = some (.iload_n 3, 1, []) := by decide +kernel
theorem p42_142 : prog 42 142 = some (.iastore, 1, []) := by decide +kernel
theorem p42_143 : prog 42 143 = some (.aload_n 0, 1, []) := by decide +kernel
theorem p42_144 : prog 42 144 = some (.dup, 1, []) := by decide +kernel
theorem p42_145 : prog 42 145 = some (.getfield 88, 3, [9, 13, 0]) := by decide +kernel
theorem p42_148 : prog 42 148 = some (.iconst 1, 1, []) := by decide +kernel
theorem p42_149 : prog 42 149 = some (.iadd, 1, []) := by decide +kernel
theorem p42_150 : prog 42 150 = some (.putfield 88, 3, [9, 13, 0]) := by decide +kernel
theorem p42_153 : prog 42 153 = some (.aload_n 0, 1, []) := by decide +kernel
theorem p42_154 : prog 42 154 = some (.getfield 88, 3, [9, 13, 0]) := by decide +kernel
theorem p42_157 : prog 42 157 = some (.ireturn, 1, [0]) := by decide +kernel
theorem p43_0 : prog 43 0 = some (.aload_n 0, 1, []) := by decide +kernel
theorem p43_1 : prog 43 1 = some (.getfield 88, 3, [9, 13, 0]) := by decide +kernel
theorem p43_4 : prog 43 4 = some (.istore_n 1, 1, []) := by decide +kernel
theorem p43_5 : prog 43 5 = some (.aload_n 0, 1, []) := by decide +kernel
theorem p43_6 : prog 43 6 = some (.iconst 0, 1, []) := by decide +kernel
theorem p43_7 : prog 43 7 = some (.putfield 88, 3, [9, 13, 0]) := by decide +kernel
theorem p43_10 : prog 43 10 = some (.aload_n 0, 1, []) := by decide +kernel
theorem p43_11 : prog 43 11 = some (.getfield 39, 3, [9, 9, 1]) := by decide +kernel
theorem p43_14 : prog 43 14 = some (.bipush 8, 2, []) := by decide +kernel
theorem p43_16 : prog 43 16 = some (.iconst 0, 1, []) := by decide +kernel
theorem p43_17 : prog 43 17 = some (.iastore, 1, []) := by decide +kernel
theorem p43_18 : prog 43 18 = some (.iload_n 1, 1, []) := by decide +kernel
theorem p43_19 : prog 43 19 = some (.ireturn, 1, [0]) := by decide +kernel
theorem p44_0 : prog 44 0 = some (.iload_n 1, 1, []) := by decide +kernel
theorem p44_1 : prog 44 1 = some (.iconst 0, 1, []) := by decide +kernel
theorem p44_2 : prog 44 2 = some (.sipush 999, 3, []) := by decide +kernel
theorem p44_5 : prog 44 5 = some (.invokestatic 76, 3, [1, 32, 3]) := by decide +kernel
theorem p44_8 : prog 44 8 = some (.ifCond .eq 25, 3, [33]) := by decide +kernel
theorem p44_11 : prog 44 11 = some (.iload_n 2, 1, []) := by decide +kernel
theorem p44_12 : prog 44 12 = some (.iconst 0, 1, []) := by decide +kernel
theorem p44_13 : prog 44 13 = some (.sipush 999, 3, []) := by decide +kernel
theorem p44_16 : prog 44 16 = some (.invokestatic 76, 3, [1, 32, 3]) := by decide +kernel
theorem p44_19 : prog 44 19 = some (.ifCond .eq 14, 3, [33]) := by decide +kernel
theorem p44_22 : prog 44 22 = some (.iload_n 3, 1, []) := by decide +kernel
theorem p44_23 : prog 44 23 = some (.iconst 0, 1, []) := by decide +kernel
theorem p44_24 : prog 44 24 = some (.sipush 999, 3, []) := by decide +kernel
theorem p44_27 : prog 44 27 = some (.invokestatic 76, 3, [1, 32, 3]) := by decide +kernel
theorem p44_30 : prog 44 30 = some (.ifCond .ne 5, 3, [35]) := by decide +kernel
theorem p44_33 : prog 44 33 = some (.iconst 0, 1, []) := by decide +kernel
theorem p44_34 : prog 44 34 = some (.ireturn, 1, [1]) := by decide +kernel
theorem p44_35 : prog 44 35 = some (.aload_n 0, 1, []) := by decide +kernel
theorem p44_36 : prog 44 36 = some (.iload_n 1, 1, []) := by decide +kernel
theorem p44_37 : prog 44 37 = some (.putfield 51, 3, [9, 14, 0]) := by decide +kernel
theorem p44_40 : prog 44 40 = some (.aload_n 0, 1, []) := by decide +kernel
theorem p44_41 : prog 44 41 = some (.iload_n 2, 1, []) := by decide +kernel
theorem p44_42 : prog 44 42 = some (.putfield 91, 3, [9, 15, 0]) := by decide +kernel
theorem p44_45 : prog 44 45 = some (.aload_n 0, 1, []) := by decide +kernel
theorem p44_46 : prog 44 46 = some (.iload_n 3, 1, []) := by decide +kernel
theorem p44_47 : prog 44 47 = some (.putfield 94, 3, [9, 16, 0]) := by decide +kernel
theorem p44_50 : prog 44 50 = some (.iconst 1, 1, []) := by decide +kernel
theorem p44_51 : prog 44 51 = some (.ireturn, 1, [1]) := by decide +kernel
theorem p45_0 : prog 45 0 = some (.iload_n 0, 1, []) := by decide +kernel
theorem p45_1 : prog 45 1 = some (.iconst 1, 1, []) := by decide +kernel
theorem p45_2 : prog 45 2 = some (.isub, 1, []) := by decide +kernel
theorem p45_3 : prog 45 3 = some (.iconst 3, 1, []) := by decide +kernel
theorem p45_4 : prog 45 4 = some (.irem, 1, []) := by decide +kernel
theorem p45_5 : prog 45 5 = some (.istore_n 2, 1, []) := by decide +kernel
theorem p45_6 : prog 45 6 = some (.iload_n 0, 1, []) := by decide +kernel
theorem p45_7 : prog 45 7 = some (.bipush 12, 2, []) := by decide +kernel
theorem p45_9 : prog 45 9 = some (.if_icmp .le 126, 3, [135]) := by decide +kernel
theorem p45_12 : prog 45 12 = some (.iload_n 1, 1, []) := by decide +kernel
theorem p45_13 : prog 45 13 = some (.ifCond .ne 6, 3, [19]) := by decide +kernel
theorem p45_16 : prog 45 16 = some (.bipush 40, 2, []) := by decide +kernel
theorem p45_18 : prog 45 18 = some (.ireturn, 1, [0]) := by decide +kernel
theorem p45_19 : prog 45 19 = some (.iload_n 2, 1, []) := by decide +kernel
theorem p45_20 : prog 45 20 = some (.ifCond .ne 7, 3, [27]) := by decide +kernel
theorem p45_23 : prog 45 23 = some (.iconst 0, 1, []) := by decide +kernel
theorem p45_24 : prog 45 24 = some (.goto 14, 3, [38]) := by decide +kernel
theorem p45_27 : prog 45 27 = some (.iload_n 2, 1, []) := by decide +kernel
theorem p45_28 : prog 45 28 = some (.iconst 1, 1, []) := by decide +kernel
theorem p45_29 : prog 45 29 = some (.if_icmp .ne 7, 3, [36]) := by decide +kernel
theorem p45_32 : prog 45 32 = some (.iconst 3, 1, []) := by decide +kernel
theorem p45_33 : prog 45 33 = some (.goto 5, 3, [38]) := by decide +kernel
theorem p45_36 : prog 45 36 = some (.bipush 8, 2, []) := by decide +kernel
theorem p45_38 : prog 45 38 = some (.istore_n 3, 1, []) := by decide +kernel
theorem p45_39 : prog 45 39 = some (.iload_n 1, 1, []) := by decide +kernel
theorem p45_40 : prog 45 40 = some (.iload_n 3, 1, []) := by decide +kernel
theorem p45_41 : prog 45 41 = some (.iconst 1, 1, []) := by decide +kernel
theorem p45_42 : prog 45 42 = some (.iadd, 1, []) := by decide +kernel
theorem p45_43 : prog 45 43 = some (.if_icmp .ne 6, 3, [49]) := by decide +kernel
theorem p45_46 : prog 45 46 = some (.bipush 41, 2, []) := by decide +kernel
theorem p45_48 : prog 45 48 = some (.ireturn, 1, [0]) := by decide +kernel
theorem p45_49 : prog 45 49 = some (.iload_n 1, 1, []) := by decide +kernel
theorem p45_50 : prog 45 50 = some (.iload_n 3, 1, []) := by decide +kernel
theorem p45_51 : prog 45 51 = some (.iconst 1, 1, []) := by decide +kernel
theorem p45_52 : prog 45 52 = some (.iadd, 1, []) := by decide +kernel
theorem p45_53 : prog 45 53 = some (.if_icmp .le 7, 3, [60]) := by decide +kernel
theorem p45_56 : prog 45 56 = some (.iconst (-1), 1, []) := by decide +kernel
theorem p45_57 : prog 45 57 = some (.goto 77, 3, [134]) := by decide +kernel
theorem p45_60 : prog 45 60 = some (.iload_n 1, 1, []) := by decide +kernel
theorem p45_61 : prog 45 61 = some (.iconst 1, 1, []) := by decide +kernel
theorem p45_62 : prog 45 62 = some (.if_icmp .ne 8, 3, [70]) := by decide +kernel
theorem p45_65 : prog 45 65 = some (.bipush 105, 2, []) := by decide +kernel
theorem p45_67 : prog 45 67 = some (.goto 67, 3, [134]) := by decide +kernel
theorem p45_70 : prog 45 70 = some (.iload_n 1, 1, []) := by decide +kernel
theorem p45_71 : prog 45 71 = some (.iconst 2, 1, []) := by decide +kernel
theorem p45_72 : prog 45 72 = some (.if_icmp .ne 8, 3, [80]) := by decide +kernel
theorem p45_75 : prog 45 75 = some (.bipush 110, 2, []) := by decide +kernel
theorem p45_77 : prog 45 77 = some (.goto 57, 3, [134]) := by decide +kernel
theorem p45_80 : prog 45 80 = some (.iload_n 1, 1, []) := by decide +kernel
theorem p45_81 : prog 45 81 = some (.iconst 3, 1, []) := by decide +kernel
theorem p45_82 : prog 45 82 = some (.if_icmp .ne 8, 3, [90]) := by decide +kernel
theorem p45_85 : prog 45 85 = some (.bipush 116, 2, []) := by decide +kernel
theorem p45_87 : prog 45 87 = some (.goto 47, 3, [134]) := by decide +kernel
theorem p45_90 : prog 45 90 = some (.iload_n 1, 1, []) := by decide +kernel
theorem p45_91 : prog 45 91 = some (.iconst 4, 1, []) := by decide +kernel
theorem p45_92 : prog 45 92 = some (.if_icmp .ne 8, 3, [100]) := by decide +kernel
theorem p45_95 : prog 45 95 = some (.bipush 44, 2, []) := by decide +kernel
theorem p45_97 : prog 45 97 = some (.goto 37, 3, [134]) := by decide +kernel
theorem p45_100 : prog 45 100 = some (.iload_n 1, 1, []) := by decide +kernel
theorem p45_101 : prog 45 101 = some (.iconst 5, 1, []) := by decide +kernel
theorem p45_102 : prog 45 102 = some (.if_icmp .ne 8, 3, [110]) := by decide +kernel
theorem p45_105 : prog 45 105 = some (.bipush 108, 2, []) := by decide +kernel
theorem p45_107 : prog 45 107 = some (.goto 27, 3, [134]) := by decide +kernel
theorem p45_110 : prog 45 110 = some (.iload_n 1, 1, []) := by decide +kernel
theorem p45_111 : prog 45 111 = some (.bipush 6, 2, []) := by decide +kernel
theorem p45_113 : prog 45 113 = some (.if_icmp .ne 8, 3, [121]) := by decide +kernel
theorem p45_116 : prog 45 116 = some (.bipush 111, 2, []) := by decide +kernel
theorem p45_118 : prog 45 118 = some (.goto 16, 3, [134]) := by decide +kernel
theorem p45_121 : prog 45 121 = some (.iload_n 1, 1, []) := by decide +kernel
theorem p45_122 : prog 45 122 = some (.bipush 7, 2, []) := by decide +kernel
theorem p45_124 : prog 45 124 = some (.if_icmp .ne 8, 3, [132]) := by decide +kernel
theorem p45_127 : prog 45 127 = some (.bipush 110, 2, []) := by decide +kernel
theorem p45_129 : prog 45 129 = some (.goto 5, 3, [134]) := by decide +kernel
theorem p45_132 : prog 45 132 = some (.bipush 103, 2, []) := by decide +kernel
theorem p45_134 : prog 45 134 = some (.ireturn, 1, [0]) := by decide +kernel
theorem p45_135 : prog 45 135 = some (.iload_n 1, 1, []) := by decide +kernel
theorem p45_136 : prog 45 136 = some (.ifCond .ne 6, 3, [142]) := by decide +kernel
theorem p45_139 : prog 45 139 = some (.bipush 58, 2, []) := by decide +kernel
theorem p45_141 : prog 45 141 = some (.ireturn, 1, [0]) := by decide +kernel
theorem p45_142 : prog 45 142 = some (.iload_n 2, 1, []) := by decide +kernel
theorem p45_143 : prog 45 143 = some (.ifCond .ne 35, 3, [178]) := by decide +kernel
theorem p45_146 : prog 45 146 = some (.iload_n 1, 1, []) := by decide +kernel
theorem p45_147 : prog 45 147 = some (.iconst 1, 1, []) := by decide +kernel
theorem p45_148 : prog 45 148 = some (.if_icmp .ne 8, 3, [156]) := by decide +kernel
theorem p45_151 : prog 45 151 = some (.bipush 105, 2, []) := by decide +kernel
theorem p45_153 : prog 45 153 = some (.goto 24, 3, [177]) := by decide +kernel
theorem p45_156 : prog 45 156 = some (.iload_n 1, 1, []) := by decide +kernel
theorem p45_157 : prog 45 157 = some (.iconst 2, 1, []) := by decide +kernel
theorem p45_158 : prog 45 158 = some (.if_icmp .ne 8, 3, [166]) := by decide +kernel
theorem p45_161 : prog 45 161 = some (.bipush 110, 2, []) := by decide +kernel
theorem p45_163 : prog 45 163 = some (.goto 14, 3, [177]) := by decide +kernel
theorem p45_166 : prog 45 166 = some (.iload_n 1, 1, []) := by decide +kernel
theorem p45_167 : prog 45 167 = some (.iconst 3, 1, []) := by decide +kernel
theorem p45_168 : prog 45 168 = some (.if_icmp .ne 8, 3, [176]) := by decide +kernel
theorem p45_171 : prog 45 171 = some (.bipush 116, 2, []) := by decide +kernel
theorem p45_173 : prog 45 173 = some (.goto 4, 3, [177]) := by decide +kernel
theorem p45_176 : prog 45 176 = some (.iconst (-1), 1, []) := by decide +kernel
theorem p45_177 : prog 45 177 = some (.ireturn, 1, [0]) := by decide +kernel
theorem p45_178 : prog 45 178 = some (.iload_n 2, 1, []) := by decide +kernel
theorem p45_179 : prog 45 179 = some (.iconst 1, 1, []) := by decide +kernel
theorem p45_180 : prog 45 180 = some (.if_icmp .ne 45, 3, [225]) := by decide +kernel
theorem p45_183 : prog 45 183 = some (.iload_n 1, 1, []) := by decide +kernel
theorem p45_184 : prog 45 184 = some (.iconst 1, 1, []) := by decide +kernel
theorem p45_185 : prog 45 185 = some (.if_icmp .ne 8, 3, [193]) := by decide +kernel
theorem p45_188 : prog 45 188 = some (.bipush 108, 2, []) := by decide +kernel
theorem p45_190 : prog 45 190 = some (.goto 34, 3, [224]) := by decide +kernel
theorem p45_193 : prog 45 193 = some (.iload_n 1, 1, []) := by decide +kernel
theorem p45_194 : prog 45 194 = some (.iconst 2, 1, []) := by decide +kernel
theorem p45_195 : prog 45 195 = some (.if_icmp .ne 8, 3, [203]) := by decide +kernel
theorem p45_198 : prog 45 198 = some (.bipush 111, 2, []) := by decide +kernel
theorem p45_200 : prog 45 200 = some (.goto 24, 3, [224]) := by decide +kernel
theorem p45_203 : prog 45 203 = some (.iload_n 1, 1, []) := by decide +kernel
theorem p45_204 : prog 45 204 = some (.iconst 3, 1, []) := by decide +kernel
theorem p45_205 : prog 45 205 = some (.if_icmp .ne 8, 3, [213]) := by decide +kernel
theorem p45_208 : prog 45 208 = some (.bipush 110, 2, []) := by decide +kernel
theorem p45_210 : prog 45 210 = some (.goto 14, 3, [224]) := by decide +kernel
theorem p45_213 : prog 45 213 = some (.iload_n 1, 1, []) := by decide +kernel
theorem p45_214 : prog 45 214 = some (.iconst 4, 1, []) := by decide +kernel
theorem p45_215 : prog 45 215 = some (.if_icmp .ne 8, 3, [223]) := by decide +kernel
theorem p45_218 : prog 45 218 = some (.bipush 103, 2, []) := by decide +kernel
theorem p45_220 : prog 45 220 = some (.goto 4, 3, [224]) := by decide +kernel
theorem p45_223 : prog 45 223 = some (.iconst (-1), 1, []) := by decide +kernel
theorem p45_224 : prog 45 224 = some (.ireturn, 1, [0]) := by decide +kernel
theorem p45_225 : prog 45 225 = some (.iload_n 1, 1, []) := by decide +kernel
theorem p45_226 : prog 45 226 = some (.iconst 1, 1, []) := by decide +kernel
theorem p45_227 : prog 45 227 = some (.if_icmp .ne 8, 3, [235]) := by decide +kernel
theorem p45_230 : prog 45 230 = some (.bipush 100, 2, []) := by decide +kernel
theorem p45_232 : prog 45 232 = some (.goto 55, 3, [287]) := by decide +kernel
theorem p45_235 : prog 45 235 = some (.iload_n 1, 1, []) := by decide +kernel
theorem p45_236 : prog 45 236 = some (.iconst 2, 1, []) := by decide +kernel
theorem p45_237 : prog 45 237 = some (.if_icmp .ne 8, 3, [245]) := by decide +kernel
theorem p45_240 : prog 45 240 = some (.bipush 111, 2, []) := by decide +kernel
theorem p45_242 : prog 45 242 = some (.goto 45, 3, [287]) := by decide +kernel
theorem p45_245 : prog 45 245 = some (.iload_n 1, 1, []) := by decide +kernel
theorem p45_246 : prog 45 246 = some (.iconst 3, 1, []) := by decide +kernel
theorem p45_247 : prog 45 247 = some (.if_icmp .ne 8, 3, [255]) := by decide +kernel
theorem p45_250 : prog 45 250 = some (.bipush 117, 2, []) := by decide +kernel
theorem p45_252 : prog 45 252 = some (.goto 35, 3, [287]) := by decide +kernel
theorem p45_255 : prog 45 255 = some (.iload_n 1, 1, []) := by decide +kernel
theorem p45_256 : prog 45 256 = some (.iconst 4, 1, []) := by decide +kernel
theorem p45_257 : prog 45 257 = some (.if_icmp .ne 8, 3, [265]) := by decide +kernel
theorem p45_260 : prog 45 260 = some (.bipush 98, 2, []) := by decide +kernel
theorem p45_262 : prog 45 262 = some (.goto 25, 3, [287]) := by decide +kernel
theorem p45_265 : prog 45 265 = some (.iload_n 1, 1, []) := by decide +kernel
theorem p45_266 : prog 45 266 = some (.iconst 5, 1, []) := by decide +kernel
theorem p45_267 : prog 45 267 = some (.if_icmp .ne 8, 3, [275]) := by decide +kernel
theorem p45_270 : prog 45 270 = some (.bipush 108, 2, []) := by decide +kernel
theorem p45_272 : prog 45 272 = some (.goto 15, 3, [287]) := by decide +kernel
theorem p45_275 : prog 45 275 = some (.iload_n 1, 1, []) := by decide +kernel
theorem p45_276 : prog 45 276 = some (.bipush 6, 2, []) := by decide +kernel
theorem p45_278 : prog 45 278 = some (.if_icmp .ne 8, 3, [286]) := by decide +kernel
theorem p45_281 : prog 45 281 = some (.bipush 101, 2, []) := by decide +kernel
theorem p45_283 : prog 45 283 = some (.goto 4, 3, [287]) := by decide +kernel
theorem p45_286 : prog 45 286 = some (.iconst (-1), 1, []) := by decide +kernel
theorem p45_287 : prog 45 287 = some (.ireturn, 1, [0]) := by decide +kernel
theorem p46_0 : prog 46 0 = some (.aload_n 0, 1, []) := by decide +kernel
theorem p46_1 : prog 46 1 = some (.getfield 70, 3, [9, 23, 1]) := by decide +kernel
theorem p46_4 : prog 46 4 = some (.iconst 0, 1, []) := by decide +kernel
theorem p46_5 : prog 46 5 = some (.bipush 97, 2, []) := by decide +kernel
theorem p46_7 : prog 46 7 = some (.aload_n 0, 1, []) := by decide +kernel
theorem p46_8 : prog 46 8 = some (.getfield 20, 3, [9, 3, 1]) := by decide +kernel
theorem p46_11 : prog 46 11 = some (.bipush 8, 2, []) := by decide +kernel
theorem p46_13 : prog 46 13 = some (.iload_n 1, 1, []) := by decide +kernel
theorem p46_14 : prog 46 14 = some (.imul, 1, []) := by decide +kernel
theorem p46_15 : prog 46 15 = some (.iload_n 2, 1, []) := by decide +kernel
theorem p46_16 : prog 46 16 = some (.iadd, 1, []) := by decide +kernel
theorem p46_17 : prog 46 17 = some (.iaload, 1, []) := by decide +kernel
theorem p46_18 : prog 46 18 = some (.iadd, 1, []) := by decide +kernel
theorem p46_19 : prog 46 19 = some (.iastore, 1, []) := by decide +kernel
theorem p46_20 : prog 46 20 = some (.aload_n 0, 1, []) := by decide +kernel
theorem p46_21 : prog 46 21 = some (.getfield 70, 3, [9, 23, 1]) := by decide +kernel
theorem p46_24 : prog 46 24 = some (.iconst 1, 1, []) := by decide +kernel
theorem p46_25 : prog 46 25 = some (.bipush 46, 2, []) := by decide +kernel
theorem p46_27 : prog 46 27 = some (.iastore, 1, []) := by decide +kernel
theorem p46_28 : prog 46 28 = some (.aload_n 0, 1, []) := by decide +kernel
theorem p46_29 : prog 46 29 = some (.getfield 70, 3, [9, 23, 1]) := by decide +kernel
theorem p46_32 : prog 46 32 = some (.iconst 2, 1, []) := by decide +kernel
theorem p46_33 : prog 46 33 = some (.bipush 65, 2, []) := by decide +kernel
theorem p46_35 : prog 46 35 = some (.iload_n 2, 1, []) := by decide +kernel
theorem p46_36 : prog 46 36 = some (.iadd, 1, []) := by decide +kernel
theorem p46_37 : prog 46 37 = some (.iastore, 1, []) := by decide +kernel
theorem p46_38 : prog 46 38 = some (.iload_n 3, 1, []) := by decide +kernel
theorem p46_39 : prog 46 39 = some (.ifCond .ne 5, 3, [44]) := by decide +kernel
theorem p46_42 : prog 46 42 = some (.iconst 3, 1, []) := by decide +kernel
theorem p46_43 : prog 46 43 = some (.ireturn, 1, [0]) := by decide +kernel
theorem p46_44 : prog 46 44 = some (.aload_n 0, 1, []) := by decide +kernel
theorem p46_45 : prog 46 45 = some (.getfield 70, 3, [9, 23, 1]) := by decide +kernel
theorem p46_48 : prog 46 48 = some (.iconst 3, 1, []) := by decide +kernel
theorem p46_49 : prog 46 49 = some (.bipush 46, 2, []) := by decide +kernel
theorem p46_51 : prog 46 51 = some (.iastore, 1, []) := by decide +kernel
theorem p46_52 : prog 46 52 = some (.aload_n 0, 1, []) := by decide +kernel
theorem p46_53 : prog 46 53 = some (.getfield 70, 3, [9, 23, 1]) := by decide +kernel
theorem p46_56 : prog 46 56 = some (.iconst 4, 1, []) := by decide +kernel
theorem p46_57 : prog 46 57 = some (.bipush 97, 2, []) := by decide +kernel
theorem p46_59 : prog 46 59 = some (.iload_n 3, 1, []) := by decide +kernel
theorem p46_60 : prog 46 60 = some (.iconst 1, 1, []) := by decide +kernel
theorem p46_61 : prog 46 61 = some (.isub, 1, []) := by decide +kernel
theorem p46_62 : prog 46 62 = some (.bipush 12, 2, []) := by decide +kernel
theorem p46_64 : prog 46 64 = some (.irem, 1, []) := by decide +kernel
theorem p46_65 : prog 46 65 = some (.iconst 3, 1, []) := by decide +kernel
theorem p46_66 : prog 46 66 = some (.idiv, 1, []) := by decide +kernel
theorem p46_67 : prog 46 67 = some (.iadd, 1, []) := by decide +kernel
theorem p46_68 : prog 46 68 = some (.iastore, 1, []) := by decide +kernel
theorem p46_69 : prog 46 69 = some (.iconst 0, 1, []) := by decide +kernel
theorem p46_70 : prog 46 70 = some (.istore 4, 2, []) := by decide +kernel
theorem p46_72 : prog 46 72 = some (.iload_n 3, 1, []) := by decide +kernel
theorem p46_73 : prog 46 73 = some (.iload 4, 2, []) := by decide +kernel
theorem p46_75 : prog 46 75 = some (.invokestatic 97, 3, [1, 45, 2]) := by decide +kernel
theorem p46_78 : prog 46 78 = some (.ifCond .lt 24, 3, [102]) := by decide +kernel
theorem p46_81 : prog 46 81 = some (.aload_n 0, 1, []) := by decide +kernel
theorem p46_82 : prog 46 82 = some (.getfield 70, 3, [9, 23, 1]) := by decide +kernel
theorem p46_85 : prog 46 85 = some (.iconst 5, 1, []) := by decide +kernel
theorem p46_86 : prog 46 86 = some (.iload 4, 2, []) := by decide +kernel
theorem p46_88 : prog 46 88 = some (.iadd, 1, []) := by decide +kernel
theorem p46_89 : prog 46 89 = some (.iload_n 3, 1, []) := by decide +kernel
theorem p46_90 : prog 46 90 = some (.iload 4, 2, []) := by decide +kernel
theorem p46_92 : prog 46 92 = some (.invokestatic 97, 3, [1, 45, 2]) := by decide +kernel
theorem p46_95 : prog 46 95 = some (.iastore, 1, []) := by decide +kernel
theorem p46_96 : prog 46 96 = some (.iinc 4 1, 3, []) := by decide +kernel
theorem p46_99 : prog 46 99 = some (.goto (-27), 3, [72]) := by decide +kernel
theorem p46_102 : prog 46 102 = some (.iconst 5, 1, []) := by decide +kernel
theorem p46_103 : prog 46 103 = some (.iload 4, 2, []) := by decide +kernel
theorem p46_105 : prog 46 105 = some (.iadd, 1, []) := by decide +kernel
theorem p46_106 : prog 46 106 = some (.ireturn, 1, [0]) := by decide +kernel
theorem p47_0 : prog 47 0 = some (.iload_n 3, 1, []) := by decide +kernel
theorem p47_1 : prog 47 1 = some (.iconst 1, 1, []) := by decide +kernel
theorem p47_2 : prog 47 2 = some (.isub, 1, []) := by decide +kernel
theorem p47_3 : prog 47 3 = some (.iconst 3, 1, []) := by decide +kernel
theorem p47_4 : prog 47 4 = some (.irem, 1, []) := by decide +kernel
theorem p47_5 : prog 47 5 = some (.istore 4, 2, []) := by decide +kernel
theorem p47_7 : prog 47 7 = some (.iload_n 3, 1, []) := by decide +kernel
theorem p47_8 : prog 47 8 = some (.ifCond .ne 7, 3, [15]) := by decide +kernel
theorem p47_11 : prog 47 11 = some (.iconst 0, 1, []) := by decide +kernel
theorem p47_12 : prog 47 12 = some (.goto 42, 3, [54]) := by decide +kernel
theorem p47_15 : prog 47 15 = some (.iconst 1, 1, []) := by decide +kernel
theorem p47_16 : prog 47 16 = some (.iload_n 3, 1, []) := by decide +kernel
theorem p47_17 : prog 47 17 = some (.iconst 1, 1, []) := by decide +kernel
theorem p47_18 : prog 47 18 = some (.isub, 1, []) := by decide +kernel
theorem p47_19 : prog 47 19 = some (.bipush 12, 2, []) := by decide +kernel
theorem p47_21 : prog 47 21 = some (.irem, 1, []) := by decide +kernel
theorem p47_22 : prog 47 22 = some (.iconst 3, 1, []) := by decide +kernel
theorem p47_23 : prog 47 23 = some (.idiv, 1, []) := by decide +kernel
theorem p47_24 : prog 47 24 = some (.bipush 6, 2, []) := by decide +kernel
theorem p47_26 : prog 47 26 = some (.imul, 1, []) := by decide +kernel
theorem p47_27 : prog 47 27 = some (.iadd, 1, []) := by decide +kernel
theorem p47_28 : prog 47 28 = some (.iload_n 3, 1, []) := by decide +kernel
theorem p47_29 : prog 47 29 = some (.bipush 12, 2, []) := by decide +kernel
theorem p47_31 : prog 47 31 = some (.if_icmp .le 8, 3, [39]) := by decide +kernel
theorem p47_34 : prog 47 34 = some (.iload 4, 2, []) := by decide +kernel
theorem p47_36 : prog 47 36 = some (.goto 17, 3, [53]) := by decide +kernel
theorem p47_39 : prog 47 39 = some (.iload 4, 2, []) := by decide +kernel
theorem p47_41 : prog 47 41 = some (.iconst 2, 1, []) := by decide +kernel
theorem p47_42 : prog 47 42 = some (.if_icmp .ne 7, 3, [49]) := by decide +kernel
theorem p47_45 : prog 47 45 = some (.iconst 3, 1, []) := by decide +kernel
theorem p47_46 : prog 47 46 = some (.goto 7, 3, [53]) := by decide +kernel
theorem p47_49 : prog 47 49 = some (.iconst 4, 1, []) := by decide +kernel
theorem p47_50 : prog 47 50 = some (.iload 4, 2, []) := by decide +kernel
theorem p47_52 : prog 47 52 = some (.iadd, 1, []) := by decide +kernel
theorem p47_53 : prog 47 53 = some (.iadd, 1, []) := by decide +kernel
theorem p47_54 : prog 47 54 = some (.istore 5, 2, []) := by decide +kernel
theorem p47_56 : prog 47 56 = some (.aload_n 0, 1, []) := by decide +kernel
theorem p47_57 : prog 47 57 = some (.getfield 20, 3, [9, 3, 1]) := by decide +kernel
theorem p47_60 : prog 47 60 = some (.bipush 8, 2, []) := by decide +kernel
theorem p47_62 : prog 47 62 = some (.iload_n 1, 1, []) := by decide +kernel
theorem p47_63 : prog 47 63 = some (.imul, 1, []) := by decide +kernel
theorem p47_64 : prog 47 64 = some (.iload_n 2, 1, []) := by decide +kernel
theorem p47_65 : prog 47 65 = some (.iadd, 1, []) := by decide +kernel
theorem p47_66 : prog 47 66 = some (.iaload, 1, []) := by decide +kernel
theorem p47_67 : prog 47 67 = some (.bipush 8, 2, []) := by decide +kernel
theorem p47_69 : prog 47 69 = some (.imul, 1, []) := by decide +kernel
theorem p47_70 : prog 47 70 = some (.iload_n 2, 1, []) := by decide +kernel
theorem p47_71 : prog 47 71 = some (.iadd, 1, []) := by decide +kernel
theorem p47_72 : prog 47 72 = some (.bipush 32, 2, []) := by decide +kernel
theorem p47_74 : prog 47 74 = some (.imul, 1, []) := by decide +kernel
theorem p47_75 : prog 47 75 = some (.iload 5, 2, []) := by decide +kernel
theorem p47_77 : prog 47 77 = some (.iadd, 1, []) := by decide +kernel
theorem p47_78 : prog 47 78 = some (.ireturn, 1, [0]) := by decide +kernel
theorem p48_0 : prog 48 0 = some (.aload_n 0, 1, []) := by decide +kernel
theorem p48_1 : prog 48 1 = some (.iload_n 3, 1, []) := by decide +kernel
theorem p48_2 : prog 48 2 = some (.iload 4, 2, []) := by decide +kernel
theorem p48_4 : prog 48 4 = some (.iload 5, 2, []) := by decide +kernel
theorem p48_6 : prog 48 6 = some (.invokevirtual 101, 3, [0, 46, 4, 9]) := by decide +kernel
theorem p48_9 : prog 48 9 = some (.istore 6, 2, []) := by decide +kernel
theorem p48_11 : prog 48 11 = some (.iconst 0, 1, []) := by decide +kernel
theorem p48_12 : prog 48 12 = some (.istore 7, 2, []) := by decide +kernel
theorem p48_14 : prog 48 14 = some (.iload 7, 2, []) := by decide +kernel
theorem p48_16 : prog 48 16 = some (.iload 6, 2, []) := by decide +kernel
theorem p48_18 : prog 48 18 = some (.if_icmp .gt 26, 3, [44]) := by decide +kernel
theorem p48_21 : prog 48 21 = some (.aload_n 0, 1, []) := by decide +kernel
theorem p48_22 : prog 48 22 = some (.getfield 73, 3, [9, 24, 1]) := by decide +kernel
theorem p48_25 : prog 48 25 = some (.iload 7, 2, []) := by decide +kernel
theorem p48_27 : prog 48 27 = some (.iload 7, 2, []) := by decide +kernel
theorem p48_29 : prog 48 29 = some (.ifCond .ne 7, 3, [36]) := by decide +kernel
theorem p48_32 : prog 48 32 = some (.iconst 1, 1, []) := by decide +kernel
theorem p48_33 : prog 48 33 = some (.goto 4, 3, [37]) := by decide +kernel
theorem p48_36 : prog 48 36 = some (.iconst 0, 1, []) := by decide +kernel
theorem p48_37 : prog 48 37 = some (.bastore, 1, []) := by decide +kernel
theorem p48_38 : prog 48 38 = some (.iinc 7 1, 3, []) := by decide +kernel
theorem p48_41 : prog 48 41 = some (.goto (-27), 3, [14]) := by decide +kernel
theorem p48_44 : prog 48 44 = some (.iload_n 1, 1, []) := by decide +kernel
theorem p48_45 : prog 48 45 = some (.istore 7, 2, []) := by decide +kernel
theorem p48_47 : prog 48 47 = some (.iload 7, 2, []) := by decide +kernel
theorem p48_49 : prog 48 49 = some (.iload_n 1, 1, []) := by decide +kernel
theorem p48_50 : prog 48 50 = some (.iload_n 2, 1, []) := by decide +kernel
theorem p48_51 : prog 48 51 = some (.iadd, 1, []) := by decide +kernel
theorem p48_52 : prog 48 52 = some (.if_icmp .ge 150, 3, [202]) := by decide +kernel
theorem p48_55 : prog 48 55 = some (.aload_n 0, 1, []) := by decide +kernel
theorem p48_56 : prog 48 56 = some (.getfield 73, 3, [9, 24, 1]) := by decide +kernel
theorem p48_59 : prog 48 59 = some (.iconst 0, 1, []) := by decide +kernel
theorem p48_60 : prog 48 60 = some (.baload, 1, []) := by decide +kernel
theorem p48_61 : prog 48 61 = some (.istore 8, 2, []) := by decide +kernel
theorem p48_63 : prog 48 63 = some (.aload_n 0, 1, []) := by decide +kernel
theorem p48_64 : prog 48 64 = some (.getfield 36, 3, [9, 8, 1]) := by decide +kernel
theorem p48_67 : prog 48 67 = some (.iload 7, 2, []) := by decide +kernel
theorem p48_69 : prog 48 69 = some (.iaload, 1, []) := by decide +kernel
theorem p48_70 : prog 48 70 = some (.bipush 42, 2, []) := by decide +kernel
theorem p48_72 : prog 48 72 = some (.if_icmp .eq 10, 3, [82]) := by decide +kernel
theorem p48_75 : prog 48 75 = some (.aload_n 0, 1, []) := by decide +kernel
theorem p48_76 : prog 48 76 = some (.getfield 73, 3, [9, 24, 1]) := by decide +kernel
theorem p48_79 : prog 48 79 = some (.iconst 0, 1, []) := by decide +kernel
theorem p48_80 : prog 48 80 = some (.iconst 0, 1, []) := by decide +kernel
theorem p48_81 : prog 48 81 = some (.bastore, 1, []) := by decide +kernel
theorem p48_82 : prog 48 82 = some (.iconst 1, 1, []) := by decide +kernel
theorem p48_83 : prog 48 83 = some (.istore 9, 2, []) := by decide +kernel
theorem p48_85 : prog 48 85 = some (.iload 9, 2, []) := by decide +kernel
theorem p48_87 : prog 48 87 = some (.iload 6, 2, []) := by decide +kernel
theorem p48_89 : prog 48 89 = some (.if_icmp .gt 107, 3, [196]) := by decide +kernel
theorem p48_92 : prog 48 92 = some (.aload_n 0, 1, []) := by decide +kernel
theorem p48_93 : prog 48 93 = some (.getfield 73, 3, [9, 24, 1]) := by decide +kernel
theorem p48_96 : prog 48 96 = some (.iload 9, 2, []) := by decide +kernel
theorem p48_98 : prog 48 98 = some (.baload, 1, []) := by decide +kernel
theorem p48_99 : prog 48 99 = some (.istore 10, 2, []) := by decide +kernel
theorem p48_101 : prog 48 101 = some (.aload_n 0, 1, []) := by decide +kernel
theorem p48_102 : prog 48 102 = some (.getfield 73, 3, [9, 24, 1]) := by decide +kernel
theorem p48_105 : prog 48 105 = some (.iload 9, 2, []) := by decide +kernel
theorem p48_107 : prog 48 107 = some (.aload_n 0, 1, []) := by decide +kernel
theorem p48_108 : prog 48 108 = some (.getfield 36, 3, [9, 8, 1]) := by decide +kernel
theorem p48_111 : prog 48 111 = some (.iload 7, 2, []) := by decide +kernel
theorem p48_113 : prog 48 113 = some (.iaload, 1, []) := by decide +kernel
theorem p48_114 : prog 48 114 = some (.bipush 42, 2, []) := by decide +kernel
theorem p48_116 : prog 48 116 = some (.if_icmp .ne 28, 3, [144]) := by decide +kernel
theorem p48_119 : prog 48 119 = some (.iload 10, 2, []) := by decide +kernel
theorem p48_121 : prog 48 121 = some (.ifCond .ne 15, 3, [136]) := by decide +kernel
theorem p48_124 : prog 48 124 = some (.aload_n 0, 1, []) := by decide +kernel
theorem p48_125 : prog 48 125 = some (.getfield 73, 3, [9, 24, 1]) := by decide +kernel
theorem p48_128 : prog 48 128 = some (.iload 9, 2, []) := by decide +kernel
theorem p48_130 : prog 48 130 = some (.iconst 1, 1, []) := by decide +kernel
theorem p48_131 : prog 48 131 = some (.isub, 1, []) := by decide +kernel
theorem p48_132 : prog 48 132 = some (.baload, 1, []) := by decide +kernel
theorem p48_133 : prog 48 133 = some (.ifCond .eq 7, 3, [140]) := by decide +kernel
theorem p48_136 : prog 48 136 = some (.iconst 1, 1, []) := by decide +kernel
theorem p48_137 : prog 48 137 = some (.goto 48, 3, [185]) := by decide +kernel
theorem p48_140 : prog 48 140 = some (.iconst 0, 1, []) := by decide +kernel
theorem p48_141 : prog 48 141 = some (.goto 44, 3, [185]) := by decide +kernel
theorem p48_144 : prog 48 144 = some (.iload 8, 2, []) := by decide +kernel
theorem p48_146 : prog 48 146 = some (.ifCond .eq 38, 3, [184]) := by decide +kernel
theorem p48_149 : prog 48 149 = some (.aload_n 0, 1, []) := by decide +kernel
theorem p48_150 : prog 48 150 = some (.getfield 36, 3, [9, 8, 1]) := by decide +kernel
theorem p48_153 : prog 48 153 = some (.iload 7, 2, []) := by decide +kernel
theorem p48_155 : prog 48 155 = some (.iaload, 1, []) := by decide +kernel
theorem p48_156 : prog 48 156 = some (.bipush 63, 2, []) := by decide +kernel
theorem p48_158 : prog 48 158 = some (.if_icmp .eq 22, 3, [180]) := by decide +kernel
theorem p48_161 : prog 48 161 = some (.aload_n 0, 1, []) := by decide +kernel
theorem p48_162 : prog 48 162 = some (.getfield 36, 3, [9, 8, 1]) := by decide +kernel
theorem p48_165 : prog 48 165 = some (.iload 7, 2, []) := by decide +kernel
theorem p48_167 : prog 48 167 = some (.iaload, 1, []) := by decide +kernel
theorem p48_168 : prog 48 168 = some (.aload_n 0, 1, []) := by decide +kernel
theorem p48_169 : prog 48 169 = some (.getfield 70, 3, [9, 23, 1]) := by decide +kernel
theorem p48_172 : prog 48 172 = some (.iload 9, 2, []) := by decide +kernel
theorem p48_174 : prog 48 174 = some (.iconst 1, 1, []) := by decide +kernel
theorem p48_175 : prog 48 175 = some (.isub, 1, []) := by decide +kernel
theorem p48_176 : prog 48 176 = some (.iaload, 1, []) := by decide +kernel
theorem p48_177 : prog 48 177 = some (.if_icmp .ne 7, 3, [184]) := by decide +kernel
theorem p48_180 : prog 48 180 = some (.iconst 1, 1, []) := by decide +kernel
theorem p48_181 : prog 48 181 = some (.goto 4, 3, [185]) := by decide +kernel
theorem p48_184 : prog 48 184 = some (.iconst 0, 1, []) := by decide +kernel
theorem p48_185 : prog 48 185 = some (.bastore, 1, []) := by decide +kernel
theorem p48_186 : prog 48 186 = some (.iload 10, 2, []) := by decide +kernel
theorem p48_188 : prog 48 188 = some (.istore 8, 2, []) := by decide +kernel
theorem p48_190 : prog 48 190 = some (.iinc 9 1, 3, []) := by decide +kernel
theorem p48_193 : prog 48 193 = some (.goto (-108), 3, [85]) := by decide +kernel
theorem p48_196 : prog 48 196 = some (.iinc 7 1, 3, []) := by decide +kernel
theorem p48_199 : prog 48 199 = some (.goto (-152), 3, [47]) := by decide +kernel
theorem p48_202 : prog 48 202 = some (.aload_n 0, 1, []) := by decide +kernel
theorem p48_203 : prog 48 203 = some (.getfield 73, 3, [9, 24, 1]) := by decide +kernel
theorem p48_206 : prog 48 206 = some (.iload 6, 2, []) := by decide +kernel
theorem p48_208 : prog 48 208 = some (.baload, 1, []) := by decide +kernel
theorem p48_209 : prog 48 209 = some (.ireturn, 1, [1]) := by decide +kernel
theorem p49_0 : prog 49 0 = some (.aload_n 0, 1, []) := by decide +kernel
theorem p49_1 : prog 49 1 = some (.getfield 7, 3, [9, 0, 1]) := by decide +kernel
theorem p49_4 : prog 49 4 = some (.bipush 8, 2, []) := by decide +kernel
theorem p49_6 : prog 49 6 = some (.iload_n 1, 1, []) := by decide +kernel
theorem p49_7 : prog 49 7 = some (.imul, 1, []) := by decide +kernel
theorem p49_8 : prog 49 8 = some (.iload_n 2, 1, []) := by decide +kernel
theorem p49_9 : prog 49 9 = some (.iadd, 1, []) := by decide +kernel
theorem p49_10 : prog 49 10 = some (.baload, 1, []) := by decide +kernel
theorem p49_11 : prog 49 11 = some (.ifCond .eq 23, 3, [34]) := by decide +kernel
theorem p49_14 : prog 49 14 = some (.aload_n 0, 1, []) := by decide +kernel
theorem p49_15 : prog 49 15 = some (.getfield 16, 3, [9, 2, 1]) := by decide +kernel
theorem p49_18 : prog 49 18 = some (.bipush 8, 2, []) := by decide +kernel
theorem p49_20 : prog 49 20 = some (.iload_n 1, 1, []) := by decide +kernel
theorem p49_21 : prog 49 21 = some (.imul, 1, []) := by decide +kernel
theorem p49_22 : prog 49 22 = some (.iload_n 2, 1, []) := by decide +kernel
theorem p49_23 : prog 49 23 = some (.iadd, 1, []) := by decide +kernel
theorem p49_24 : prog 49 24 = some (.iaload, 1, []) := by decide +kernel
theorem p49_25 : prog 49 25 = some (.iconst 1, 1, []) := by decide +kernel
theorem p49_26 : prog 49 26 = some (.iand, 1, []) := by decide +kernel
theorem p49_27 : prog 49 27 = some (.ifCond .eq 7, 3, [34]) := by decide +kernel
theorem p49_30 : prog 49 30 = some (.iconst 1, 1, []) := by decide +kernel
theorem p49_31 : prog 49 31 = some (.goto 4, 3, [35]) := by decide +kernel
theorem p49_34 : prog 49 34 = some (.iconst 0, 1, []) := by decide +kernel
theorem p49_35 : prog 49 35 = some (.ireturn, 1, [1]) := by decide +kernel
theorem p50_0 : prog 50 0 = some (.aload_n 0, 1, []) := by decide +kernel
theorem p50_1 : prog 50 1 = some (.getfield 29, 3, [9, 6, 1]) := by decide +kernel
theorem p50_4 : prog 50 4 = some (.iload_n 1, 1, []) := by decide +kernel
theorem p50_5 : prog 50 5 = some (.iload_n 2, 1, []) := by decide +kernel
theorem p50_6 : prog 50 6 = some (.iload_n 3, 1, []) := by decide +kernel
theorem p50_7 : prog 50 7 = some (.invokestatic 84, 3, [1, 36, 3]) := by decide +kernel
theorem p50_10 : prog 50 10 = some (.iaload, 1, []) := by decide +kernel
theorem p50_11 : prog 50 11 = some (.bipush 8, 2, []) := by decide +kernel
theorem p50_13 : prog 50 13 = some (.idiv, 1, []) := by decide +kernel
theorem p50_14 : prog 50 14 = some (.istore 4, 2, []) := by decide +kernel
theorem p50_16 : prog 50 16 = some (.aload_n 0, 1, []) := by decide +kernel
theorem p50_17 : prog 50 17 = some (.getfield 29, 3, [9, 6, 1]) := by decide +kernel
theorem p50_20 : prog 50 20 = some (.iload_n 1, 1, []) := by decide +kernel
theorem p50_21 : prog 50 21 = some (.iload_n 2, 1, []) := by decide +kernel
theorem p50_22 : prog 50 22 = some (.iload_n 3, 1, []) := by decide +kernel
theorem p50_23 : prog 50 23 = some (.invokestatic 84, 3, [1, 36, 3]) := by decide +kernel
theorem p50_26 : prog 50 26 = some (.iaload, 1, []) := by decide +kernel
theorem p50_27 : prog 50 27 = some (.ifCond .lt 12, 3, [39]) := by decide +kernel
theorem p50_30 : prog 50 30 = some (.aload_n 0, 1, []) := by decide +kernel
theorem p50_31 : prog 50 31 = some (.iload_n 1, 1, []) := by decide +kernel
theorem p50_32 : prog 50 32 = some (.iload_n 2, 1, []) := by decide +kernel
theorem p50_33 : prog 50 33 = some (.invokevirtual 104, 3, [0, 49, 3, 9]) := by decide +kernel
theorem p50_36 : prog 50 36 = some (.ifCond .ne 5, 3, [41]) := by decide +kernel
theorem p50_39 : prog 50 39 = some (.iconst 0, 1, []) := by decide +kernel
theorem p50_40 : prog 50 40 = some (.ireturn, 1, [1]) := by decide +kernel
theorem p50_41 : prog 50 41 = some (.iload 4, 2, []) := by decide +kernel
theorem p50_43 : prog 50 43 = some (.iconst 3, 1, []) := by decide +kernel
theorem p50_44 : prog 50 44 = some (.if_icmp .eq 26, 3, [70]) := by decide +kernel
theorem p50_47 : prog 50 47 = some (.iload 4, 2, []) := by decide +kernel
theorem p50_49 : prog 50 49 = some (.iconst 2, 1, []) := by decide +kernel
theorem p50_50 : prog 50 50 = some (.if_icmp .ne 24, 3, [74]) := by decide +kernel
theorem p50_53 : prog 50 53 = some (.aload_n 0, 1, []) := by decide +kernel
theorem p50_54 : prog 50 54 = some (.getfield 16, 3, [9, 2, 1]) := by decide +kernel
theorem p50_57 : prog 50 57 = some (.bipush 8, 2, []) := by decide +kernel
theorem p50_59 : prog 50 59 = some (.iload_n 1, 1, []) := by decide +kernel
theorem p50_60 : prog 50 60 = some (.imul, 1, []) := by decide +kernel
theorem p50_61 : prog 50 61 = some (.iload_n 2, 1, []) := by decide +kernel
theorem p50_62 : prog 50 62 = some (.iadd, 1, []) := by decide +kernel
theorem p50_63 : prog 50 63 = some (.iaload, 1, []) := by decide +kernel
theorem p50_64 : prog 50 64 = some (.bipush 8, 2, []) := by decide +kernel
theorem p50_66 : prog 50 66 = some (.iand, 1, []) := by decide +kernel
theorem p50_67 : prog 50 67 = some (.ifCond .ne 7, 3, [74]) := by decide +kernel
theorem p50_70 : prog 50 70 = some (.iconst 1, 1, []) := by decide +kernel
theorem p50_71 : prog 50 71 = some (.goto 4, 3, [75]) := by decide +kernel
theorem p50_74 : prog 50 74 = some (.iconst 0, 1, []) := by decide +kernel
theorem p50_75 : prog 50 75 = some (.ireturn, 1, [1]) := by decide +kernel
theorem p51_0 : prog 51 0 = some (.iconst 0, 1, []) := by decide +kernel
theorem p51_1 : prog 51 1 = some (.istore_n 3, 1, []) := by decide +kernel
theorem p51_2 : prog 51 2 = some (.iconst 1, 1, []) := by decide +kernel
theorem p51_3 : prog 51 3 = some (.iload_n 2, 1, []) := by decide +kernel
theorem p51_4 : prog 51 4 = some (.ishl, 1, []) := by decide +kernel
theorem p51_5 : prog 51 5 = some (.istore 4, 2, []) := by decide +kernel
theorem p51_7 : prog 51 7 = some (.iload 4, 2, []) := by decide +kernel
theorem p51_9 : prog 51 9 = some (.ifCond .eq 167, 3, [176]) := by decide +kernel
theorem p51_12 : prog 51 12 = some (.iconst 0, 1, []) := by decide +kernel
theorem p51_13 : prog 51 13 = some (.istore 5, 2, []) := by decide +kernel
theorem p51_15 : prog 51 15 = some (.iconst 0, 1, []) := by decide +kernel
theorem p51_16 : prog 51 16 = some (.istore 6, 2, []) := by decide +kernel
theorem p51_18 : prog 51 18 = some (.iload 6, 2, []) := by decide +kernel
theorem p51_20 : prog 51 20 = some (.bipush 8, 2, []) := by decide +kernel
theorem p51_22 : prog 51 22 = some (.if_icmp .ge 73, 3, [95]) := by decide +kernel
theorem p51_25 : prog 51 25 = some (.iload 4, 2, []) := by decide +kernel
theorem p51_27 : prog 51 27 = some (.iload 6, 2, []) := by decide +kernel
theorem p51_29 : prog 51 29 = some (.ishr, 1, []) := by decide +kernel
theorem p51_30 : prog 51 30 = some (.iconst 1, 1, []) := by decide +kernel
theorem p51_31 : prog 51 31 = some (.iand, 1, []) := by decide +kernel
theorem p51_32 : prog 51 32 = some (.ifCond .ne 6, 3, [38]) := by decide +kernel
theorem p51_35 : prog 51 35 = some (.goto 54, 3, [89]) := by decide +kernel
theorem p51_38 : prog 51 38 = some (.iload 5, 2, []) := by decide +kernel
theorem p51_40 : prog 51 40 = some (.aload_n 0, 1, []) := by decide +kernel
theorem p51_41 : prog 51 41 = some (.getfield 26, 3, [9, 5, 1]) := by decide +kernel
theorem p51_44 : prog 51 44 = some (.bipush 8, 2, []) := by decide +kernel
theorem p51_46 : prog 51 46 = some (.iload_n 1, 1, []) := by decide +kernel
theorem p51_47 : prog 51 47 = some (.imul, 1, []) := by decide +kernel
theorem p51_48 : prog 51 48 = some (.iload 6, 2, []) := by decide +kernel
theorem p51_50 : prog 51 50 = some (.iadd, 1, []) := by decide +kernel
theorem p51_51 : prog 51 51 = some (.iaload, 1, []) := by decide +kernel
theorem p51_52 : prog 51 52 = some (.ior, 1, []) := by decide +kernel
theorem p51_53 : prog 51 53 = some (.istore 5, 2, []) := by decide +kernel
theorem p51_55 : prog 51 55 = some (.aload_n 0, 1, []) := by decide +kernel
theorem p51_56 : prog 51 56 = some (.getfield 23, 3, [9, 4, 1]) := by decide +kernel
theorem p51_59 : prog 51 59 = some (.bipush 8, 2, []) := by decide +kernel
theorem p51_61 : prog 51 61 = some (.iload_n 1, 1, []) := by decide +kernel
theorem p51_62 : prog 51 62 = some (.imul, 1, []) := by decide +kernel
theorem p51_63 : prog 51 63 = some (.iload 6, 2, []) := by decide +kernel
theorem p51_65 : prog 51 65 = some (.iadd, 1, []) := by decide +kernel
theorem p51_66 : prog 51 66 = some (.iaload, 1, []) := by decide +kernel
theorem p51_67 : prog 51 67 = some (.ifCond .lt 22, 3, [89]) := by decide +kernel
theorem p51_70 : prog 51 70 = some (.iload 5, 2, []) := by decide +kernel
theorem p51_72 : prog 51 72 = some (.iconst 1, 1, []) := by decide +kernel
theorem p51_73 : prog 51 73 = some (.aload_n 0, 1, []) := by decide +kernel
theorem p51_74 : prog 51 74 = some (.getfield 23, 3, [9, 4, 1]) := by decide +kernel
theorem p51_77 : prog 51 77 = some (.bipush 8, 2, []) := by decide +kernel
theorem p51_79 : prog 51 79 = some (.iload_n 1, 1, []) := by decide +kernel
theorem p51_80 : prog 51 80 = some (.imul, 1, []) := by decide +kernel
theorem p51_81 : prog 51 81 = some (.iload 6, 2, []) := by decide +kernel
theorem p51_83 : prog 51 83 = some (.iadd, 1, []) := by decide +kernel
theorem p51_84 : prog 51 84 = some (.iaload, 1, []) := by decide +kernel
theorem p51_85 : prog 51 85 = some (.ishl, 1, []) := by decide +kernel
theorem p51_86 : prog 51 86 = some (.ior, 1, []) := by decide +kernel
theorem p51_87 : prog 51 87 = some (.istore 5, 2, []) := by decide +kernel
theorem p51_89 : prog 51 89 = some (.iinc 6 1, 3, []) := by decide +kernel
theorem p51_92 : prog 51 92 = some (.goto (-74), 3, [18]) := by decide +kernel
theorem p51_95 : prog 51 95 = some (.iconst 0, 1, []) := by decide +kernel
theorem p51_96 : prog 51 96 = some (.istore 6, 2, []) := by decide +kernel
theorem p51_98 : prog 51 98 = some (.iconst 0, 1, []) := by decide +kernel
theorem p51_99 : prog 51 99 = some (.istore 7, 2, []) := by decide +kernel
theorem p51_101 : prog 51 101 = some (.iload 7, 2, []) := by decide +kernel
theorem p51_103 : prog 51 103 = some (.bipush 8, 2, []) := by decide +kernel
theorem p51_105 : prog 51 105 = some (.if_icmp .ge 59, 3, [164]) := by decide +kernel
theorem p51_108 : prog 51 108 = some (.iload 5, 2, []) := by decide +kernel
theorem p51_110 : prog 51 110 = some (.iload 7, 2, []) := by decide +kernel
theorem p51_112 : prog 51 112 = some (.ishr, 1, []) := by decide +kernel
theorem p51_113 : prog 51 113 = some (.iconst 1, 1, []) := by decide +kernel
theorem p51_114 : prog 51 114 = some (.iand, 1, []) := by decide +kernel
theorem p51_115 : prog 51 115 = some (.iconst 1, 1, []) := by decide +kernel
theorem p51_116 : prog 51 116 = some (.if_icmp .ne 42, 3, [158]) := by decide +kernel
theorem p51_119 : prog 51 119 = some (.iload 7, 2, []) := by decide +kernel
theorem p51_121 : prog 51 121 = some (.iload_n 2, 1, []) := by decide +kernel
theorem p51_122 : prog 51 122 = some (.if_icmp .eq 36, 3, [158]) := by decide +kernel
theorem p51_125 : prog 51 125 = some (.aload_n 0, 1, []) := by decide +kernel
theorem p51_126 : prog 51 126 = some (.getfield 7, 3, [9, 0, 1]) := by decide +kernel
theorem p51_129 : prog 51 129 = some (.bipush 8, 2, []) := by decide +kernel
theorem p51_131 : prog 51 131 = some (.iload_n 1, 1, []) := by decide +kernel
theorem p51_132 : prog 51 132 = some (.imul, 1, []) := by decide +kernel
theorem p51_133 : prog 51 133 = some (.iload 7, 2, []) := by decide +kernel
theorem p51_135 : prog 51 135 = some (.iadd, 1, []) := by decide +kernel
theorem p51_136 : prog 51 136 = some (.baload, 1, []) := by decide +kernel
theorem p51_137 : prog 51 137 = some (.ifCond .eq 21, 3, [158]) := by decide +kernel
theorem p51_140 : prog 51 140 = some (.iload_n 3, 1, []) := by decide +kernel
theorem p51_141 : prog 51 141 = some (.iload 7, 2, []) := by decide +kernel
theorem p51_143 : prog 51 143 = some (.ishr, 1, []) := by decide +kernel
theorem p51_144 : prog 51 144 = some (.iconst 1, 1, []) := by decide +kernel
theorem p51_145 : prog 51 145 = some (.iand, 1, []) := by decide +kernel
theorem p51_146 : prog 51 146 = some (.ifCond .ne 12, 3, [158]) := by decide +kernel
theorem p51_149 : prog 51 149 = some (.iload 6, 2, []) := by decide +kernel
theorem p51_151 : prog 51 151 = some (.iconst 1, 1, []) := by decide +kernel
theorem p51_152 : prog 51 152 = some (.iload 7, 2, []) := by decide +kernel
theorem p51_154 : prog 51 154 = some (.ishl, 1, []) := by decide +kernel
theorem p51_155 : prog 51 155 = some (.ior, 1, []) := by decide +kernel
theorem p51_156 : prog 51 156 = some (.istore 6, 2, []) := by decide +kernel
theorem p51_158 : prog 51 158 = some (.iinc 7 1, 3, []) := by decide +kernel
theorem p51_161 : prog 51 161 = some (.goto (-60), 3, [101]) := by decide +kernel
theorem p51_164 : prog 51 164 = some (.iload_n 3, 1, []) := by decide +kernel
theorem p51_165 : prog 51 165 = some (.iload 6, 2, []) := by decide +kernel
theorem p51_167 : prog 51 167 = some (.ior, 1, []) := by decide +kernel
theorem p51_168 : prog 51 168 = some (.istore_n 3, 1, []) := by decide +kernel
theorem p51_169 : prog 51 169 = some (.iload 6, 2, []) := by decide +kernel
theorem p51_171 : prog 51 171 = some (.istore 4, 2, []) := by decide +kernel
theorem p51_173 : prog 51 173 = some (.goto (-166), 3, [7]) := by decide +kernel
theorem p51_176 : prog 51 176 = some (.iload_n 3, 1, []) := by decide +kernel
theorem p51_177 : prog 51 177 = some (.ireturn, 1, [0]) := by decide +kernel
theorem p52_0 : prog 52 0 = some (.iload_n 0, 1, []) := by decide +kernel
theorem p52_1 : prog 52 1 = some (.bipush 24, 2, []) := by decide +kernel
theorem p52_3 : prog 52 3 = some (.if_icmp .eq 15, 3, [18]) := by decide +kernel
theorem p52_6 : prog 52 6 = some (.iload_n 0, 1, []) := by decide +kernel
theorem p52_7 : prog 52 7 = some (.bipush 31, 2, []) := by decide +kernel
theorem p52_9 : prog 52 9 = some (.if_icmp .eq 9, 3, [18]) := by decide +kernel
theorem p52_12 : prog 52 12 = some (.iload_n 0, 1, []) := by decide +kernel
theorem p52_13 : prog 52 13 = some (.bipush 32, 2, []) := by decide +kernel
theorem p52_15 : prog 52 15 = some (.if_icmp .ne 5, 3, [20]) := by decide +kernel
theorem p52_18 : prog 52 18 = some (.iconst 2, 1, []) := by decide +kernel
theorem p52_19 : prog 52 19 = some (.ireturn, 1, [0]) := by decide +kernel
theorem p52_20 : prog 52 20 = some (.iload_n 0, 1, []) := by decide +kernel
theorem p52_21 : prog 52 21 = some (.iconst 3, 1, []) := by decide +kernel
theorem p52_22 : prog 52 22 = some (.if_icmp .eq 27, 3, [49]) := by decide +kernel
theorem p52_25 : prog 52 25 = some (.iload_n 0, 1, []) := by decide +kernel
theorem p52_26 : prog 52 26 = some (.bipush 11, 2, []) := by decide +kernel
theorem p52_28 : prog 52 28 = some (.if_icmp .eq 21, 3, [49]) := by decide +kernel
theorem p52_31 : prog 52 31 = some (.iload_n 0, 1, []) := by decide +kernel
theorem p52_32 : prog 52 32 = some (.bipush 23, 2, []) := by decide +kernel
theorem p52_34 : prog 52 34 = some (.if_icmp .eq 15, 3, [49]) := by decide +kernel
theorem p52_37 : prog 52 37 = some (.iload_n 0, 1, []) := by decide +kernel
theorem p52_38 : prog 52 38 = some (.bipush 25, 2, []) := by decide +kernel
theorem p52_40 : prog 52 40 = some (.if_icmp .eq 9, 3, [49]) := by decide +kernel
theorem p52_43 : prog 52 43 = some (.iload_n 0, 1, []) := by decide +kernel
theorem p52_44 : prog 52 44 = some (.bipush 33, 2, []) := by decide +kernel
theorem p52_46 : prog 52 46 = some (.if_icmp .ne 5, 3, [51]) := by decide +kernel
theorem p52_49 : prog 52 49 = some (.iconst 1, 1, []) := by decide +kernel
theorem p52_50 : prog 52 50 = some (.ireturn, 1, [0]) := by decide +kernel
theorem p52_51 : prog 52 51 = some (.iload_n 0, 1, []) := by decide +kernel
theorem p52_52 : prog 52 52 = some (.bipush 7, 2, []) := by decide +kernel
theorem p52_54 : prog 52 54 = some (.if_icmp .eq 27, 3, [81]) := by decide +kernel
theorem p52_57 : prog 52 57 = some (.iload_n 0, 1, []) := by decide +kernel
theorem p52_58 : prog 52 58 = some (.bipush 9, 2, []) := by decide +kernel
theorem p52_60 : prog 52 60 = some (.if_icmp .eq 21, 3, [81]) := by decide +kernel
theorem p52_63 : prog 52 63 = some (.iload_n 0, 1, []) := by decide +kernel
theorem p52_64 : prog 52 64 = some (.bipush 21, 2, []) := by decide +kernel
theorem p52_66 : prog 52 66 = some (.if_icmp .eq 15, 3, [81]) := by decide +kernel
theorem p52_69 : prog 52 69 = some (.iload_n 0, 1, []) := by decide +kernel
theorem p52_70 : prog 52 70 = some (.bipush 28, 2, []) := by decide +kernel
theorem p52_72 : prog 52 72 = some (.if_icmp .eq 9, 3, [81]) := by decide +kernel
theorem p52_75 : prog 52 75 = some (.iload_n 0, 1, []) := by decide +kernel
theorem p52_76 : prog 52 76 = some (.bipush 30, 2, []) := by decide +kernel
theorem p52_78 : prog 52 78 = some (.if_icmp .ne 7, 3, [85]) := by decide +kernel
theorem p52_81 : prog 52 81 = some (.iconst 0, 1, []) := by decide +kernel
theorem p52_82 : prog 52 82 = some (.goto 4, 3, [86]) := by decide +kernel
theorem p52_85 : prog 52 85 = some (.iconst 3, 1, []) := by decide +kernel
theorem p52_86 : prog 52 86 = some (.ireturn, 1, [0]) := by decide +kernel
theorem p53_0 : prog 53 0 = some (.iload_n 1, 1, []) := by decide +kernel
theorem p53_1 : prog 53 1 = some (.iconst 3, 1, []) := by decide +kernel
theorem p53_2 : prog 53 2 = some (.if_icmp .ne 7, 3, [9]) := by decide +kernel
theorem p53_5 : prog 53 5 = some (.iconst 1, 1, []) := by decide +kernel
theorem p53_6 : prog 53 6 = some (.goto 4, 3, [10]) := by decide +kernel
theorem p53_9 : prog 53 9 = some (.iconst 0, 1, []) := by decide +kernel
theorem p53_10 : prog 53 10 = some (.istore 4, 2, []) := by decide +kernel
theorem p53_12 : prog 53 12 = some (.iload_n 1, 1, []) := by decide +kernel
theorem p53_13 : prog 53 13 = some (.invokestatic 107, 3, [1, 52, 1]) := by decide +kernel
theorem p53_16 : prog 53 16 = some (.istore 5, 2, []) := by decide +kernel
theorem p53_18 : prog 53 18 = some (.iconst 0, 1, []) := by decide +kernel
theorem p53_19 : prog 53 19 = some (.istore 6, 2, []) := by decide +kernel
theorem p53_21 : prog 53 21 = some (.iload 6, 2, []) := by decide +kernel
theorem p53_23 : prog 53 23 = some (.aload_n 0, 1, []) := by decide +kernel
theorem p53_24 : prog 53 24 = some (.getfield 88, 3, [9, 13, 0]) := by decide +kernel
theorem p53_27 : prog 53 27 = some (.if_icmp .ge 63, 3, [90]) := by decide +kernel
theorem p53_30 : prog 53 30 = some (.aload_n 0, 1, []) := by decide +kernel
theorem p53_31 : prog 53 31 = some (.getfield 42, 3, [9, 10, 1]) := by decide +kernel
theorem p53_34 : prog 53 34 = some (.iload 6, 2, []) := by decide +kernel
theorem p53_36 : prog 53 36 = some (.iaload, 1, []) := by decide +kernel
theorem p53_37 : prog 53 37 = some (.iload_n 1, 1, []) := by decide +kernel
theorem p53_38 : prog 53 38 = some (.if_icmp .gt 46, 3, [84]) := by decide +kernel
theorem p53_41 : prog 53 41 = some (.iload_n 1, 1, []) := by decide +kernel
theorem p53_42 : prog 53 42 = some (.aload_n 0, 1, []) := by decide +kernel
theorem p53_43 : prog 53 43 = some (.getfield 45, 3, [9, 11, 1]) := by decide +kernel
theorem p53_46 : prog 53 46 = some (.iload 6, 2, []) := by decide +kernel
theorem p53_48 : prog 53 48 = some (.iaload, 1, []) := by decide +kernel
theorem p53_49 : prog 53 49 = some (.if_icmp .gt 35, 3, [84]) := by decide +kernel
theorem p53_52 : prog 53 52 = some (.aload_n 0, 1, []) := by decide +kernel
theorem p53_53 : prog 53 53 = some (.bipush 12, 2, []) := by decide +kernel
theorem p53_55 : prog 53 55 = some (.iload 6, 2, []) := by decide +kernel
theorem p53_57 : prog 53 57 = some (.imul, 1, []) := by decide +kernel
theorem p53_58 : prog 53 58 = some (.aload_n 0, 1, []) := by decide +kernel
theorem p53_59 : prog 53 59 = some (.getfield 39, 3, [9, 9, 1]) := by decide +kernel
theorem p53_62 : prog 53 62 = some (.iload 6, 2, []) := by decide +kernel
theorem p53_64 : prog 53 64 = some (.iaload, 1, []) := by decide +kernel
theorem p53_65 : prog 53 65 = some (.iload 4, 2, []) := by decide +kernel
theorem p53_67 : prog 53 67 = some (.iload_n 2, 1, []) := by decide +kernel
theorem p53_68 : prog 53 68 = some (.iload_n 3, 1, []) := by decide +kernel
theorem p53_69 : prog 53 69 = some (.invokevirtual 111, 3, [0, 48, 6, 9]) := by decide +kernel
theorem p53_72 : prog 53 72 = some (.ifCond .eq 12, 3, [84]) := by decide +kernel
theorem p53_75 : prog 53 75 = some (.aload_n 0, 1, []) := by decide +kernel
theorem p53_76 : prog 53 76 = some (.getfield 48, 3, [9, 12, 1]) := by decide +kernel
theorem p53_79 : prog 53 79 = some (.iload 6, 2, []) := by decide +kernel
theorem p53_81 : prog 53 81 = some (.iaload, 1, []) := by decide +kernel
theorem p53_82 : prog 53 82 = some (.istore 5, 2, []) := by decide +kernel
theorem p53_84 : prog 53 84 = some (.iinc 6 1, 3, []) := by decide +kernel
theorem p53_87 : prog 53 87 = some (.goto (-66), 3, [21]) := by decide +kernel
theorem p53_90 : prog 53 90 = some (.iload 5, 2, []) := by decide +kernel
theorem p53_92 : prog 53 92 = some (.ifCond .ne 4, 3, [96]) := by decide +kernel
theorem p53_95 : prog 53 95 = some (.return_, 1, []) := by decide +kernel
theorem p53_96 : prog 53 96 = some (.aload_n 0, 1, []) := by decide +kernel
theorem p53_97 : prog 53 97 = some (.getfield 115, 3, [9, 22, 0]) := by decide +kernel
theorem p53_100 : prog 53 100 = some (.istore 6, 2, []) := by decide +kernel
theorem p53_102 : prog 53 102 = some (.aload_n 0, 1, []) := by decide +kernel
theorem p53_103 : prog 53 103 = some (.iload 4, 2, []) := by decide +kernel
theorem p53_105 : prog 53 105 = some (.iload_n 2, 1, []) := by decide +kernel
theorem p53_106 : prog 53 106 = some (.iload_n 3, 1, []) := by decide +kernel
theorem p53_107 : prog 53 107 = some (.invokevirtual 118, 3, [0, 47, 4, 9]) := by decide +kernel
theorem p53_110 : prog 53 110 = some (.istore 7, 2, []) := by decide +kernel
theorem p53_112 : prog 53 112 = some (.iload 6, 2, []) := by decide +kernel
theorem p53_114 : prog 53 114 = some (.ifCond .le 131, 3, [245]) := by decide +kernel
theorem p53_117 : prog 53 117 = some (.aload_n 0, 1, []) := by decide +kernel
theorem p53_118 : prog 53 118 = some (.getfield 64, 3, [9, 20, 1]) := by decide +kernel
theorem p53_121 : prog 53 121 = some (.iload 6, 2, []) := by decide +kernel
theorem p53_123 : prog 53 123 = some (.iconst 1, 1, []) := by decide +kernel
theorem p53_124 : prog 53 124 = some (.isub, 1, []) := by decide +kernel
theorem p53_125 : prog 53 125 = some (.iaload, 1, []) := by decide +kernel
theorem p53_126 : prog 53 126 = some (.iload 5, 2, []) := by decide +kernel
theorem p53_128 : prog 53 128 = some (.if_icmp .lt 31, 3, [159]) := by decide +kernel
theorem p53_131 : prog 53 131 = some (.aload_n 0, 1, []) := by decide +kernel
theorem p53_132 : prog 53 132 = some (.getfield 64, 3, [9, 20, 1]) := by decide +kernel
theorem p53_135 : prog 53 135 = some (.iload 6, 2, []) := by decide +kernel
theorem p53_137 : prog 53 137 = some (.iconst 1, 1, []) := by decide +kernel
theorem p53_138 : prog 53 138 = some (.isub, 1, []) := by decide +kernel
theorem p53_139 : prog 53 139 = some (.iaload, 1, []) := by decide +kernel
theorem p53_140 : prog 53 140 = some (.iload 5, 2, []) := by decide +kernel
theorem p53_142 : prog 53 142 = some (.if_icmp .ne 103, 3, [245]) := by decide +kernel
theorem p53_145 : prog 53 145 = some (.aload_n 0, 1, []) := by decide +kernel
theorem p53_146 : prog 53 146 = some (.getfield 67, 3, [9, 21, 1]) := by decide +kernel
theorem p53_149 : prog 53 149 = some (.iload 6, 2, []) := by decide +kernel
theorem p53_151 : prog 53 151 = some (.iconst 1, 1, []) := by decide +kernel
theorem p53_152 : prog 53 152 = some (.isub, 1, []) := by decide +kernel
theorem p53_153 : prog 53 153 = some (.iaload, 1, []) := by decide +kernel
theorem p53_154 : prog 53 154 = some (.iload 7, 2, []) := by decide +kernel
theorem p53_156 : prog 53 156 = some (.if_icmp .le 89, 3, [245]) := by decide +kernel
theorem p53_159 : prog 53 159 = some (.aload_n 0, 1, []) := by decide +kernel
theorem p53_160 : prog 53 160 = some (.getfield 55, 3, [9, 17, 1]) := by decide +kernel
theorem p53_163 : prog 53 163 = some (.iload 6, 2, []) := by decide +kernel
theorem p53_165 : prog 53 165 = some (.aload_n 0, 1, []) := by decide +kernel
theorem p53_166 : prog 53 166 = some (.getfield 55, 3, [9, 17, 1]) := by decide +kernel
theorem p53_169 : prog 53 169 = some (.iload 6, 2, []) := by decide +kernel
theorem p53_171 : prog 53 171 = some (.iconst 1, 1, []) := by decide +kernel
theorem p53_172 : prog 53 172 = some (.isub, 1, []) := by decide +kernel
theorem p53_173 : prog 53 173 = some (.iaload, 1, []) := by decide +kernel
theorem p53_174 : prog 53 174 = some (.iastore, 1, []) := by decide +kernel
theorem p53_175 : prog 53 175 = some (.aload_n 0, 1, []) := by decide +kernel
theorem p53_176 : prog 53 176 = some (.getfield 58, 3, [9, 18, 1]) := by decide +kernel
theorem p53_179 : prog 53 179 = some (.iload 6, 2, []) := by decide +kernel
theorem p53_181 : prog 53 181 = some (.aload_n 0, 1, []) := by decide +kernel
theorem p53_182 : prog 53 182 = some (.getfield 58, 3, [9, 18, 1]) := by decide +kernel
theorem p53_185 : prog 53 185 = some (.iload 6, 2, []) := by decide +kernel
theorem p53_187 : prog 53 187 = some (.iconst 1, 1, []) := by decide +kernel
theorem p53_188 : prog 53 188 = some (.isub, 1, []) := by decide +kernel
theorem p53_189 : prog 53 189 = some (.iaload, 1, []) := by decide +kernel
theorem p53_190 : prog 53 190 = some (.iastore, 1, []) := by decide +kernel
theorem p53_191 : prog 53 191 = some (.aload_n 0, 1, []) := by decide +kernel
theorem p53_192 : prog 53 192 = some (.getfield 61, 3, [9, 19, 1]) := by decide +kernel
theorem p53_195 : prog 53 195 = some (.iload 6, 2, []) := by decide +kernel
theorem p53_197 : prog 53 197 = some (.aload_n 0, 1, []) := by decide +kernel
theorem p53_198 : prog 53 198 = some (.getfield 61, 3, [9, 19, 1]) := by decide +kernel
theorem p53_201 : prog 53 201 = some (.iload 6, 2, []) := by decide +kernel
theorem p53_203 : prog 53 203 = some (.iconst 1, 1, []) := by decide +kernel
theorem p53_204 : prog 53 204 = some (.isub, 1, []) := by decide +kernel
theorem p53_205 : prog 53 205 = some (.iaload, 1, []) := by decide +kernel
theorem p53_206 : prog 53 206 = some (.iastore, 1, []) := by decide +kernel
theorem p53_207 : prog 53 207 = some (.aload_n 0, 1, []) := by decide +kernel
theorem p53_208 : prog 53 208 = some (.getfield 64, 3, [9, 20, 1]) := by decide +kernel
theorem p53_211 : prog 53 211 = some (.iload 6, 2, []) := by decide +kernel
theorem p53_213 : prog 53 213 = some (.aload_n 0, 1, []) := by decide +kernel
theorem p53_214 : prog 53 214 = some (.getfield 64, 3, [9, 20, 1]) := by decide +kernel
theorem p53_217 : prog 53 217 = some (.iload 6, 2, []) := by decide +kernel
theorem p53_219 : prog 53 219 = some (.iconst 1, 1, []) := by decide +kernel
theorem p53_220 : prog 53 220 = some (.isub, 1, []) := by decide +kernel
theorem p53_221 : prog 53 221 = some (.iaload, 1, []) := by decide +kernel
theorem p53_222 : prog 53 222 = some (.iastore, 1, []) := by decide +kernel
theorem p53_223 : prog 53 223 = some (.aload_n 0, 1, []) := by decide +kernel
theorem p53_224 : prog 53 224 = some (.getfield 67, 3, [9, 21, 1]) := by decide +kernel
theorem p53_227 : prog 53 227 = some (.iload 6, 2, []) := by decide +kernel
theorem p53_229 : prog 53 229 = some (.aload_n 0, 1, []) := by decide +kernel
theorem p53_230 : prog 53 230 = some (.getfield 67, 3, [9, 21, 1]) := by decide +kernel
theorem p53_233 : prog 53 233 = some (.iload 6, 2, []) := by decide +kernel
theorem p53_235 : prog 53 235 = some (.iconst 1, 1, []) := by decide +kernel
theorem p53_236 : prog 53 236 = some (.isub, 1, []) := by decide +kernel
theorem p53_237 : prog 53 237 = some (.iaload, 1, []) := by decide +kernel
theorem p53_238 : prog 53 238 = some (.iastore, 1, []) := by decide +kernel
theorem p53_239 : prog 53 239 = some (.iinc 6 (-1), 3, []) := by decide +kernel
theorem p53_242 : prog 53 242 = some (.goto (-130), 3, [112]) := by decide +kernel
theorem p53_245 : prog 53 245 = some (.aload_n 0, 1, []) := by decide +kernel
theorem p53_246 : prog 53 246 = some (.getfield 55, 3, [9, 17, 1]) := by decide +kernel
theorem p53_249 : prog 53 249 = some (.iload 6, 2, []) := by decide +kernel
theorem p53_251 : prog 53 251 = some (.iload_n 1, 1, []) := by decide +kernel
theorem p53_252 : prog 53 252 = some (.iastore, 1, []) := by decide +kernel
theorem p53_253 : prog 53 253 = some (.aload_n 0, 1, []) := by decide +kernel
theorem p53_254 : prog 53 254 = some (.getfield 58, 3, [9, 18, 1]) := by decide +kernel
theorem p53_257 : prog 53 257 = some (.iload 6, 2, []) := by decide +kernel
theorem p53_259 : prog 53 259 = some (.iload_n 2, 1, []) := by decide +kernel
theorem p53_260 : prog 53 260 = some (.iastore, 1, []) := by decide +kernel
theorem p53_261 : prog 53 261 = some (.aload_n 0, 1, []) := by decide +kernel
theorem p53_262 : prog 53 262 = some (.getfield 61, 3, [9, 19, 1]) := by decide +kernel
theorem p53_265 : prog 53 265 = some (.iload 6, 2, []) := by decide +kernel
theorem p53_267 : prog 53 267 = some (.iload_n 3, 1, []) := by decide +kernel
theorem p53_268 : prog 53 268 = some (.iastore, 1, []) := by decide +kernel
theorem p53_269 : prog 53 269 = some (.aload_n 0, 1, []) := by decide +kernel
theorem p53_270 : prog 53 270 = some (.getfield 64, 3, [9, 20, 1]) := by decide +kernel
theorem p53_273 : prog 53 273 = some (.iload 6, 2, []) := by decide +kernel
theorem p53_275 : prog 53 275 = some (.iload 5, 2, []) := by decide +kernel
theorem p53_277 : prog 53 277 = some (.iastore, 1, []) := by decide +kernel
theorem p53_278 : prog 53 278 = some (.aload_n 0, 1, []) := by decide +kernel
theorem p53_279 : prog 53 279 = some (.getfield 67, 3, [9, 21, 1]) := by decide +kernel
theorem p53_282 : prog 53 282 = some (.iload 6, 2, []) := by decide +kernel
theorem p53_284 : prog 53 284 = some (.iload 7, 2, []) := by decide +kernel
theorem p53_286 : prog 53 286 = some (.iastore, 1, []) := by decide +kernel
theorem p53_287 : prog 53 287 = some (.aload_n 0, 1, []) := by decide +kernel
theorem p53_288 : prog 53 288 = some (.dup, 1, []) := by decide +kernel
theorem p53_289 : prog 53 289 = some (.getfield 115, 3, [9, 22, 0]) := by decide +kernel
theorem p53_292 : prog 53 292 = some (.iconst 1, 1, []) := by decide +kernel
theorem p53_293 : prog 53 293 = some (.iadd, 1, []) := by decide +kernel
theorem p53_294 : prog 53 294 = some (.putfield 115, 3, [9, 22, 0]) := by decide +kernel
theorem p53_297 : prog 53 297 = some (.return_, 1, []) := by decide +kernel
theorem p54_0 : prog 54 0 = some (.iload_n 1, 1, []) := by decide +kernel
theorem p54_1 : prog 54 1 = some (.iload_n 3, 1, []) := by decide +kernel
theorem p54_2 : prog 54 2 = some (.iand, 1, []) := by decide +kernel
theorem p54_3 : prog 54 3 = some (.ifCond .ne 19, 3, [22]) := by decide +kernel
theorem p54_6 : prog 54 6 = some (.iload_n 2, 1, []) := by decide +kernel
theorem p54_7 : prog 54 7 = some (.iload_n 3, 1, []) := by decide +kernel
theorem p54_8 : prog 54 8 = some (.iand, 1, []) := by decide +kernel
theorem p54_9 : prog 54 9 = some (.ifCond .eq 13, 3, [22]) := by decide +kernel
theorem p54_12 : prog 54 12 = some (.aload_n 0, 1, []) := by decide +kernel
theorem p54_13 : prog 54 13 = some (.iload 4, 2, []) := by decide +kernel
theorem p54_15 : prog 54 15 = some (.iload 5, 2, []) := by decide +kernel
theorem p54_17 : prog 54 17 = some (.iload 6, 2, []) := by decide +kernel
theorem p54_19 : prog 54 19 = some (.invokevirtual 121, 3, [0, 53, 4, 9]) := by decide +kernel
theorem p54_22 : prog 54 22 = some (.iload_n 1, 1, []) := by decide +kernel
theorem p54_23 : prog 54 23 = some (.iload_n 3, 1, []) := by decide +kernel
theorem p54_24 : prog 54 24 = some (.iand, 1, []) := by decide +kernel
theorem p54_25 : prog 54 25 = some (.ifCond .eq 21, 3, [46]) := by decide +kernel
theorem p54_28 : prog 54 28 = some (.iload_n 2, 1, []) := by decide +kernel
theorem p54_29 : prog 54 29 = some (.iload_n 3, 1, []) := by decide +kernel
theorem p54_30 : prog 54 30 = some (.iand, 1, []) := by decide +kernel
theorem p54_31 : prog 54 31 = some (.ifCond .ne 15, 3, [46]) := by decide +kernel
theorem p54_34 : prog 54 34 = some (.aload_n 0, 1, []) := by decide +kernel
theorem p54_35 : prog 54 35 = some (.iload 4, 2, []) := by decide +kernel
theorem p54_37 : prog 54 37 = some (.iconst 1, 1, []) := by decide +kernel
theorem p54_38 : prog 54 38 = some (.iadd, 1, []) := by decide +kernel
theorem p54_39 : prog 54 39 = some (.iload 5, 2, []) := by decide +kernel
theorem p54_41 : prog 54 41 = some (.iload 6, 2, []) := by decide +kernel
theorem p54_43 : prog 54 43 = some (.invokevirtual 121, 3, [0, 53, 4, 9]) := by decide +kernel
theorem p54_46 : prog 54 46 = some (.return_, 1, []) := by decide +kernel
theorem p55_0 : prog 55 0 = some (.iconst 0, 1, []) := by decide +kernel
theorem p55_1 : prog 55 1 = some (.istore_n 3, 1, []) := by decide +kernel
theorem p55_2 : prog 55 2 = some (.iconst 0, 1, []) := by decide +kernel
theorem p55_3 : prog 55 3 = some (.istore 4, 2, []) := by decide +kernel
theorem p55_5 : prog 55 5 = some (.iload 4, 2, []) := by decide +kernel
theorem p55_7 : prog 55 7 = some (.bipush 8, 2, []) := by decide +kernel
theorem p55_9 : prog 55 9 = some (.if_icmp .ge 36, 3, [45]) := by decide +kernel
theorem p55_12 : prog 55 12 = some (.iload_n 2, 1, []) := by decide +kernel
theorem p55_13 : prog 55 13 = some (.iload 4, 2, []) := by decide +kernel
theorem p55_15 : prog 55 15 = some (.ishr, 1, []) := by decide +kernel
theorem p55_16 : prog 55 16 = some (.iconst 1, 1, []) := by decide +kernel
theorem p55_17 : prog 55 17 = some (.iand, 1, []) := by decide +kernel
theorem p55_18 : prog 55 18 = some (.iconst 1, 1, []) := by decide +kernel
theorem p55_19 : prog 55 19 = some (.if_icmp .ne 20, 3, [39]) := by decide +kernel
theorem p55_22 : prog 55 22 = some (.aload_n 0, 1, []) := by decide +kernel
theorem p55_23 : prog 55 23 = some (.iload_n 1, 1, []) := by decide +kernel
theorem p55_24 : prog 55 24 = some (.iload 4, 2, []) := by decide +kernel
theorem p55_26 : prog 55 26 = some (.invokevirtual 104, 3, [0, 49, 3, 9]) := by decide +kernel
theorem p55_29 : prog 55 29 = some (.ifCond .eq 10, 3, [39]) := by decide +kernel
theorem p55_32 : prog 55 32 = some (.iload_n 3, 1, []) := by decide +kernel
theorem p55_33 : prog 55 33 = some (.iconst 1, 1, []) := by decide +kernel
theorem p55_34 : prog 55 34 = some (.iload 4, 2, []) := by decide +kernel
theorem p55_36 : prog 55 36 = some (.ishl, 1, []) := by decide +kernel
theorem p55_37 : prog 55 37 = some (.ior, 1, []) := by decide +kernel
theorem p55_38 : prog 55 38 = some (.istore_n 3, 1, []) := by decide +kernel
theorem p55_39 : prog 55 39 = some (.iinc 4 1, 3, []) := by decide +kernel
theorem p55_42 : prog 55 42 = some (.goto (-37), 3, [5]) := by decide +kernel
theorem p55_45 : prog 55 45 = some (.iload_n 3, 1, []) := by decide +kernel
theorem p55_46 : prog 55 46 = some (.ireturn, 1, [0]) := by decide +kernel
theorem p56_0 : prog 56 0 = some (.aload_n 0, 1, []) := by decide +kernel
theorem p56_1 : prog 56 1 = some (.iconst 0, 1, []) := by decide +kernel
theorem p56_2 : prog 56 2 = some (.iload_n 1, 1, []) := by decide +kernel
theorem p56_3 : prog 56 3 = some (.invokevirtual 104, 3, [0, 49, 3, 9]) := by decide +kernel
theorem p56_6 : prog 56 6 = some (.istore_n 2, 1, []) := by decide +kernel
theorem p56_7 : prog 56 7 = some (.aload_n 0, 1, []) := by decide +kernel
theorem p56_8 : prog 56 8 = some (.iconst 1, 1, []) := by decide +kernel
theorem p56_9 : prog 56 9 = some (.iload_n 1, 1, []) := by decide +kernel
theorem p56_10 : prog 56 10 = some (.invokevirtual 104, 3, [0, 49, 3, 9]) := by decide +kernel
theorem p56_13 : prog 56 13 = some (.istore_n 3, 1, []) := by decide +kernel
theorem p56_14 : prog 56 14 = some (.iload_n 2, 1, []) := by decide +kernel
theorem p56_15 : prog 56 15 = some (.ifCond .eq 30, 3, [45]) := by decide +kernel
theorem p56_18 : prog 56 18 = some (.iload_n 3, 1, []) := by decide +kernel
theorem p56_19 : prog 56 19 = some (.ifCond .ne 26, 3, [45]) := by decide +kernel
theorem p56_22 : prog 56 22 = some (.aload_n 0, 1, []) := by decide +kernel
theorem p56_23 : prog 56 23 = some (.aload_n 0, 1, []) := by decide +kernel
theorem p56_24 : prog 56 24 = some (.getfield 7, 3, [9, 0, 1]) := by decide +kernel
theorem p56_27 : prog 56 27 = some (.bipush 8, 2, []) := by decide +kernel
theorem p56_29 : prog 56 29 = some (.iload_n 1, 1, []) := by decide +kernel
theorem p56_30 : prog 56 30 = some (.iadd, 1, []) := by decide +kernel
theorem p56_31 : prog 56 31 = some (.baload, 1, []) := by decide +kernel
theorem p56_32 : prog 56 32 = some (.ifCond .eq 7, 3, [39]) := by decide +kernel
theorem p56_35 : prog 56 35 = some (.iconst 2, 1, []) := by decide +kernel
theorem p56_36 : prog 56 36 = some (.goto 4, 3, [40]) := by decide +kernel
theorem p56_39 : prog 56 39 = some (.iconst 1, 1, []) := by decide +kernel
theorem p56_40 : prog 56 40 = some (.iload_n 1, 1, []) := by decide +kernel
theorem p56_41 : prog 56 41 = some (.iconst 0, 1, []) := by decide +kernel
theorem p56_42 : prog 56 42 = some (.invokevirtual 121, 3, [0, 53, 4, 9]) := by decide +kernel
theorem p56_45 : prog 56 45 = some (.iload_n 2, 1, []) := by decide +kernel
theorem p56_46 : prog 56 46 = some (.ifCond .ne 14, 3, [60]) := by decide +kernel
theorem p56_49 : prog 56 49 = some (.iload_n 3, 1, []) := by decide +kernel
theorem p56_50 : prog 56 50 = some (.ifCond .eq 10, 3, [60]) := by decide +kernel
theorem p56_53 : prog 56 53 = some (.aload_n 0, 1, []) := by decide +kernel
theorem p56_54 : prog 56 54 = some (.iconst 3, 1, []) := by decide +kernel
theorem p56_55 : prog 56 55 = some (.iload_n 1, 1, []) := by decide +kernel
theorem p56_56 : prog 56 56 = some (.iconst 0, 1, []) := by decide +kernel
theorem p56_57 : prog 56 57 = some (.invokevirtual 121, 3, [0, 53, 4, 9]) := by decide +kernel
theorem p56_60 : prog 56 60 = some (.iload_n 2, 1, []) := by decide +kernel
theorem p56_61 : prog 56 61 = some (.ifCond .eq 7, 3, [68]) := by decide +kernel
theorem p56_64 : prog 56 64 = some (.iload_n 3, 1, []) := by decide +kernel
theorem p56_65 : prog 56 65 = some (.ifCond .ne 4, 3, [69]) := by decide +kernel
theorem p56_68 : prog 56 68 = some (.return_, 1, []) := by decide +kernel
theorem p56_69 : prog 56 69 = some (.aload_n 0, 1, []) := by decide +kernel
theorem p56_70 : prog 56 70 = some (.getfield 20, 3, [9, 3, 1]) := by decide +kernel
theorem p56_73 : prog 56 73 = some (.iload_n 1, 1, []) := by decide +kernel
theorem p56_74 : prog 56 74 = some (.iaload, 1, []) := by decide +kernel
theorem p56_75 : prog 56 75 = some (.aload_n 0, 1, []) := by decide +kernel
theorem p56_76 : prog 56 76 = some (.getfield 20, 3, [9, 3, 1]) := by decide +kernel
theorem p56_79 : prog 56 79 = some (.bipush 8, 2, []) := by decide +kernel
theorem p56_81 : prog 56 81 = some (.iload_n 1, 1, []) := by decide +kernel
theorem p56_82 : prog 56 82 = some (.iadd, 1, []) := by decide +kernel
theorem p56_83 : prog 56 83 = some (.iaload, 1, []) := by decide +kernel
theorem p56_84 : prog 56 84 = some (.if_icmp .eq 10, 3, [94]) := by decide +kernel
theorem p56_87 : prog 56 87 = some (.aload_n 0, 1, []) := by decide +kernel
theorem p56_88 : prog 56 88 = some (.iconst 4, 1, []) := by decide +kernel
theorem p56_89 : prog 56 89 = some (.iload_n 1, 1, []) := by decide +kernel
theorem p56_90 : prog 56 90 = some (.iconst 0, 1, []) := by decide +kernel
theorem p56_91 : prog 56 91 = some (.invokevirtual 121, 3, [0, 53, 4, 9]) := by decide +kernel
theorem p56_94 : prog 56 94 = some (.aload_n 0, 1, []) := by decide +kernel
theorem p56_95 : prog 56 95 = some (.getfield 16, 3, [9, 2, 1]) := by decide +kernel
theorem p56_98 : prog 56 98 = some (.iload_n 1, 1, []) := by decide +kernel
theorem p56_99 : prog 56 99 = some (.iaload, 1, []) := by decide +kernel
theorem p56_100 : prog 56 100 = some (.aload_n 0, 1, []) := by decide +kernel
theorem p56_101 : prog 56 101 = some (.getfield 16, 3, [9, 2, 1]) := by decide +kernel
theorem p56_104 : prog 56 104 = some (.bipush 8, 2, []) := by decide +kernel
theorem p56_106 : prog 56 106 = some (.iload_n 1, 1, []) := by decide +kernel
theorem p56_107 : prog 56 107 = some (.iadd, 1, []) := by decide +kernel
theorem p56_108 : prog 56 108 = some (.iaload, 1, []) := by decide +kernel
theorem p56_109 : prog 56 109 = some (.ixor, 1, []) := by decide +kernel
theorem p56_110 : prog 56 110 = some (.iconst 2, 1, []) := by decide +kernel
theorem p56_111 : prog 56 111 = some (.iand, 1, []) := by decide +kernel
theorem p56_112 : prog 56 112 = some (.ifCond .eq 10, 3, [122]) := by decide +kernel
theorem p56_115 : prog 56 115 = some (.aload_n 0, 1, []) := by decide +kernel
theorem p56_116 : prog 56 116 = some (.iconst 5, 1, []) := by decide +kernel
theorem p56_117 : prog 56 117 = some (.iload_n 1, 1, []) := by decide +kernel
theorem p56_118 : prog 56 118 = some (.iconst 0, 1, []) := by decide +kernel
theorem p56_119 : prog 56 119 = some (.invokevirtual 121, 3, [0, 53, 4, 9]) := by decide +kernel
theorem p56_122 : prog 56 122 = some (.aload_n 0, 1, []) := by decide +kernel
theorem p56_123 : prog 56 123 = some (.aload_n 0, 1, []) := by decide +kernel
theorem p56_124 : prog 56 124 = some (.getfield 16, 3, [9, 2, 1]) := by decide +kernel
theorem p56_127 : prog 56 127 = some (.iload_n 1, 1, []) := by decide +kernel
theorem p56_128 : prog 56 128 = some (.iaload, 1, []) := by decide +kernel
theorem p56_129 : prog 56 129 = some (.aload_n 0, 1, []) := by decide +kernel
theorem p56_130 : prog 56 130 = some (.getfield 16, 3, [9, 2, 1]) := by decide +kernel
theorem p56_133 : prog 56 133 = some (.bipush 8, 2, []) := by decide +kernel
theorem p56_135 : prog 56 135 = some (.iload_n 1, 1, []) := by decide +kernel
theorem p56_136 : prog 56 136 = some (.iadd, 1, []) := by decide +kernel
theorem p56_137 : prog 56 137 = some (.iaload, 1, []) := by decide +kernel
theorem p56_138 : prog 56 138 = some (.iconst 4, 1, []) := by decide +kernel
theorem p56_139 : prog 56 139 = some (.bipush 6, 2, []) := by decide +kernel
theorem p56_141 : prog 56 141 = some (.iload_n 1, 1, []) := by decide +kernel
theorem p56_142 : prog 56 142 = some (.iconst 0, 1, []) := by decide +kernel
theorem p56_143 : prog 56 143 = some (.invokevirtual 125, 3, [0, 54, 7, 9]) := by decide +kernel
theorem p56_146 : prog 56 146 = some (.aload_n 0, 1, []) := by decide +kernel
theorem p56_147 : prog 56 147 = some (.aload_n 0, 1, []) := by decide +kernel
theorem p56_148 : prog 56 148 = some (.getfield 16, 3, [9, 2, 1]) := by decide +kernel
theorem p56_151 : prog 56 151 = some (.iload_n 1, 1, []) := by decide +kernel
theorem p56_152 : prog 56 152 = some (.iaload, 1, []) := by decide +kernel
theorem p56_153 : prog 56 153 = some (.aload_n 0, 1, []) := by decide +kernel
theorem p56_154 : prog 56 154 = some (.getfield 16, 3, [9, 2, 1]) := by decide +kernel
theorem p56_157 : prog 56 157 = some (.bipush 8, 2, []) := by decide +kernel
theorem p56_159 : prog 56 159 = some (.iload_n 1, 1, []) := by decide +kernel
theorem p56_160 : prog 56 160 = some (.iadd, 1, []) := by decide +kernel
theorem p56_161 : prog 56 161 = some (.iaload, 1, []) := by decide +kernel
theorem p56_162 : prog 56 162 = some (.bipush 8, 2, []) := by decide +kernel
theorem p56_164 : prog 56 164 = some (.bipush 8, 2, []) := by decide +kernel
theorem p56_166 : prog 56 166 = some (.iload_n 1, 1, []) := by decide +kernel
theorem p56_167 : prog 56 167 = some (.iconst 0, 1, []) := by decide +kernel
theorem p56_168 : prog 56 168 = some (.invokevirtual 125, 3, [0, 54, 7, 9]) := by decide +kernel
theorem p56_171 : prog 56 171 = some (.aload_n 0, 1, []) := by decide +kernel
theorem p56_172 : prog 56 172 = some (.iconst 0, 1, []) := by decide +kernel
theorem p56_173 : prog 56 173 = some (.iload_n 1, 1, []) := by decide +kernel
theorem p56_174 : prog 56 174 = some (.invokevirtual 129, 3, [0, 51, 3, 9]) := by decide +kernel
theorem p56_177 : prog 56 177 = some (.istore 4, 2, []) := by decide +kernel
theorem p56_179 : prog 56 179 = some (.aload_n 0, 1, []) := by decide +kernel
theorem p56_180 : prog 56 180 = some (.iconst 1, 1, []) := by decide +kernel
theorem p56_181 : prog 56 181 = some (.iload_n 1, 1, []) := by decide +kernel
theorem p56_182 : prog 56 182 = some (.invokevirtual 129, 3, [0, 51, 3, 9]) := by decide +kernel
theorem p56_185 : prog 56 185 = some (.istore 5, 2, []) := by decide +kernel
theorem p56_187 : prog 56 187 = some (.aload_n 0, 1, []) := by decide +kernel
theorem p56_188 : prog 56 188 = some (.iconst 0, 1, []) := by decide +kernel
theorem p56_189 : prog 56 189 = some (.iload 4, 2, []) := by decide +kernel
theorem p56_191 : prog 56 191 = some (.invokevirtual 132, 3, [0, 55, 3, 9]) := by decide +kernel
theorem p56_194 : prog 56 194 = some (.iload 5, 2, []) := by decide +kernel
theorem p56_196 : prog 56 196 = some (.iconst (-1), 1, []) := by decide +kernel
theorem p56_197 : prog 56 197 = some (.ixor, 1, []) := by decide +kernel
theorem p56_198 : prog 56 198 = some (.iand, 1, []) := by decide +kernel
theorem p56_199 : prog 56 199 = some (.ifCond .eq 11, 3, [210]) := by decide +kernel
theorem p56_202 : prog 56 202 = some (.aload_n 0, 1, []) := by decide +kernel
theorem p56_203 : prog 56 203 = some (.bipush 10, 2, []) := by decide +kernel
theorem p56_205 : prog 56 205 = some (.iload_n 1, 1, []) := by decide +kernel
theorem p56_206 : prog 56 206 = some (.iconst 0, 1, []) := by decide +kernel
theorem p56_207 : prog 56 207 = some (.invokevirtual 121, 3, [0, 53, 4, 9]) := by decide +kernel
theorem p56_210 : prog 56 210 = some (.aload_n 0, 1, []) := by decide +kernel
theorem p56_211 : prog 56 211 = some (.iconst 1, 1, []) := by decide +kernel
theorem p56_212 : prog 56 212 = some (.iload 5, 2, []) := by decide +kernel
theorem p56_214 : prog 56 214 = some (.invokevirtual 132, 3, [0, 55, 3, 9]) := by decide +kernel
theorem p56_217 : prog 56 217 = some (.iload 4, 2, []) := by decide +kernel
theorem p56_219 : prog 56 219 = some (.iconst (-1), 1, []) := by decide +kernel
theorem p56_220 : prog 56 220 = some (.ixor, 1, []) := by decide +kernel
theorem p56_221 : prog 56 221 = some (.iand, 1, []) := by decide +kernel
theorem p56_222 : prog 56 222 = some (.ifCond .eq 11, 3, [233]) := by decide +kernel
theorem p56_225 : prog 56 225 = some (.aload_n 0, 1, []) := by decide +kernel
theorem p56_226 : prog 56 226 = some (.bipush 11, 2, []) := by decide +kernel
theorem p56_228 : prog 56 228 = some (.iload_n 1, 1, []) := by decide +kernel
theorem p56_229 : prog 56 229 = some (.iconst 0, 1, []) := by decide +kernel
theorem p56_230 : prog 56 230 = some (.invokevirtual 121, 3, [0, 53, 4, 9]) := by decide +kernel
theorem p56_233 : prog 56 233 = some (.iconst 1, 1, []) := by decide +kernel
theorem p56_234 : prog 56 234 = some (.istore 6, 2, []) := by decide +kernel
theorem p56_236 : prog 56 236 = some (.iload 6, 2, []) := by decide +kernel
theorem p56_238 : prog 56 238 = some (.bipush 25, 2, []) := by decide +kernel
theorem p56_240 : prog 56 240 = some (.if_icmp .ge 16, 3, [256]) := by decide +kernel
theorem p56_243 : prog 56 243 = some (.aload_n 0, 1, []) := by decide +kernel
theorem p56_244 : prog 56 244 = some (.iload_n 1, 1, []) := by decide +kernel
theorem p56_245 : prog 56 245 = some (.iload 6, 2, []) := by decide +kernel
theorem p56_247 : prog 56 247 = some (.invokevirtual 135, 3, [0, 57, 3, 9]) := by decide +kernel
theorem p56_250 : prog 56 250 = some (.iinc 6 1, 3, []) := by decide +kernel
theorem p56_253 : prog 56 253 = some (.goto (-17), 3, [236]) := by decide +kernel
theorem p56_256 : prog 56 256 = some (.return_, 1, []) := by decide +kernel
theorem p57_0 : prog 57 0 = some (.aload_n 0, 1, []) := by decide +kernel
theorem p57_1 : prog 57 1 = some (.getfield 29, 3, [9, 6, 1]) := by decide +kernel
theorem p57_4 : prog 57 4 = some (.iconst 0, 1, []) := by decide +kernel
theorem p57_5 : prog 57 5 = some (.iload_n 1, 1, []) := by decide +kernel
theorem p57_6 : prog 57 6 = some (.iload_n 2, 1, []) := by decide +kernel
theorem p57_7 : prog 57 7 = some (.invokestatic 84, 3, [1, 36, 3]) := by decide +kernel
theorem p57_10 : prog 57 10 = some (.iaload, 1, []) := by decide +kernel
theorem p57_11 : prog 57 11 = some (.istore_n 3, 1, []) := by decide +kernel
theorem p57_12 : prog 57 12 = some (.aload_n 0, 1, []) := by decide +kernel
theorem p57_13 : prog 57 13 = some (.getfield 29, 3, [9, 6, 1]) := by decide +kernel
theorem p57_16 : prog 57 16 = some (.iconst 1, 1, []) := by decide +kernel
theorem p57_17 : prog 57 17 = some (.iload_n 1, 1, []) := by decide +kernel
theorem p57_18 : prog 57 18 = some (.iload_n 2, 1, []) := by decide +kernel
theorem p57_19 : prog 57 19 = some (.invokestatic 84, 3, [1, 36, 3]) := by decide +kernel
theorem p57_22 : prog 57 22 = some (.iaload, 1, []) := by decide +kernel
theorem p57_23 : prog 57 23 = some (.istore 4, 2, []) := by decide +kernel
theorem p57_25 : prog 57 25 = some (.aload_n 0, 1, []) := by decide +kernel
theorem p57_26 : prog 57 26 = some (.iconst 0, 1, []) := by decide +kernel
theorem p57_27 : prog 57 27 = some (.iload_n 1, 1, []) := by decide +kernel
theorem p57_28 : prog 57 28 = some (.iload_n 2, 1, []) := by decide +kernel
theorem p57_29 : prog 57 29 = some (.invokevirtual 139, 3, [0, 50, 4, 9]) := by decide +kernel
theorem p57_32 : prog 57 32 = some (.istore 5, 2, []) := by decide +kernel
theorem p57_34 : prog 57 34 = some (.aload_n 0, 1, []) := by decide +kernel
theorem p57_35 : prog 57 35 = some (.iconst 1, 1, []) := by decide +kernel
theorem p57_36 : prog 57 36 = some (.iload_n 1, 1, []) := by decide +kernel
theorem p57_37 : prog 57 37 = some (.iload_n 2, 1, []) := by decide +kernel
theorem p57_38 : prog 57 38 = some (.invokevirtual 139, 3, [0, 50, 4, 9]) := by decide +kernel
theorem p57_41 : prog 57 41 = some (.istore 6, 2, []) := by decide +kernel
theorem p57_43 : prog 57 43 = some (.iload_n 2, 1, []) := by decide +kernel
theorem p57_44 : prog 57 44 = some (.bipush 12, 2, []) := by decide +kernel
theorem p57_46 : prog 57 46 = some (.if_icmp .le 7, 3, [53]) := by decide +kernel
theorem p57_49 : prog 57 49 = some (.iconst 1, 1, []) := by decide +kernel
theorem p57_50 : prog 57 50 = some (.goto 4, 3, [54]) := by decide +kernel
theorem p57_53 : prog 57 53 = some (.iconst 0, 1, []) := by decide +kernel
theorem p57_54 : prog 57 54 = some (.istore 7, 2, []) := by decide +kernel
theorem p57_56 : prog 57 56 = some (.iload 5, 2, []) := by decide +kernel
theorem p57_58 : prog 57 58 = some (.ifCond .eq 44, 3, [102]) := by decide +kernel
theorem p57_61 : prog 57 61 = some (.iload 6, 2, []) := by decide +kernel
theorem p57_63 : prog 57 63 = some (.ifCond .ne 39, 3, [102]) := by decide +kernel
theorem p57_66 : prog 57 66 = some (.aload_n 0, 1, []) := by decide +kernel
theorem p57_67 : prog 57 67 = some (.iload 4, 2, []) := by decide +kernel
theorem p57_69 : prog 57 69 = some (.ifCond .lt 8, 3, [77]) := by decide +kernel
theorem p57_72 : prog 57 72 = some (.bipush 22, 2, []) := by decide +kernel
theorem p57_74 : prog 57 74 = some (.goto 23, 3, [97]) := by decide +kernel
theorem p57_77 : prog 57 77 = some (.aload_n 0, 1, []) := by decide +kernel
theorem p57_78 : prog 57 78 = some (.iload_n 1, 1, []) := by decide +kernel
theorem p57_79 : prog 57 79 = some (.iload_n 2, 1, []) := by decide +kernel
theorem p57_80 : prog 57 80 = some (.iload_n 3, 1, []) := by decide +kernel
theorem p57_81 : prog 57 81 = some (.bipush 8, 2, []) := by decide +kernel
theorem p57_83 : prog 57 83 = some (.idiv, 1, []) := by decide +kernel
theorem p57_84 : prog 57 84 = some (.invokevirtual 142, 3, [0, 58, 4, 9]) := by decide +kernel
theorem p57_87 : prog 57 87 = some (.ifCond .eq 8, 3, [95]) := by decide +kernel
theorem p57_90 : prog 57 90 = some (.bipush 21, 2, []) := by decide +kernel
theorem p57_92 : prog 57 92 = some (.goto 5, 3, [97]) := by decide +kernel
theorem p57_95 : prog 57 95 = some (.bipush 20, 2, []) := by decide +kernel
theorem p57_97 : prog 57 97 = some (.iload_n 1, 1, []) := by decide +kernel
theorem p57_98 : prog 57 98 = some (.iload_n 2, 1, []) := by decide +kernel
theorem p57_99 : prog 57 99 = some (.invokevirtual 121, 3, [0, 53, 4, 9]) := by decide +kernel
theorem p57_102 : prog 57 102 = some (.iload 5, 2, []) := by decide +kernel
theorem p57_104 : prog 57 104 = some (.ifCond .ne 33, 3, [137]) := by decide +kernel
theorem p57_107 : prog 57 107 = some (.iload 6, 2, []) := by decide +kernel
theorem p57_109 : prog 57 109 = some (.ifCond .eq 28, 3, [137]) := by decide +kernel
theorem p57_112 : prog 57 112 = some (.aload_n 0, 1, []) := by decide +kernel
theorem p57_113 : prog 57 113 = some (.iload 7, 2, []) := by decide +kernel
theorem p57_115 : prog 57 115 = some (.ifCond .eq 15, 3, [130]) := by decide +kernel
theorem p57_118 : prog 57 118 = some (.iload 4, 2, []) := by decide +kernel
theorem p57_120 : prog 57 120 = some (.iconst 2, 1, []) := by decide +kernel
theorem p57_121 : prog 57 121 = some (.iand, 1, []) := by decide +kernel
theorem p57_122 : prog 57 122 = some (.ifCond .eq 8, 3, [130]) := by decide +kernel
theorem p57_125 : prog 57 125 = some (.bipush 24, 2, []) := by decide +kernel
theorem p57_127 : prog 57 127 = some (.goto 5, 3, [132]) := by decide +kernel
theorem p57_130 : prog 57 130 = some (.bipush 23, 2, []) := by decide +kernel
theorem p57_132 : prog 57 132 = some (.iload_n 1, 1, []) := by decide +kernel
theorem p57_133 : prog 57 133 = some (.iload_n 2, 1, []) := by decide +kernel
theorem p57_134 : prog 57 134 = some (.invokevirtual 121, 3, [0, 53, 4, 9]) := by decide +kernel
theorem p57_137 : prog 57 137 = some (.iload 5, 2, []) := by decide +kernel
theorem p57_139 : prog 57 139 = some (.ifCond .eq 8, 3, [147]) := by decide +kernel
theorem p57_142 : prog 57 142 = some (.iload 6, 2, []) := by decide +kernel
theorem p57_144 : prog 57 144 = some (.ifCond .ne 4, 3, [148]) := by decide +kernel
theorem p57_147 : prog 57 147 = some (.return_, 1, []) := by decide +kernel
theorem p57_148 : prog 57 148 = some (.iload 4, 2, []) := by decide +kernel
theorem p57_150 : prog 57 150 = some (.bipush 8, 2, []) := by decide +kernel
theorem p57_152 : prog 57 152 = some (.idiv, 1, []) := by decide +kernel
theorem p57_153 : prog 57 153 = some (.iload_n 3, 1, []) := by decide +kernel
theorem p57_154 : prog 57 154 = some (.bipush 8, 2, []) := by decide +kernel
theorem p57_156 : prog 57 156 = some (.idiv, 1, []) := by decide +kernel
theorem p57_157 : prog 57 157 = some (.if_icmp .ge 11, 3, [168]) := by decide +kernel
theorem p57_160 : prog 57 160 = some (.aload_n 0, 1, []) := by decide +kernel
theorem p57_161 : prog 57 161 = some (.bipush 22, 2, []) := by decide +kernel
theorem p57_163 : prog 57 163 = some (.iload_n 1, 1, []) := by decide +kernel
theorem p57_164 : prog 57 164 = some (.iload_n 2, 1, []) := by decide +kernel
theorem p57_165 : prog 57 165 = some (.invokevirtual 121, 3, [0, 53, 4, 9]) := by decide +kernel
theorem p57_168 : prog 57 168 = some (.iload 4, 2, []) := by decide +kernel
theorem p57_170 : prog 57 170 = some (.bipush 8, 2, []) := by decide +kernel
theorem p57_172 : prog 57 172 = some (.idiv, 1, []) := by decide +kernel
theorem p57_173 : prog 57 173 = some (.iload_n 3, 1, []) := by decide +kernel
theorem p57_174 : prog 57 174 = some (.bipush 8, 2, []) := by decide +kernel
theorem p57_176 : prog 57 176 = some (.idiv, 1, []) := by decide +kernel
theorem p57_177 : prog 57 177 = some (.if_icmp .le 11, 3, [188]) := by decide +kernel
theorem p57_180 : prog 57 180 = some (.aload_n 0, 1, []) := by decide +kernel
theorem p57_181 : prog 57 181 = some (.bipush 25, 2, []) := by decide +kernel
theorem p57_183 : prog 57 183 = some (.iload_n 1, 1, []) := by decide +kernel
theorem p57_184 : prog 57 184 = some (.iload_n 2, 1, []) := by decide +kernel
theorem p57_185 : prog 57 185 = some (.invokevirtual 121, 3, [0, 53, 4, 9]) := by decide +kernel
theorem p57_188 : prog 57 188 = some (.iload_n 3, 1, []) := by decide +kernel
theorem p57_189 : prog 57 189 = some (.iload 4, 2, []) := by decide +kernel
theorem p57_191 : prog 57 191 = some (.ixor, 1, []) := by decide +kernel
theorem p57_192 : prog 57 192 = some (.iconst 1, 1, []) := by decide +kernel
theorem p57_193 : prog 57 193 = some (.iand, 1, []) := by decide +kernel
theorem p57_194 : prog 57 194 = some (.ifCond .eq 11, 3, [205]) := by decide +kernel
theorem p57_197 : prog 57 197 = some (.aload_n 0, 1, []) := by decide +kernel
theorem p57_198 : prog 57 198 = some (.bipush 26, 2, []) := by decide +kernel
theorem p57_200 : prog 57 200 = some (.iload_n 1, 1, []) := by decide +kernel
theorem p57_201 : prog 57 201 = some (.iload_n 2, 1, []) := by decide +kernel
theorem p57_202 : prog 57 202 = some (.invokevirtual 121, 3, [0, 53, 4, 9]) := by decide +kernel
theorem p57_205 : prog 57 205 = some (.aload_n 0, 1, []) := by decide +kernel
theorem p57_206 : prog 57 206 = some (.iload_n 3, 1, []) := by decide +kernel
theorem p57_207 : prog 57 207 = some (.iload 4, 2, []) := by decide +kernel
theorem p57_209 : prog 57 209 = some (.iconst 4, 1, []) := by decide +kernel
theorem p57_210 : prog 57 210 = some (.bipush 27, 2, []) := by decide +kernel
theorem p57_212 : prog 57 212 = some (.iload_n 1, 1, []) := by decide +kernel
theorem p57_213 : prog 57 213 = some (.iload_n 2, 1, []) := by decide +kernel
theorem p57_214 : prog 57 214 = some (.invokevirtual 125, 3, [0, 54, 7, 9]) := by decide +kernel
theorem p57_217 : prog 57 217 = some (.iload 7, 2, []) := by decide +kernel
theorem p57_219 : prog 57 219 = some (.ifCond .eq 16, 3, [235]) := by decide +kernel
theorem p57_222 : prog 57 222 = some (.aload_n 0, 1, []) := by decide +kernel
theorem p57_223 : prog 57 223 = some (.iload_n 3, 1, []) := by decide +kernel
theorem p57_224 : prog 57 224 = some (.iload 4, 2, []) := by decide +kernel
theorem p57_226 : prog 57 226 = some (.iconst 2, 1, []) := by decide +kernel
theorem p57_227 : prog 57 227 = some (.bipush 29, 2, []) := by decide +kernel
theorem p57_229 : prog 57 229 = some (.iload_n 1, 1, []) := by decide +kernel
theorem p57_230 : prog 57 230 = some (.iload_n 2, 1, []) := by decide +kernel
theorem p57_231 : prog 57 231 = some (.invokevirtual 125, 3, [0, 54, 7, 9]) := by decide +kernel
theorem p57_234 : prog 57 234 = some (.return_, 1, []) := by decide +kernel
theorem p57_235 : prog 57 235 = some (.bipush 12, 2, []) := by decide +kernel
theorem p57_237 : prog 57 237 = some (.iload_n 1, 1, []) := by decide +kernel
theorem p57_238 : prog 57 238 = some (.imul, 1, []) := by decide +kernel
theorem p57_239 : prog 57 239 = some (.iload_n 2, 1, []) := by decide +kernel
theorem p57_240 : prog 57 240 = some (.iadd, 1, []) := by decide +kernel
theorem p57_241 : prog 57 241 = some (.iconst 1, 1, []) := by decide +kernel
theorem p57_242 : prog 57 242 = some (.isub, 1, []) := by decide +kernel
theorem p57_243 : prog 57 243 = some (.istore 8, 2, []) := by decide +kernel
theorem p57_245 : prog 57 245 = some (.bipush 96, 2, []) := by decide +kernel
theorem p57_247 : prog 57 247 = some (.iload 8, 2, []) := by decide +kernel
theorem p57_249 : prog 57 249 = some (.iadd, 1, []) := by decide +kernel
theorem p57_250 : prog 57 250 = some (.istore 9, 2, []) := by decide +kernel
theorem p57_252 : prog 57 252 = some (.aload_n 0, 1, []) := by decide +kernel
theorem p57_253 : prog 57 253 = some (.getfield 13, 3, [9, 1, 1]) := by decide +kernel
theorem p57_256 : prog 57 256 = some (.iload 8, 2, []) := by decide +kernel
theorem p57_258 : prog 57 258 = some (.baload, 1, []) := by decide +kernel
theorem p57_259 : prog 57 259 = some (.ifCond .eq 39, 3, [298]) := by decide +kernel
theorem p57_262 : prog 57 262 = some (.aload_n 0, 1, []) := by decide +kernel
theorem p57_263 : prog 57 263 = some (.getfield 13, 3, [9, 1, 1]) := by decide +kernel
theorem p57_266 : prog 57 266 = some (.iload 9, 2, []) := by decide +kernel
theorem p57_268 : prog 57 268 = some (.baload, 1, []) := by decide +kernel
theorem p57_269 : prog 57 269 = some (.ifCond .eq 29, 3, [298]) := by decide +kernel
theorem p57_272 : prog 57 272 = some (.aload_n 0, 1, []) := by decide +kernel
theorem p57_273 : prog 57 273 = some (.getfield 32, 3, [9, 7, 1]) := by decide +kernel
theorem p57_276 : prog 57 276 = some (.iload 8, 2, []) := by decide +kernel
theorem p57_278 : prog 57 278 = some (.daload, 1, []) := by decide +kernel
theorem p57_279 : prog 57 279 = some (.aload_n 0, 1, []) := by decide +kernel
theorem p57_280 : prog 57 280 = some (.getfield 32, 3, [9, 7, 1]) := by decide +kernel
theorem p57_283 : prog 57 283 = some (.iload 9, 2, []) := by decide +kernel
theorem p57_285 : prog 57 285 = some (.daload, 1, []) := by decide +kernel
theorem p57_286 : prog 57 286 = some (.dcmp .l, 1, []) := by decide +kernel
theorem p57_287 : prog 57 287 = some (.ifCond .eq 11, 3, [298]) := by decide +kernel
theorem p57_290 : prog 57 290 = some (.aload_n 0, 1, []) := by decide +kernel
theorem p57_291 : prog 57 291 = some (.bipush 31, 2, []) := by decide +kernel
theorem p57_293 : prog 57 293 = some (.iload_n 1, 1, []) := by decide +kernel
theorem p57_294 : prog 57 294 = some (.iload_n 2, 1, []) := by decide +kernel
theorem p57_295 : prog 57 295 = some (.invokevirtual 121, 3, [0, 53, 4, 9]) := by decide +kernel
theorem p57_298 : prog 57 298 = some (.aload_n 0, 1, []) := by decide +kernel
theorem p57_299 : prog 57 299 = some (.getfield 13, 3, [9, 1, 1]) := by decide +kernel
theorem p57_302 : prog 57 302 = some (.iload 8, 2, []) := by decide +kernel
theorem p57_304 : prog 57 304 = some (.baload, 1, []) := by decide +kernel
theorem p57_305 : prog 57 305 = some (.ifCond .eq 21, 3, [326]) := by decide +kernel
theorem p57_308 : prog 57 308 = some (.aload_n 0, 1, []) := by decide +kernel
theorem p57_309 : prog 57 309 = some (.getfield 13, 3, [9, 1, 1]) := by decide +kernel
theorem p57_312 : prog 57 312 = some (.iload 9, 2, []) := by decide +kernel
theorem p57_314 : prog 57 314 = some (.baload, 1, []) := by decide +kernel
theorem p57_315 : prog 57 315 = some (.ifCond .ne 11, 3, [326]) := by decide +kernel
theorem p57_318 : prog 57 318 = some (.aload_n 0, 1, []) := by decide +kernel
theorem p57_319 : prog 57 319 = some (.bipush 32, 2, []) := by decide +kernel
theorem p57_321 : prog 57 321 = some (.iload_n 1, 1, []) := by decide +kernel
theorem p57_322 : prog 57 322 = some (.iload_n 2, 1, []) := by decide +kernel
theorem p57_323 : prog 57 323 = some (.invokevirtual 121, 3, [0, 53, 4, 9]) := by decide +kernel
theorem p57_326 : prog 57 326 = some (.aload_n 0, 1, []) := by decide +kernel
theorem p57_327 : prog 57 327 = some (.getfield 13, 3, [9, 1, 1]) := by decide +kernel
theorem p57_330 : prog 57 330 = some (.iload 8, 2, []) := by decide +kernel
theorem p57_332 : prog 57 332 = some (.baload, 1, []) := by decide +kernel
theorem p57_333 : prog 57 333 = some (.ifCond .ne 21, 3, [354]) := by decide +kernel
theorem p57_336 : prog 57 336 = some (.aload_n 0, 1, []) := by decide +kernel
theorem p57_337 : prog 57 337 = some (.getfield 13, 3, [9, 1, 1]) := by decide +kernel
theorem p57_340 : prog 57 340 = some (.iload 9, 2, []) := by decide +kernel
theorem p57_342 : prog 57 342 = some (.baload, 1, []) := by decide +kernel
theorem p57_343 : prog 57 343 = some (.ifCond .eq 11, 3, [354]) := by decide +kernel
theorem p57_346 : prog 57 346 = some (.aload_n 0, 1, []) := by decide +kernel
theorem p57_347 : prog 57 347 = some (.bipush 33, 2, []) := by decide +kernel
theorem p57_349 : prog 57 349 = some (.iload_n 1, 1, []) := by decide +kernel
theorem p57_350 : prog 57 350 = some (.iload_n 2, 1, []) := by decide +kernel
theorem p57_351 : prog 57 351 = some (.invokevirtual 121, 3, [0, 53, 4, 9]) := by decide +kernel
theorem p57_354 : prog 57 354 = some (.return_, 1, []) := by decide +kernel
theorem p58_0 : prog 58 0 = some (.aload_n 0, 1, []) := by decide +kernel
theorem p58_1 : prog 58 1 = some (.iconst 1, 1, []) := by decide +kernel
theorem p58_2 : prog 58 2 = some (.iload_n 1, 1, []) := by decide +kernel
theorem p58_3 : prog 58 3 = some (.invokevirtual 129, 3, [0, 51, 3, 9]) := by decide +kernel
theorem p58_6 : prog 58 6 = some (.istore 4, 2, []) := by decide +kernel
theorem p58_8 : prog 58 8 = some (.iconst 0, 1, []) := by decide +kernel
theorem p58_9 : prog 58 9 = some (.istore 5, 2, []) := by decide +kernel
theorem p58_11 : prog 58 11 = some (.iload 5, 2, []) := by decide +kernel
theorem p58_13 : prog 58 13 = some (.bipush 8, 2, []) := by decide +kernel
theorem p58_15 : prog 58 15 = some (.if_icmp .ge 52, 3, [67]) := by decide +kernel
theorem p58_18 : prog 58 18 = some (.iload 4, 2, []) := by decide +kernel
theorem p58_20 : prog 58 20 = some (.iload 5, 2, []) := by decide +kernel
theorem p58_22 : prog 58 22 = some (.ishr, 1, []) := by decide +kernel
theorem p58_23 : prog 58 23 = some (.iconst 1, 1, []) := by decide +kernel
theorem p58_24 : prog 58 24 = some (.iand, 1, []) := by decide +kernel
theorem p58_25 : prog 58 25 = some (.iconst 1, 1, []) := by decide +kernel
theorem p58_26 : prog 58 26 = some (.if_icmp .ne 35, 3, [61]) := by decide +kernel
theorem p58_29 : prog 58 29 = some (.aload_n 0, 1, []) := by decide +kernel
theorem p58_30 : prog 58 30 = some (.iconst 1, 1, []) := by decide +kernel
theorem p58_31 : prog 58 31 = some (.iload 5, 2, []) := by decide +kernel
theorem p58_33 : prog 58 33 = some (.iload_n 2, 1, []) := by decide +kernel
theorem p58_34 : prog 58 34 = some (.invokevirtual 139, 3, [0, 50, 4, 9]) := by decide +kernel
theorem p58_37 : prog 58 37 = some (.ifCond .eq 24, 3, [61]) := by decide +kernel
theorem p58_40 : prog 58 40 = some (.aload_n 0, 1, []) := by decide +kernel
theorem p58_41 : prog 58 41 = some (.getfield 29, 3, [9, 6, 1]) := by decide +kernel
theorem p58_44 : prog 58 44 = some (.iconst 1, 1, []) := by decide +kernel
theorem p58_45 : prog 58 45 = some (.iload 5, 2, []) := by decide +kernel
theorem p58_47 : prog 58 47 = some (.iload_n 2, 1, []) := by decide +kernel
theorem p58_48 : prog 58 48 = some (.invokestatic 84, 3, [1, 36, 3]) := by decide +kernel
theorem p58_51 : prog 58 51 = some (.iaload, 1, []) := by decide +kernel
theorem p58_52 : prog 58 52 = some (.bipush 8, 2, []) := by decide +kernel
theorem p58_54 : prog 58 54 = some (.idiv, 1, []) := by decide +kernel
theorem p58_55 : prog 58 55 = some (.iload_n 3, 1, []) := by decide +kernel
theorem p58_56 : prog 58 56 = some (.if_icmp .lt 5, 3, [61]) := by decide +kernel
theorem p58_59 : prog 58 59 = some (.iconst 1, 1, []) := by decide +kernel
theorem p58_60 : prog 58 60 = some (.ireturn, 1, [1]) := by decide +kernel
theorem p58_61 : prog 58 61 = some (.iinc 5 1, 3, []) := by decide +kernel
theorem p58_64 : prog 58 64 = some (.goto (-53), 3, [11]) := by decide +kernel
theorem p58_67 : prog 58 67 = some (.iconst 0, 1, []) := by decide +kernel
theorem p58_68 : prog 58 68 = some (.ireturn, 1, [1]) := by decide +kernel
theorem p59_0 : prog 59 0 = some (.aload_n 0, 1, []) := by decide +kernel
theorem p59_1 : prog 59 1 = some (.iconst 0, 1, []) := by decide +kernel
theorem p59_2 : prog 59 2 = some (.putfield 115, 3, [9, 22, 0]) := by decide +kernel
theorem p59_5 : prog 59 5 = some (.iconst 0, 1, []) := by decide +kernel
theorem p59_6 : prog 59 6 = some (.istore_n 1, 1, []) := by decide +kernel
theorem p59_7 : prog 59 7 = some (.iload_n 1, 1, []) := by decide +kernel
theorem p59_8 : prog 59 8 = some (.bipush 8, 2, []) := by decide +kernel
theorem p59_10 : prog 59 10 = some (.if_icmp .ge 14, 3, [24]) := by decide +kernel
theorem p59_13 : prog 59 13 = some (.aload_n 0, 1, []) := by decide +kernel
theorem p59_14 : prog 59 14 = some (.iload_n 1, 1, []) := by decide +kernel
theorem p59_15 : prog 59 15 = some (.invokevirtual 145, 3, [0, 56, 2, 9]) := by decide +kernel
theorem p59_18 : prog 59 18 = some (.iinc 1 1, 3, []) := by decide +kernel
theorem p59_21 : prog 59 21 = some (.goto (-14), 3, [7]) := by decide +kernel
theorem p59_24 : prog 59 24 = some (.return_, 1, []) := by decide +kernel
theorem p60_0 : prog 60 0 = some (.aload_n 0, 1, []) := by decide +kernel
theorem p60_1 : prog 60 1 = some (.invokevirtual 149, 3, [0, 59, 1, 9]) := by decide +kernel
theorem p60_4 : prog 60 4 = some (.aload_n 0, 1, []) := by decide +kernel
theorem p60_5 : prog 60 5 = some (.getfield 115, 3, [9, 22, 0]) := by decide +kernel
theorem p60_8 : prog 60 8 = some (.ireturn, 1, [0]) := by decide +kernel
theorem p61_0 : prog 61 0 = some (.iload_n 2, 1, []) := by decide +kernel
theorem p61_1 : prog 61 1 = some (.iconst 0, 1, []) := by decide +kernel
theorem p61_2 : prog 61 2 = some (.iconst 4, 1, []) := by decide +kernel
theorem p61_3 : prog 61 3 = some (.invokestatic 76, 3, [1, 32, 3]) := by decide +kernel
theorem p61_6 : prog 61 6 = some (.ifCond .ne 5, 3, [11]) := by decide +kernel
theorem p61_9 : prog 61 9 = some (.iconst (-1), 1, []) := by decide +kernel
theorem p61_10 : prog 61 10 = some (.ireturn, 1, [0]) := by decide +kernel
theorem p61_11 : prog 61 11 = some (.aload_n 0, 1, []) := by decide +kernel
theorem p61_12 : prog 61 12 = some (.invokevirtual 149, 3, [0, 59, 1, 9]) := by decide +kernel
theorem p61_15 : prog 61 15 = some (.iload_n 1, 1, []) := by decide +kernel
theorem p61_16 : prog 61 16 = some (.iconst 0, 1, []) := by decide +kernel
theorem p61_17 : prog 61 17 = some (.aload_n 0, 1, []) := by decide +kernel
theorem p61_18 : prog 61 18 = some (.getfield 115, 3, [9, 22, 0]) := by decide +kernel
theorem p61_21 : prog 61 21 = some (.iconst 1, 1, []) := by decide +kernel
theorem p61_22 : prog 61 22 = some (.isub, 1, []) := by decide +kernel
theorem p61_23 : prog 61 23 = some (.invokestatic 76, 3, [1, 32, 3]) := by decide +kernel
theorem p61_26 : prog 61 26 = some (.ifCond .ne 6, 3, [32]) := by decide +kernel
theorem p61_29 : prog 61 29 = some (.bipush (-2), 2, []) := by decide +kernel
theorem p61_31 : prog 61 31 = some (.ireturn, 1, [0]) := by decide +kernel
theorem p61_32 : prog 61 32 = some (.aload_n 0, 1, []) := by decide +kernel
theorem p61_33 : prog 61 33 = some (.getfield 61, 3, [9, 19, 1]) := by decide +kernel
theorem p61_36 : prog 61 36 = some (.iload_n 1, 1, []) := by decide +kernel
theorem p61_37 : prog 61 37 = some (.iaload, 1, []) := by decide +kernel
theorem p61_38 : prog 61 38 = some (.istore_n 3, 1, []) := by decide +kernel
theorem p61_39 : prog 61 39 = some (.iload_n 2, 1, []) := by decide +kernel
theorem p61_40 : prog 61 40 = some (.tableswitch 73 0 3 #[32, 39, 46, 53], 32, [113, 72, 79, 86, 93]) := by decide +kernel
theorem p61_72 : prog 61 72 = some (.aload_n 0, 1, []) := by decide +kernel
theorem p61_73 : prog 61 73 = some (.getfield 55, 3, [9, 17, 1]) := by decide +kernel
theorem p61_76 : prog 61 76 = some (.iload_n 1, 1, []) := by decide +kernel
theorem p61_77 : prog 61 77 = some (.iaload, 1, []) := by decide +kernel
theorem p61_78 : prog 61 78 = some (.ireturn, 1, [0]) := by decide +kernel
theorem p61_79 : prog 61 79 = some (.aload_n 0, 1, []) := by decide +kernel
theorem p61_80 : prog 61 80 = some (.getfield 64, 3, [9, 20, 1]) := by decide +kernel
theorem p61_83 : prog 61 83 = some (.iload_n 1, 1, []) := by decide +kernel
theorem p61_84 : prog 61 84 = some (.iaload, 1, []) := by decide +kernel
theorem p61_85 : prog 61 85 = some (.ireturn, 1, [0]) := by decide +kernel
theorem p61_86 : prog 61 86 = some (.aload_n 0, 1, []) := by decide +kernel
theorem p61_87 : prog 61 87 = some (.getfield 58, 3, [9, 18, 1]) := by decide +kernel
theorem p61_90 : prog 61 90 = some (.iload_n 1, 1, []) := by decide +kernel
theorem p61_91 : prog 61 91 = some (.iaload, 1, []) := by decide +kernel
theorem p61_92 : prog 61 92 = some (.ireturn, 1, [0]) := by decide +kernel
theorem p61_93 : prog 61 93 = some (.iload_n 3, 1, []) := by decide +kernel
theorem p61_94 : prog 61 94 = some (.ifCond .ne 7, 3, [101]) := by decide +kernel
theorem p61_97 : prog 61 97 = some (.iconst 0, 1, []) := by decide +kernel
theorem p61_98 : prog 61 98 = some (.goto 14, 3, [112]) := by decide +kernel
theorem p61_101 : prog 61 101 = some (.iload_n 3, 1, []) := by decide +kernel
theorem p61_102 : prog 61 102 = some (.bipush 13, 2, []) := by decide +kernel
theorem p61_104 : prog 61 104 = some (.if_icmp .ge 7, 3, [111]) := by decide +kernel
theorem p61_107 : prog 61 107 = some (.iconst 1, 1, []) := by decide +kernel
theorem p61_108 : prog 61 108 = some (.goto 4, 3, [112]) := by decide +kernel
theorem p61_111 : prog 61 111 = some (.iconst 2, 1, []) := by decide +kernel
theorem p61_112 : prog 61 112 = some (.ireturn, 1, [0]) := by decide +kernel
theorem p61_113 : prog 61 113 = some (.iload_n 3, 1, []) := by decide +kernel
theorem p61_114 : prog 61 114 = some (.ifCond .ne 8, 3, [122]) := by decide +kernel
theorem p61_117 : prog 61 117 = some (.bipush (-2), 2, []) := by decide +kernel
theorem p61_119 : prog 61 119 = some (.goto 9, 3, [128]) := by decide +kernel
theorem p61_122 : prog 61 122 = some (.iload_n 3, 1, []) := by decide +kernel
theorem p61_123 : prog 61 123 = some (.iconst 1, 1, []) := by decide +kernel
theorem p61_124 : prog 61 124 = some (.isub, 1, []) := by decide +kernel
theorem p61_125 : prog 61 125 = some (.bipush 12, 2, []) := by decide +kernel
theorem p61_127 : prog 61 127 = some (.irem, 1, []) := by decide +kernel
theorem p61_128 : prog 61 128 = some (.ireturn, 1, [0]) := by decide +kernel
theorem p62_0 : prog 62 0 = some (.aload_n 0, 1, []) := by decide +kernel
theorem p62_1 : prog 62 1 = some (.invokevirtual 149, 3, [0, 59, 1, 9]) := by decide +kernel
theorem p62_4 : prog 62 4 = some (.iload_n 1, 1, []) := by decide +kernel
theorem p62_5 : prog 62 5 = some (.iconst 0, 1, []) := by decide +kernel
theorem p62_6 : prog 62 6 = some (.aload_n 0, 1, []) := by decide +kernel
theorem p62_7 : prog 62 7 = some (.getfield 115, 3, [9, 22, 0]) := by decide +kernel
theorem p62_10 : prog 62 10 = some (.iconst 1, 1, []) := by decide +kernel
theorem p62_11 : prog 62 11 = some (.isub, 1, []) := by decide +kernel
theorem p62_12 : prog 62 12 = some (.invokestatic 76, 3, [1, 32, 3]) := by decide +kernel
theorem p62_15 : prog 62 15 = some (.ifCond .eq 14, 3, [29]) := by decide +kernel
theorem p62_18 : prog 62 18 = some (.aload_n 0, 1, []) := by decide +kernel
theorem p62_19 : prog 62 19 = some (.getfield 55, 3, [9, 17, 1]) := by decide +kernel
theorem p62_22 : prog 62 22 = some (.iload_n 1, 1, []) := by decide +kernel
theorem p62_23 : prog 62 23 = some (.iaload, 1, []) := by decide +kernel
theorem p62_24 : prog 62 24 = some (.bipush 31, 2, []) := by decide +kernel
theorem p62_26 : prog 62 26 = some (.if_icmp .eq 5, 3, [31]) := by decide +kernel
theorem p62_29 : prog 62 29 = some (.dconst 0, 1, []) := by decide +kernel
theorem p62_30 : prog 62 30 = some (.dreturn, 1, []) := by decide +kernel
theorem p62_31 : prog 62 31 = some (.bipush 12, 2, []) := by decide +kernel
theorem p62_33 : prog 62 33 = some (.aload_n 0, 1, []) := by decide +kernel
theorem p62_34 : prog 62 34 = some (.getfield 58, 3, [9, 18, 1]) := by decide +kernel
theorem p62_37 : prog 62 37 = some (.iload_n 1, 1, []) := by decide +kernel
theorem p62_38 : prog 62 38 = some (.iaload, 1, []) := by decide +kernel
theorem p62_39 : prog 62 39 = some (.imul, 1, []) := by decide +kernel
theorem p62_40 : prog 62 40 = some (.aload_n 0, 1, []) := by decide +kernel
theorem p62_41 : prog 62 41 = some (.getfield 61, 3, [9, 19, 1]) := by decide +kernel
theorem p62_44 : prog 62 44 = some (.iload_n 1, 1, []) := by decide +kernel
theorem p62_45 : prog 62 45 = some (.iaload, 1, []) := by decide +kernel
theorem p62_46 : prog 62 46 = some (.iadd, 1, []) := by decide +kernel
theorem p62_47 : prog 62 47 = some (.iconst 1, 1, []) := by decide +kernel
theorem p62_48 : prog 62 48 = some (.isub, 1, []) := by decide +kernel
theorem p62_49 : prog 62 49 = some (.istore_n 2, 1, []) := by decide +kernel
theorem p62_50 : prog 62 50 = some (.aload_n 0, 1, []) := by decide +kernel
theorem p62_51 : prog 62 51 = some (.getfield 32, 3, [9, 7, 1]) := by decide +kernel
theorem p62_54 : prog 62 54 = some (.bipush 96, 2, []) := by decide +kernel
theorem p62_56 : prog 62 56 = some (.iload_n 2, 1, []) := by decide +kernel
theorem p62_57 : prog 62 57 = some (.iadd, 1, []) := by decide +kernel
theorem p62_58 : prog 62 58 = some (.daload, 1, []) := by decide +kernel
theorem p62_59 : prog 62 59 = some (.aload_n 0, 1, []) := by decide +kernel
theorem p62_60 : prog 62 60 = some (.getfield 32, 3, [9, 7, 1]) := by decide +kernel
theorem p62_63 : prog 62 63 = some (.iload_n 2, 1, []) := by decide +kernel
theorem p62_64 : prog 62 64 = some (.daload, 1, []) := by decide +kernel
theorem p62_65 : prog 62 65 = some (.dsub, 1, []) := by decide +kernel
theorem p62_66 : prog 62 66 = some (.dreturn, 1, []) := by decide +kernel
theorem p63_0 : prog 63 0 = some (.aload_n 0, 1, []) := by decide +kernel
theorem p63_1 : prog 63 1 = some (.getfield 152, 3, [9, 26, 0]) := by decide +kernel
theorem p63_4 : prog 63 4 = some (.aload_n 0, 1, []) := by decide +kernel
theorem p63_5 : prog 63 5 = some (.getfield 155, 3, [9, 25, 0]) := by decide +kernel
theorem p63_8 : prog 63 8 = some (.if_icmp .ne 8, 3, [16]) := by decide +kernel
theorem p63_11 : prog 63 11 = some (.aload_n 0, 1, []) := by decide +kernel
theorem p63_12 : prog 63 12 = some (.iload_n 1, 1, []) := by decide +kernel
theorem p63_13 : prog 63 13 = some (.putfield 158, 3, [9, 27, 0]) := by decide +kernel
theorem p63_16 : prog 63 16 = some (.aload_n 0, 1, []) := by decide +kernel
theorem p63_17 : prog 63 17 = some (.dup, 1, []) := by decide +kernel
theorem p63_18 : prog 63 18 = some (.getfield 152, 3, [9, 26, 0]) := by decide +kernel
theorem p63_21 : prog 63 21 = some (.iconst 1, 1, []) := by decide +kernel
theorem p63_22 : prog 63 22 = some (.iadd, 1, []) := by decide +kernel
theorem p63_23 : prog 63 23 = some (.putfield 152, 3, [9, 26, 0]) := by decide +kernel
theorem p63_26 : prog 63 26 = some (.return_, 1, []) := by decide +kernel
theorem p64_0 : prog 64 0 = some (.iconst 1, 1, []) := by decide +kernel
theorem p64_1 : prog 64 1 = some (.istore_n 2, 1, []) := by decide +kernel
theorem p64_2 : prog 64 2 = some (.iload_n 1, 1, []) := by decide +kernel
theorem p64_3 : prog 64 3 = some (.iload_n 2, 1, []) := by decide +kernel
theorem p64_4 : prog 64 4 = some (.idiv, 1, []) := by decide +kernel
theorem p64_5 : prog 64 5 = some (.bipush 9, 2, []) := by decide +kernel
theorem p64_7 : prog 64 7 = some (.if_icmp .le 11, 3, [18]) := by decide +kernel
theorem p64_10 : prog 64 10 = some (.iload_n 2, 1, []) := by decide +kernel
theorem p64_11 : prog 64 11 = some (.bipush 10, 2, []) := by decide +kernel
theorem p64_13 : prog 64 13 = some (.imul, 1, []) := by decide +kernel
theorem p64_14 : prog 64 14 = some (.istore_n 2, 1, []) := by decide +kernel
theorem p64_15 : prog 64 15 = some (.goto (-13), 3, [2]) := by decide +kernel
theorem p64_18 : prog 64 18 = some (.iload_n 2, 1, []) := by decide +kernel
theorem p64_19 : prog 64 19 = some (.ifCond .le 24, 3, [43]) := by decide +kernel
theorem p64_22 : prog 64 22 = some (.aload_n 0, 1, []) := by decide +kernel
theorem p64_23 : prog 64 23 = some (.bipush 48, 2, []) := by decide +kernel
theorem p64_25 : prog 64 25 = some (.iload_n 1, 1, []) := by decide +kernel
theorem p64_26 : prog 64 26 = some (.iload_n 2, 1, []) := by decide +kernel
theorem p64_27 : prog 64 27 = some (.idiv, 1, []) := by decide +kernel
theorem p64_28 : prog 64 28 = some (.bipush 10, 2, []) := by decide +kernel
theorem p64_30 : prog 64 30 = some (.irem, 1, []) := by decide +kernel
theorem p64_31 : prog 64 31 = some (.iadd, 1, []) := by decide +kernel
theorem p64_32 : prog 64 32 = some (.invokevirtual 161, 3, [0, 63, 2, 9]) := by decide +kernel
theorem p64_35 : prog 64 35 = some (.iload_n 2, 1, []) := by decide +kernel
theorem p64_36 : prog 64 36 = some (.bipush 10, 2, []) := by decide +kernel
theorem p64_38 : prog 64 38 = some (.idiv, 1, []) := by decide +kernel
theorem p64_39 : prog 64 39 = some (.istore_n 2, 1, []) := by decide +kernel
theorem p64_40 : prog 64 40 = some (.goto (-22), 3, [18]) := by decide +kernel
theorem p64_43 : prog 64 43 = some (.return_, 1, []) := by decide +kernel
theorem p65_0 : prog 65 0 = some (.aload_n 0, 1, []) := by decide +kernel
theorem p65_1 : prog 65 1 = some (.aload_n 0, 1, []) := by decide +kernel
theorem p65_2 : prog 65 2 = some (.getfield 55, 3, [9, 17, 1]) := by decide +kernel
theorem p65_5 : prog 65 5 = some (.iload_n 1, 1, []) := by decide +kernel
theorem p65_6 : prog 65 6 = some (.iaload, 1, []) := by decide +kernel
theorem p65_7 : prog 65 7 = some (.iconst 3, 1, []) := by decide +kernel
theorem p65_8 : prog 65 8 = some (.if_icmp .ne 7, 3, [15]) := by decide +kernel
theorem p65_11 : prog 65 11 = some (.iconst 1, 1, []) := by decide +kernel
theorem p65_12 : prog 65 12 = some (.goto 4, 3, [16]) := by decide +kernel
theorem p65_15 : prog 65 15 = some (.iconst 0, 1, []) := by decide +kernel
theorem p65_16 : prog 65 16 = some (.aload_n 0, 1, []) := by decide +kernel
theorem p65_17 : prog 65 17 = some (.getfield 58, 3, [9, 18, 1]) := by decide +kernel
theorem p65_20 : prog 65 20 = some (.iload_n 1, 1, []) := by decide +kernel
theorem p65_21 : prog 65 21 = some (.iaload, 1, []) := by decide +kernel
theorem p65_22 : prog 65 22 = some (.aload_n 0, 1, []) := by decide +kernel
theorem p65_23 : prog 65 23 = some (.getfield 61, 3, [9, 19, 1]) := by decide +kernel
theorem p65_26 : prog 65 26 = some (.iload_n 1, 1, []) := by decide +kernel
theorem p65_27 : prog 65 27 = some (.iaload, 1, []) := by decide +kernel
theorem p65_28 : prog 65 28 = some (.invokevirtual 101, 3, [0, 46, 4, 9]) := by decide +kernel
theorem p65_31 : prog 65 31 = some (.istore_n 2, 1, []) := by decide +kernel
theorem p65_32 : prog 65 32 = some (.iconst 0, 1, []) := by decide +kernel
theorem p65_33 : prog 65 33 = some (.istore_n 3, 1, []) := by decide +kernel
theorem p65_34 : prog 65 34 = some (.iload_n 3, 1, []) := by decide +kernel
theorem p65_35 : prog 65 35 = some (.iload_n 2, 1, []) := by decide +kernel
theorem p65_36 : prog 65 36 = some (.if_icmp .ge 19, 3, [55]) := by decide +kernel
theorem p65_39 : prog 65 39 = some (.aload_n 0, 1, []) := by decide +kernel
theorem p65_40 : prog 65 40 = some (.aload_n 0, 1, []) := by decide +kernel
theorem p65_41 : prog 65 41 = some (.getfield 70, 3, [9, 23, 1]) := by decide +kernel
theorem p65_44 : prog 65 44 = some (.iload_n 3, 1, []) := by decide +kernel
theorem p65_45 : prog 65 45 = some (.iaload, 1, []) := by decide +kernel
theorem p65_46 : prog 65 46 = some (.invokevirtual 161, 3, [0, 63, 2, 9]) := by decide +kernel
theorem p65_49 : prog 65 49 = some (.iinc 3 1, 3, []) := by decide +kernel
theorem p65_52 : prog 65 52 = some (.goto (-18), 3, [34]) := by decide +kernel
theorem p65_55 : prog 65 55 = some (.return_, 1, []) := by decide +kernel
theorem p66_0 : prog 66 0 = some (.iconst 0, 1, []) := by decide +kernel
theorem p66_1 : prog 66 1 = some (.istore_n 2, 1, []) := by decide +kernel
theorem p66_2 : prog 66 2 = some (.iconst 0, 1, []) := by decide +kernel
theorem p66_3 : prog 66 3 = some (.istore_n 3, 1, []) := by decide +kernel
theorem p66_4 : prog 66 4 = some (.iload_n 3, 1, []) := by decide +kernel
theorem p66_5 : prog 66 5 = some (.aload_n 0, 1, []) := by decide +kernel
theorem p66_6 : prog 66 6 = some (.getfield 115, 3, [9, 22, 0]) := by decide +kernel
theorem p66_9 : prog 66 9 = some (.if_icmp .ge 22, 3, [31]) := by decide +kernel
theorem p66_12 : prog 66 12 = some (.aload_n 0, 1, []) := by decide +kernel
theorem p66_13 : prog 66 13 = some (.getfield 64, 3, [9, 20, 1]) := by decide +kernel
theorem p66_16 : prog 66 16 = some (.iload_n 3, 1, []) := by decide +kernel
theorem p66_17 : prog 66 17 = some (.iaload, 1, []) := by decide +kernel
theorem p66_18 : prog 66 18 = some (.iload_n 1, 1, []) := by decide +kernel
theorem p66_19 : prog 66 19 = some (.if_icmp .ne 6, 3, [25]) := by decide +kernel
theorem p66_22 : prog 66 22 = some (.iinc 2 1, 3, []) := by decide +kernel
theorem p66_25 : prog 66 25 = some (.iinc 3 1, 3, []) := by decide +kernel
theorem p66_28 : prog 66 28 = some (.goto (-24), 3, [4]) := by decide +kernel
theorem p66_31 : prog 66 31 = some (.iload_n 2, 1, []) := by decide +kernel
theorem p66_32 : prog 66 32 = some (.ireturn, 1, [0]) := by decide +kernel
theorem p67_0 : prog 67 0 = some (.iconst 0, 1, []) := by decide +kernel
theorem p67_1 : prog 67 1 = some (.istore_n 1, 1, []) := by decide +kernel
theorem p67_2 : prog 67 2 = some (.iload_n 1, 1, []) := by decide +kernel
theorem p67_3 : prog 67 3 = some (.aload_n 0, 1, []) := by decide +kernel
theorem p67_4 : prog 67 4 = some (.getfield 115, 3, [9, 22, 0]) := by decide +kernel
theorem p67_7 : prog 67 7 = some (.if_icmp .ge 78, 3, [85]) := by decide +kernel
theorem p67_10 : prog 67 10 = some (.aload_n 0, 1, []) := by decide +kernel
theorem p67_11 : prog 67 11 = some (.aload_n 0, 1, []) := by decide +kernel
theorem p67_12 : prog 67 12 = some (.getfield 64, 3, [9, 20, 1]) := by decide +kernel
theorem p67_15 : prog 67 15 = some (.iload_n 1, 1, []) := by decide +kernel
theorem p67_16 : prog 67 16 = some (.iaload, 1, []) := by decide +kernel
theorem p67_17 : prog 67 17 = some (.iconst 3, 1, []) := by decide +kernel
theorem p67_18 : prog 67 18 = some (.if_icmp .ne 8, 3, [26]) := by decide +kernel
theorem p67_21 : prog 67 21 = some (.bipush 66, 2, []) := by decide +kernel
theorem p67_23 : prog 67 23 = some (.goto 20, 3, [43]) := by decide +kernel
theorem p67_26 : prog 67 26 = some (.aload_n 0, 1, []) := by decide +kernel
theorem p67_27 : prog 67 27 = some (.getfield 64, 3, [9, 20, 1]) := by decide +kernel
theorem p67_30 : prog 67 30 = some (.iload_n 1, 1, []) := by decide +kernel
theorem p67_31 : prog 67 31 = some (.iaload, 1, []) := by decide +kernel
theorem p67_32 : prog 67 32 = some (.iconst 2, 1, []) := by decide +kernel
theorem p67_33 : prog 67 33 = some (.if_icmp .ne 8, 3, [41]) := by decide +kernel
theorem p67_36 : prog 67 36 = some (.bipush 87, 2, []) := by decide +kernel
theorem p67_38 : prog 67 38 = some (.goto 5, 3, [43]) := by decide +kernel
theorem p67_41 : prog 67 41 = some (.bipush 78, 2, []) := by decide +kernel
theorem p67_43 : prog 67 43 = some (.invokevirtual 161, 3, [0, 63, 2, 9]) := by decide +kernel
theorem p67_46 : prog 67 46 = some (.aload_n 0, 1, []) := by decide +kernel
theorem p67_47 : prog 67 47 = some (.bipush 32, 2, []) := by decide +kernel
theorem p67_49 : prog 67 49 = some (.invokevirtual 161, 3, [0, 63, 2, 9]) := by decide +kernel
theorem p67_52 : prog 67 52 = some (.aload_n 0, 1, []) := by decide +kernel
theorem p67_53 : prog 67 53 = some (.iload_n 1, 1, []) := by decide +kernel
theorem p67_54 : prog 67 54 = some (.invokevirtual 164, 3, [0, 65, 2, 9]) := by decide +kernel
theorem p67_57 : prog 67 57 = some (.aload_n 0, 1, []) := by decide +kernel
theorem p67_58 : prog 67 58 = some (.bipush 32, 2, []) := by decide +kernel
theorem p67_60 : prog 67 60 = some (.invokevirtual 161, 3, [0, 63, 2, 9]) := by decide +kernel
theorem p67_63 : prog 67 63 = some (.aload_n 0, 1, []) := by decide +kernel
theorem p67_64 : prog 67 64 = some (.aload_n 0, 1, []) := by decide +kernel
theorem p67_65 : prog 67 65 = some (.getfield 55, 3, [9, 17, 1]) := by decide +kernel
theorem p67_68 : prog 67 68 = some (.iload_n 1, 1, []) := by decide +kernel
theorem p67_69 : prog 67 69 = some (.iaload, 1, []) := by decide +kernel
theorem p67_70 : prog 67 70 = some (.invokevirtual 167, 3, [0, 64, 2, 9]) := by decide +kernel
theorem p67_73 : prog 67 73 = some (.aload_n 0, 1, []) := by decide +kernel
theorem p67_74 : prog 67 74 = some (.bipush 10, 2, []) := by decide +kernel
theorem p67_76 : prog 67 76 = some (.invokevirtual 161, 3, [0, 63, 2, 9]) := by decide +kernel
theorem p67_79 : prog 67 79 = some (.iinc 1 1, 3, []) := by decide +kernel
theorem p67_82 : prog 67 82 = some (.goto (-80), 3, [2]) := by decide +kernel
theorem p67_85 : prog 67 85 = some (.aload_n 0, 1, []) := by decide +kernel
theorem p67_86 : prog 67 86 = some (.iconst 3, 1, []) := by decide +kernel
theorem p67_87 : prog 67 87 = some (.invokevirtual 170, 3, [0, 66, 2, 9]) := by decide +kernel
theorem p67_90 : prog 67 90 = some (.istore_n 1, 1, []) := by decide +kernel
theorem p67_91 : prog 67 91 = some (.aload_n 0, 1, []) := by decide +kernel
theorem p67_92 : prog 67 92 = some (.iload_n 1, 1, []) := by decide +kernel
theorem p67_93 : prog 67 93 = some (.invokevirtual 167, 3, [0, 64, 2, 9]) := by decide +kernel
theorem p67_96 : prog 67 96 = some (.aload_n 0, 1, []) := by decide +kernel
theorem p67_97 : prog 67 97 = some (.bipush 32, 2, []) := by decide +kernel
theorem p67_99 : prog 67 99 = some (.invokevirtual 161, 3, [0, 63, 2, 9]) := by decide +kernel
theorem p67_102 : prog 67 102 = some (.aload_n 0, 1, []) := by decide +kernel
theorem p67_103 : prog 67 103 = some (.iconst 2, 1, []) := by decide +kernel
theorem p67_104 : prog 67 104 = some (.invokevirtual 170, 3, [0, 66, 2, 9]) := by decide +kernel
theorem p67_107 : prog 67 107 = some (.istore_n 1, 1, []) := by decide +kernel
theorem p67_108 : prog 67 108 = some (.aload_n 0, 1, []) := by decide +kernel
theorem p67_109 : prog 67 109 = some (.iload_n 1, 1, []) := by decide +kernel
theorem p67_110 : prog 67 110 = some (.invokevirtual 167, 3, [0, 64, 2, 9]) := by decide +kernel
theorem p67_113 : prog 67 113 = some (.aload_n 0, 1, []) := by decide +kernel
theorem p67_114 : prog 67 114 = some (.bipush 32, 2, []) := by decide +kernel
theorem p67_116 : prog 67 116 = some (.invokevirtual 161, 3, [0, 63, 2, 9]) := by decide +kernel
theorem p67_119 : prog 67 119 = some (.aload_n 0, 1, []) := by decide +kernel
theorem p67_120 : prog 67 120 = some (.iconst 1, 1, []) := by decide +kernel
theorem p67_121 : prog 67 121 = some (.invokevirtual 170, 3, [0, 66, 2, 9]) := by decide +kernel
theorem p67_124 : prog 67 124 = some (.istore_n 1, 1, []) := by decide +kernel
theorem p67_125 : prog 67 125 = some (.aload_n 0, 1, []) := by decide +kernel
theorem p67_126 : prog 67 126 = some (.iload_n 1, 1, []) := by decide +kernel
theorem p67_127 : prog 67 127 = some (.invokevirtual 167, 3, [0, 64, 2, 9]) := by decide +kernel
theorem p67_130 : prog 67 130 = some (.return_, 1, []) := by decide +kernel
theorem p68_0 : prog 68 0 = some (.aload_n 0, 1, []) := by decide +kernel
theorem p68_1 : prog 68 1 = some (.bipush 34, 2, []) := by decide +kernel
theorem p68_3 : prog 68 3 = some (.invokevirtual 161, 3, [0, 63, 2, 9]) := by decide +kernel
theorem p68_6 : prog 68 6 = some (.aload_n 0, 1, []) := by decide +kernel
theorem p68_7 : prog 68 7 = some (.iload_n 1, 1, []) := by decide +kernel
theorem p68_8 : prog 68 8 = some (.invokevirtual 161, 3, [0, 63, 2, 9]) := by decide +kernel
theorem p68_11 : prog 68 11 = some (.aload_n 0, 1, []) := by decide +kernel
theorem p68_12 : prog 68 12 = some (.bipush 34, 2, []) := by decide +kernel
theorem p68_14 : prog 68 14 = some (.invokevirtual 161, 3, [0, 63, 2, 9]) := by decide +kernel
theorem p68_17 : prog 68 17 = some (.aload_n 0, 1, []) := by decide +kernel
theorem p68_18 : prog 68 18 = some (.bipush 58, 2, []) := by decide +kernel
theorem p68_20 : prog 68 20 = some (.invokevirtual 161, 3, [0, 63, 2, 9]) := by decide +kernel
theorem p68_23 : prog 68 23 = some (.return_, 1, []) := by decide +kernel
theorem p69_0 : prog 69 0 = some (.aload_n 0, 1, []) := by decide +kernel
theorem p69_1 : prog 69 1 = some (.bipush 123, 2, []) := by decide +kernel
theorem p69_3 : prog 69 3 = some (.invokevirtual 161, 3, [0, 63, 2, 9]) := by decide +kernel
theorem p69_6 : prog 69 6 = some (.aload_n 0, 1, []) := by decide +kernel
theorem p69_7 : prog 69 7 = some (.bipush 34, 2, []) := by decide +kernel
theorem p69_9 : prog 69 9 = some (.invokevirtual 161, 3, [0, 63, 2, 9]) := by decide +kernel
theorem p69_12 : prog 69 12 = some (.aload_n 0, 1, []) := by decide +kernel
theorem p69_13 : prog 69 13 = some (.bipush 99, 2, []) := by decide +kernel
theorem p69_15 : prog 69 15 = some (.invokevirtual 161, 3, [0, 63, 2, 9]) := by decide +kernel
theorem p69_18 : prog 69 18 = some (.aload_n 0, 1, []) := by decide +kernel
theorem p69_19 : prog 69 19 = some (.bipush 104, 2, []) := by decide +kernel
theorem p69_21 : prog 69 21 = some (.invokevirtual 161, 3, [0, 63, 2, 9]) := by decide +kernel
theorem p69_24 : prog 69 24 = some (.aload_n 0, 1, []) := by decide +kernel
theorem p69_25 : prog 69 25 = some (.bipush 97, 2, []) := by decide +kernel
theorem p69_27 : prog 69 27 = some (.invokevirtual 161, 3, [0, 63, 2, 9]) := by decide +kernel
theorem p69_30 : prog 69 30 = some (.aload_n 0, 1, []) := by decide +kernel
theorem p69_31 : prog 69 31 = some (.bipush 110, 2, []) := by decide +kernel
theorem p69_33 : prog 69 33 = some (.invokevirtual 161, 3, [0, 63, 2, 9]) := by decide +kernel
theorem p69_36 : prog 69 36 = some (.aload_n 0, 1, []) := by decide +kernel
theorem p69_37 : prog 69 37 = some (.bipush 103, 2, []) := by decide +kernel
theorem p69_39 : prog 69 39 = some (.invokevirtual 161, 3, [0, 63, 2, 9]) := by decide +kernel
theorem p69_42 : prog 69 42 = some (.aload_n 0, 1, []) := by decide +kernel
theorem p69_43 : prog 69 43 = some (.bipush 101, 2, []) := by decide +kernel
theorem p69_45 : prog 69 45 = some (.invokevirtual 161, 3, [0, 63, 2, 9]) := by decide +kernel
theorem p69_48 : prog 69 48 = some (.aload_n 0, 1, []) := by decide +kernel
theorem p69_49 : prog 69 49 = some (.bipush 115, 2, []) := by decide +kernel
theorem p69_51 : prog 69 51 = some (.invokevirtual 161, 3, [0, 63, 2, 9]) := by decide +kernel
theorem p69_54 : prog 69 54 = some (.aload_n 0, 1, []) := by decide +kernel
theorem p69_55 : prog 69 55 = some (.bipush 34, 2, []) := by decide +kernel
theorem p69_57 : prog 69 57 = some (.invokevirtual 161, 3, [0, 63, 2, 9]) := by decide +kernel
theorem p69_60 : prog 69 60 = some (.aload_n 0, 1, []) := by decide +kernel
theorem p69_61 : prog 69 61 = some (.bipush 58, 2, []) := by decide +kernel
theorem p69_63 : prog 69 63 = some (.invokevirtual 161, 3, [0, 63, 2, 9]) := by decide +kernel
theorem p69_66 : prog 69 66 = some (.aload_n 0, 1, []) := by decide +kernel
theorem p69_67 : prog 69 67 = some (.bipush 91, 2, []) := by decide +kernel
theorem p69_69 : prog 69 69 = some (.invokevirtual 161, 3, [0, 63, 2, 9]) := by decide +kernel
theorem p69_72 : prog 69 72 = some (.iconst 0, 1, []) := by decide +kernel
theorem p69_73 : prog 69 73 = some (.istore_n 1, 1, []) := by decide +kernel
theorem p69_74 : prog 69 74 = some (.iload_n 1, 1, []) := by decide +kernel
theorem p69_75 : prog 69 75 = some (.aload_n 0, 1, []) := by decide +kernel
theorem p69_76 : prog 69 76 = some (.getfield 115, 3, [9, 22, 0]) := by decide +kernel
theorem p69_79 : prog 69 79 = some (.if_icmp .ge 98, 3, [177]) := by decide +kernel
theorem p69_82 : prog 69 82 = some (.iload_n 1, 1, []) := by decide +kernel
theorem p69_83 : prog 69 83 = some (.ifCond .le 9, 3, [92]) := by decide +kernel
theorem p69_86 : prog 69 86 = some (.aload_n 0, 1, []) := by decide +kernel
theorem p69_87 : prog 69 87 = some (.bipush 44, 2, []) := by decide +kernel
theorem p69_89 : prog 69 89 = some (.invokevirtual 161, 3, [0, 63, 2, 9]) := by decide +kernel
theorem p69_92 : prog 69 92 = some (.aload_n 0, 1, []) := by decide +kernel
theorem p69_93 : prog 69 93 = some (.bipush 123, 2, []) := by decide +kernel
theorem p69_95 : prog 69 95 = some (.invokevirtual 161, 3, [0, 63, 2, 9]) := by decide +kernel
theorem p69_98 : prog 69 98 = some (.aload_n 0, 1, []) := by decide +kernel
theorem p69_99 : prog 69 99 = some (.bipush 119, 2, []) := by decide +kernel
theorem p69_101 : prog 69 101 = some (.invokevirtual 173, 3, [0, 68, 2, 9]) := by decide +kernel
theorem p69_104 : prog 69 104 = some (.aload_n 0, 1, []) := by decide +kernel
theorem p69_105 : prog 69 105 = some (.aload_n 0, 1, []) := by decide +kernel
theorem p69_106 : prog 69 106 = some (.getfield 64, 3, [9, 20, 1]) := by decide +kernel
theorem p69_109 : prog 69 109 = some (.iload_n 1, 1, []) := by decide +kernel
theorem p69_110 : prog 69 110 = some (.iaload, 1, []) := by decide +kernel
theorem p69_111 : prog 69 111 = some (.invokevirtual 167, 3, [0, 64, 2, 9]) := by decide +kernel
theorem p69_114 : prog 69 114 = some (.aload_n 0, 1, []) := by decide +kernel
theorem p69_115 : prog 69 115 = some (.bipush 44, 2, []) := by decide +kernel
theorem p69_117 : prog 69 117 = some (.invokevirtual 161, 3, [0, 63, 2, 9]) := by decide +kernel
theorem p69_120 : prog 69 120 = some (.aload_n 0, 1, []) := by decide +kernel
theorem p69_121 : prog 69 121 = some (.bipush 110, 2, []) := by decide +kernel
theorem p69_123 : prog 69 123 = some (.invokevirtual 173, 3, [0, 68, 2, 9]) := by decide +kernel
theorem p69_126 : prog 69 126 = some (.aload_n 0, 1, []) := by decide +kernel
theorem p69_127 : prog 69 127 = some (.bipush 34, 2, []) := by decide +kernel
theorem p69_129 : prog 69 129 = some (.invokevirtual 161, 3, [0, 63, 2, 9]) := by decide +kernel
theorem p69_132 : prog 69 132 = some (.aload_n 0, 1, []) := by decide +kernel
theorem p69_133 : prog 69 133 = some (.iload_n 1, 1, []) := by decide +kernel
theorem p69_134 : prog 69 134 = some (.invokevirtual 164, 3, [0, 65, 2, 9]) := by decide +kernel
theorem p69_137 : prog 69 137 = some (.aload_n 0, 1, []) := by decide +kernel
theorem p69_138 : prog 69 138 = some (.bipush 34, 2, []) := by decide +kernel
theorem p69_140 : prog 69 140 = some (.invokevirtual 161, 3, [0, 63, 2, 9]) := by decide +kernel
theorem p69_143 : prog 69 143 = some (.aload_n 0, 1, []) := by decide +kernel
theorem p69_144 : prog 69 144 = some (.bipush 44, 2, []) := by decide +kernel
theorem p69_146 : prog 69 146 = some (.invokevirtual 161, 3, [0, 63, 2, 9]) := by decide +kernel
theorem p69_149 : prog 69 149 = some (.aload_n 0, 1, []) := by decide +kernel
theorem p69_150 : prog 69 150 = some (.bipush 99, 2, []) := by decide +kernel
theorem p69_152 : prog 69 152 = some (.invokevirtual 173, 3, [0, 68, 2, 9]) := by decide +kernel
theorem p69_155 : prog 69 155 = some (.aload_n 0, 1, []) := by decide +kernel
theorem p69_156 : prog 69 156 = some (.aload_n 0, 1, []) := by decide +kernel
theorem p69_157 : prog 69 157 = some (.getfield 55, 3, [9, 17, 1]) := by decide +kernel
theorem p69_160 : prog 69 160 = some (.iload_n 1, 1, []) := by decide +kernel
theorem p69_161 : prog 69 161 = some (.iaload, 1, []) := by decide +kernel
theorem p69_162 : prog 69 162 = some (.invokevirtual 167, 3, [0, 64, 2, 9]) := by decide +kernel
theorem p69_165 : prog 69 165 = some (.aload_n 0, 1, []) := by decide +kernel
theorem p69_166 : prog 69 166 = some (.bipush 125, 2, []) := by decide +kernel
theorem p69_168 : prog 69 168 = some (.invokevirtual 161, 3, [0, 63, 2, 9]) := by decide +kernel
theorem p69_171 : prog 69 171 = some (.iinc 1 1, 3, []) := by decide +kernel
theorem p69_174 : prog 69 174 = some (.goto (-100), 3, [74]) := by decide +kernel
theorem p69_177 : prog 69 177 = some (.aload_n 0, 1, []) := by decide +kernel
theorem p69_178 : prog 69 178 = some (.bipush 93, 2, []) := by decide +kernel
theorem p69_180 : prog 69 180 = some (.invokevirtual 161, 3, [0, 63, 2, 9]) := by decide +kernel
theorem p69_183 : prog 69 183 = some (.aload_n 0, 1, []) := by decide +kernel
theorem p69_184 : prog 69 184 = some (.bipush 44, 2, []) := by decide +kernel
theorem p69_186 : prog 69 186 = some (.invokevirtual 161, 3, [0, 63, 2, 9]) := by decide +kernel
theorem p69_189 : prog 69 189 = some (.aload_n 0, 1, []) := by decide +kernel
theorem p69_190 : prog 69 190 = some (.bipush 34, 2, []) := by decide +kernel
theorem p69_192 : prog 69 192 = some (.invokevirtual 161, 3, [0, 63, 2, 9]) := by decide +kernel
theorem p69_195 : prog 69 195 = some (.aload_n 0, 1, []) := by decide +kernel
theorem p69_196 : prog 69 196 = some (.bipush 97, 2, []) := by decide +kernel
theorem p69_198 : prog 69 198 = some (.invokevirtual 161, 3, [0, 63, 2, 9]) := by decide +kernel
theorem p69_201 : prog 69 201 = some (.aload_n 0, 1, []) := by decide +kernel
theorem p69_202 : prog 69 202 = some (.bipush 100, 2, []) := by decide +kernel
theorem p69_204 : prog 69 204 = some (.invokevirtual 161, 3, [0, 63, 2, 9]) := by decide +kernel
theorem p69_207 : prog 69 207 = some (.aload_n 0, 1, []) := by decide +kernel
theorem p69_208 : prog 69 208 = some (.bipush 118, 2, []) := by decide +kernel
theorem p69_210 : prog 69 210 = some (.invokevirtual 161, 3, [0, 63, 2, 9]) := by decide +kernel
theorem p69_213 : prog 69 213 = some (.aload_n 0, 1, []) := by decide +kernel
theorem p69_214 : prog 69 214 = some (.bipush 105, 2, []) := by decide +kernel
theorem p69_216 : prog 69 216 = some (.invokevirtual 161, 3, [0, 63, 2, 9]) := by decide +kernel
theorem p69_219 : prog 69 219 = some (.aload_n 0, 1, []) := by decide +kernel
theorem p69_220 : prog 69 220 = some (.bipush 99, 2, []) := by decide +kernel
theorem p69_222 : prog 69 222 = some (.invokevirtual 161, 3, [0, 63, 2, 9]) := by decide +kernel
theorem p69_225 : prog 69 225 = some (.aload_n 0, 1, []) := by decide +kernel
theorem p69_226 : prog 69 226 = some (.bipush 101, 2, []) := by decide +kernel
theorem p69_228 : prog 69 228 = some (.invokevirtual 161, 3, [0, 63, 2, 9]) := by decide +kernel
theorem p69_231 : prog 69 231 = some (.aload_n 0, 1, []) := by decide +kernel
theorem p69_232 : prog 69 232 = some (.bipush 34, 2, []) := by decide +kernel
theorem p69_234 : prog 69 234 = some (.invokevirtual 161, 3, [0, 63, 2, 9]) := by decide +kernel
theorem p69_237 : prog 69 237 = some (.aload_n 0, 1, []) := by decide +kernel
theorem p69_238 : prog 69 238 = some (.bipush 58, 2, []) := by decide +kernel
theorem p69_240 : prog 69 240 = some (.invokevirtual 161, 3, [0, 63, 2, 9]) := by decide +kernel
theorem p69_243 : prog 69 243 = some (.aload_n 0, 1, []) := by decide +kernel
theorem p69_244 : prog 69 244 = some (.bipush 34, 2, []) := by decide +kernel
theorem p69_246 : prog 69 246 = some (.invokevirtual 161, 3, [0, 63, 2, 9]) := by decide +kernel
theorem p69_249 : prog 69 249 = some (.aload_n 0, 1, []) := by decide +kernel
theorem p69_250 : prog 69 250 = some (.invokevirtual 176, 3, [0, 71, 1, 9]) := by decide +kernel
theorem p69_253 : prog 69 253 = some (.istore_n 1, 1, []) := by decide +kernel
theorem p69_254 : prog 69 254 = some (.aload_n 0, 1, []) := by decide +kernel
theorem p69_255 : prog 69 255 = some (.iload_n 1, 1, []) := by decide +kernel
theorem p69_256 : prog 69 256 = some (.ldc 180, 2, [0, 1000000]) := by decide +kernel
theorem p69_258 : prog 69 258 = some (.idiv, 1, []) := by decide +kernel
theorem p69_259 : prog 69 259 = some (.invokevirtual 167, 3, [0, 64, 2, 9]) := by decide +kernel
theorem p69_262 : prog 69 262 = some (.aload_n 0, 1, []) := by decide +kernel
theorem p69_263 : prog 69 263 = some (.bipush 46, 2, []) := by decide +kernel
theorem p69_265 : prog 69 265 = some (.invokevirtual 161, 3, [0, 63, 2, 9]) := by decide +kernel
theorem p69_268 : prog 69 268 = some (.aload_n 0, 1, []) := by decide +kernel
theorem p69_269 : prog 69 269 = some (.iload_n 1, 1, []) := by decide +kernel
theorem p69_270 : prog 69 270 = some (.sipush 1000, 3, []) := by decide +kernel
theorem p69_273 : prog 69 273 = some (.idiv, 1, []) := by decide +kernel
theorem p69_274 : prog 69 274 = some (.sipush 1000, 3, []) := by decide +kernel
theorem p69_277 : prog 69 277 = some (.irem, 1, []) := by decide +kernel
theorem p69_278 : prog 69 278 = some (.invokevirtual 167, 3, [0, 64, 2, 9]) := by decide +kernel
theorem p69_281 : prog 69 281 = some (.aload_n 0, 1, []) := by decide +kernel
theorem p69_282 : prog 69 282 = some (.bipush 46, 2, []) := by decide +kernel
theorem p69_284 : prog 69 284 = some (.invokevirtual 161, 3, [0, 63, 2, 9]) := by decide +kernel
theorem p69_287 : prog 69 287 = some (.aload_n 0, 1, []) := by decide +kernel
theorem p69_288 : prog 69 288 = some (.iload_n 1, 1, []) := by decide +kernel
theorem p69_289 : prog 69 289 = some (.sipush 1000, 3, []) := by decide +kernel
theorem p69_292 : prog 69 292 = some (.irem, 1, []) := by decide +kernel
theorem p69_293 : prog 69 293 = some (.invokevirtual 167, 3, [0, 64, 2, 9]) := by decide +kernel
theorem p69_296 : prog 69 296 = some (.aload_n 0, 1, []) := by decide +kernel
theorem p69_297 : prog 69 297 = some (.bipush 34, 2, []) := by decide +kernel
theorem p69_299 : prog 69 299 = some (.invokevirtual 161, 3, [0, 63, 2, 9]) := by decide +kernel
theorem p69_302 : prog 69 302 = some (.aload_n 0, 1, []) := by decide +kernel
theorem p69_303 : prog 69 303 = some (.bipush 125, 2, []) := by decide +kernel
theorem p69_305 : prog 69 305 = some (.invokevirtual 161, 3, [0, 63, 2, 9]) := by decide +kernel
theorem p69_308 : prog 69 308 = some (.return_, 1, []) := by decide +kernel
theorem p70_0 : prog 70 0 = some (.aload_n 0, 1, []) := by decide +kernel
theorem p70_1 : prog 70 1 = some (.invokevirtual 149, 3, [0, 59, 1, 9]) := by decide +kernel
theorem p70_4 : prog 70 4 = some (.aload_n 0, 1, []) := by decide +kernel
theorem p70_5 : prog 70 5 = some (.iload_n 2, 1, []) := by decide +kernel
theorem p70_6 : prog 70 6 = some (.putfield 155, 3, [9, 25, 0]) := by decide +kernel
theorem p70_9 : prog 70 9 = some (.aload_n 0, 1, []) := by decide +kernel
theorem p70_10 : prog 70 10 = some (.iconst 0, 1, []) := by decide +kernel
theorem p70_11 : prog 70 11 = some (.putfield 152, 3, [9, 26, 0]) := by decide +kernel
theorem p70_14 : prog 70 14 = some (.aload_n 0, 1, []) := by decide +kernel
theorem p70_15 : prog 70 15 = some (.bipush (-2), 2, []) := by decide +kernel
theorem p70_17 : prog 70 17 = some (.putfield 158, 3, [9, 27, 0]) := by decide +kernel
theorem p70_20 : prog 70 20 = some (.iload_n 1, 1, []) := by decide +kernel
theorem p70_21 : prog 70 21 = some (.ifCond .eq 10, 3, [31]) := by decide +kernel
theorem p70_24 : prog 70 24 = some (.aload_n 0, 1, []) := by decide +kernel
theorem p70_25 : prog 70 25 = some (.invokevirtual 181, 3, [0, 69, 1, 9]) := by decide +kernel
theorem p70_28 : prog 70 28 = some (.goto 7, 3, [35]) := by decide +kernel
theorem p70_31 : prog 70 31 = some (.aload_n 0, 1, []) := by decide +kernel
theorem p70_32 : prog 70 32 = some (.invokevirtual 184, 3, [0, 67, 1, 9]) := by decide +kernel
theorem p70_35 : prog 70 35 = some (.iload_n 2, 1, []) := by decide +kernel
theorem p70_36 : prog 70 36 = some (.iconst (-1), 1, []) := by decide +kernel
theorem p70_37 : prog 70 37 = some (.if_icmp .ne 10, 3, [47]) := by decide +kernel
theorem p70_40 : prog 70 40 = some (.aload_n 0, 1, []) := by decide +kernel
theorem p70_41 : prog 70 41 = some (.getfield 152, 3, [9, 26, 0]) := by decide +kernel
theorem p70_44 : prog 70 44 = some (.goto 7, 3, [51]) := by decide +kernel
theorem p70_47 : prog 70 47 = some (.aload_n 0, 1, []) := by decide +kernel
theorem p70_48 : prog 70 48 = some (.getfield 158, 3, [9, 27, 0]) := by decide +kernel
theorem p70_51 : prog 70 51 = some (.ireturn, 1, [0]) := by decide +kernel
theorem p71_0 : prog 71 0 = some (.ldc 180, 2, [0, 1000000]) := by decide +kernel
theorem p71_2 : prog 71 2 = some (.aload_n 0, 1, []) := by decide +kernel
theorem p71_3 : prog 71 3 = some (.getfield 51, 3, [9, 14, 0]) := by decide +kernel
theorem p71_6 : prog 71 6 = some (.imul, 1, []) := by decide +kernel
theorem p71_7 : prog 71 7 = some (.sipush 1000, 3, []) := by decide +kernel
theorem p71_10 : prog 71 10 = some (.aload_n 0, 1, []) := by decide +kernel
theorem p71_11 : prog 71 11 = some (.getfield 91, 3, [9, 15, 0]) := by decide +kernel
theorem p71_14 : prog 71 14 = some (.imul, 1, []) := by decide +kernel
theorem p71_15 : prog 71 15 = some (.iadd, 1, []) := by decide +kernel
theorem p71_16 : prog 71 16 = some (.aload_n 0, 1, []) := by decide +kernel
theorem p71_17 : prog 71 17 = some (.getfield 94, 3, [9, 16, 0]) := by decide +kernel
theorem p71_20 : prog 71 20 = some (.iadd, 1, []) := by decide +kernel
theorem p71_21 : prog 71 21 = some (.istore_n 1, 1, []) := by decide +kernel
theorem p71_22 : prog 71 22 = some (.iconst 0, 1, []) := by decide +kernel
theorem p71_23 : prog 71 23 = some (.istore_n 2, 1, []) := by decide +kernel
theorem p71_24 : prog 71 24 = some (.iconst 0, 1, []) := by decide +kernel
theorem p71_25 : prog 71 25 = some (.istore_n 3, 1, []) := by decide +kernel
theorem p71_26 : prog 71 26 = some (.iload_n 3, 1, []) := by decide +kernel
theorem p71_27 : prog 71 27 = some (.aload_n 0, 1, []) := by decide +kernel
theorem p71_28 : prog 71 28 = some (.getfield 115, 3, [9, 22, 0]) := by decide +kernel
theorem p71_31 : prog 71 31 = some (.if_icmp .ge 60, 3, [91]) := by decide +kernel
theorem p71_34 : prog 71 34 = some (.aload_n 0, 1, []) := by decide +kernel
theorem p71_35 : prog 71 35 = some (.getfield 55, 3, [9, 17, 1]) := by decide +kernel
theorem p71_38 : prog 71 38 = some (.iload_n 3, 1, []) := by decide +kernel
theorem p71_39 : prog 71 39 = some (.iaload, 1, []) := by decide +kernel
theorem p71_40 : prog 71 40 = some (.istore 4, 2, []) := by decide +kernel
theorem p71_42 : prog 71 42 = some (.iload 4, 2, []) := by decide +kernel
theorem p71_44 : prog 71 44 = some (.iconst 3, 1, []) := by decide +kernel
theorem p71_45 : prog 71 45 = some (.if_icmp .eq 38, 3, [83]) := by decide +kernel
theorem p71_48 : prog 71 48 = some (.iload 4, 2, []) := by decide +kernel
theorem p71_50 : prog 71 50 = some (.bipush 11, 2, []) := by decide +kernel
theorem p71_52 : prog 71 52 = some (.if_icmp .eq 31, 3, [83]) := by decide +kernel
theorem p71_55 : prog 71 55 = some (.iload 4, 2, []) := by decide +kernel
theorem p71_57 : prog 71 57 = some (.bipush 23, 2, []) := by decide +kernel
theorem p71_59 : prog 71 59 = some (.if_icmp .eq 24, 3, [83]) := by decide +kernel
theorem p71_62 : prog 71 62 = some (.iload 4, 2, []) := by decide +kernel
theorem p71_64 : prog 71 64 = some (.bipush 24, 2, []) := by decide +kernel
theorem p71_66 : prog 71 66 = some (.if_icmp .eq 17, 3, [83]) := by decide +kernel
theorem p71_69 : prog 71 69 = some (.iload 4, 2, []) := by decide +kernel
theorem p71_71 : prog 71 71 = some (.bipush 25, 2, []) := by decide +kernel
theorem p71_73 : prog 71 73 = some (.if_icmp .eq 10, 3, [83]) := by decide +kernel
theorem p71_76 : prog 71 76 = some (.iload 4, 2, []) := by decide +kernel
theorem p71_78 : prog 71 78 = some (.bipush 33, 2, []) := by decide +kernel
theorem p71_80 : prog 71 80 = some (.if_icmp .ne 5, 3, [85]) := by decide +kernel
theorem p71_83 : prog 71 83 = some (.iconst 1, 1, []) := by decide +kernel
theorem p71_84 : prog 71 84 = some (.istore_n 2, 1, []) := by decide +kernel
theorem p71_85 : prog 71 85 = some (.iinc 3 1, 3, []) := by decide +kernel
theorem p71_88 : prog 71 88 = some (.goto (-62), 3, [26]) := by decide +kernel
theorem p71_91 : prog 71 91 = some (.aload_n 0, 1, []) := by decide +kernel
theorem p71_92 : prog 71 92 = some (.iconst 3, 1, []) := by decide +kernel
theorem p71_93 : prog 71 93 = some (.invokevirtual 170, 3, [0, 66, 2, 9]) := by decide +kernel
theorem p71_96 : prog 71 96 = some (.ifCond .le 20, 3, [116]) := by decide +kernel
theorem p71_99 : prog 71 99 = some (.aload_n 0, 1, []) := by decide +kernel
theorem p71_100 : prog 71 100 = some (.getfield 51, 3, [9, 14, 0]) := by decide +kernel
theorem p71_103 : prog 71 103 = some (.ifCond .le 13, 3, [116]) := by decide +kernel
theorem p71_106 : prog 71 106 = some (.ldc 180, 2, [0, 1000000]) := by decide +kernel
theorem p71_108 : prog 71 108 = some (.aload_n 0, 1, []) := by decide +kernel
theorem p71_109 : prog 71 109 = some (.getfield 51, 3, [9, 14, 0]) := by decide +kernel
theorem p71_112 : prog 71 112 = some (.iconst 1, 1, []) := by decide +kernel
theorem p71_113 : prog 71 113 = some (.iadd, 1, []) := by decide +kernel
theorem p71_114 : prog 71 114 = some (.imul, 1, []) := by decide +kernel
theorem p71_115 : prog 71 115 = some (.ireturn, 1, [0]) := by decide +kernel
theorem p71_116 : prog 71 116 = some (.aload_n 0, 1, []) := by decide +kernel
theorem p71_117 : prog 71 117 = some (.iconst 3, 1, []) := by decide +kernel
theorem p71_118 : prog 71 118 = some (.invokevirtual 170, 3, [0, 66, 2, 9]) := by decide +kernel
theorem p71_121 : prog 71 121 = some (.ifCond .gt 7, 3, [128]) := by decide +kernel
theorem p71_124 : prog 71 124 = some (.iload_n 2, 1, []) := by decide +kernel
theorem p71_125 : prog 71 125 = some (.ifCond .eq 22, 3, [147]) := by decide +kernel
theorem p71_128 : prog 71 128 = some (.ldc 180, 2, [0, 1000000]) := by decide +kernel
theorem p71_130 : prog 71 130 = some (.aload_n 0, 1, []) := by decide +kernel
theorem p71_131 : prog 71 131 = some (.getfield 51, 3, [9, 14, 0]) := by decide +kernel
theorem p71_134 : prog 71 134 = some (.imul, 1, []) := by decide +kernel
theorem p71_135 : prog 71 135 = some (.sipush 1000, 3, []) := by decide +kernel
theorem p71_138 : prog 71 138 = some (.aload_n 0, 1, []) := by decide +kernel
theorem p71_139 : prog 71 139 = some (.getfield 91, 3, [9, 15, 0]) := by decide +kernel
theorem p71_142 : prog 71 142 = some (.iconst 1, 1, []) := by decide +kernel
theorem p71_143 : prog 71 143 = some (.iadd, 1, []) := by decide +kernel
theorem p71_144 : prog 71 144 = some (.imul, 1, []) := by decide +kernel
theorem p71_145 : prog 71 145 = some (.iadd, 1, []) := by decide +kernel
theorem p71_146 : prog 71 146 = some (.ireturn, 1, [0]) := by decide +kernel
theorem p71_147 : prog 71 147 = some (.iload_n 1, 1, []) := by decide +kernel
theorem p71_148 : prog 71 148 = some (.iconst 1, 1, []) := by decide +kernel
theorem p71_149 : prog 71 149 = some (.iadd, 1, []) := by decide +kernel
theorem p71_150 : prog 71 150 = some (.ireturn, 1, [0]) := by decide +kernel
theorem p72_0 : prog 72 0 = some (.aload_n 0, 1, []) := by decide +kernel
theorem p72_1 : prog 72 1 = some (.invokevirtual 149, 3, [0, 59, 1, 9]) := by decide +kernel
theorem p72_4 : prog 72 4 = some (.aload_n 0, 1, []) := by decide +kernel
theorem p72_5 : prog 72 5 = some (.invokevirtual 176, 3, [0, 71, 1, 9]) := by decide +kernel
theorem p72_8 : prog 72 8 = some (.ireturn, 1, [0]) := by decide +kernel
theorem p73_0 : prog 73 0 = some (.iload_n 1, 1, []) := by decide +kernel
theorem p73_1 : prog 73 1 = some (.iconst 0, 1, []) := by decide +kernel
theorem p73_2 : prog 73 2 = some (.sipush 999, 3, []) := by decide +kernel
theorem p73_5 : prog 73 5 = some (.invokestatic 76, 3, [1, 32, 3]) := by decide +kernel
theorem p73_8 : prog 73 8 = some (.ifCond .eq 25, 3, [33]) := by decide +kernel
theorem p73_11 : prog 73 11 = some (.iload_n 2, 1, []) := by decide +kernel
theorem p73_12 : prog 73 12 = some (.iconst 0, 1, []) := by decide +kernel
theorem p73_13 : prog 73 13 = some (.sipush 999, 3, []) := by decide +kernel
theorem p73_16 : prog 73 16 = some (.invokestatic 76, 3, [1, 32, 3]) := by decide +kernel
theorem p73_19 : prog 73 19 = some (.ifCond .eq 14, 3, [33]) := by decide +kernel
theorem p73_22 : prog 73 22 = some (.iload_n 3, 1, []) := by decide +kernel
theorem p73_23 : prog 73 23 = some (.iconst 0, 1, []) := by decide +kernel
theorem p73_24 : prog 73 24 = some (.sipush 999, 3, []) := by decide +kernel
theorem p73_27 : prog 73 27 = some (.invokestatic 76, 3, [1, 32, 3]) := by decide +kernel
theorem p73_30 : prog 73 30 = some (.ifCond .ne 5, 3, [35]) := by decide +kernel
theorem p73_33 : prog 73 33 = some (.iconst (-1), 1, []) := by decide +kernel
theorem p73_34 : prog 73 34 = some (.ireturn, 1, [0]) := by decide +kernel
theorem p73_35 : prog 73 35 = some (.aload_n 0, 1, []) := by decide +kernel
theorem p73_36 : prog 73 36 = some (.invokevirtual 149, 3, [0, 59, 1, 9]) := by decide +kernel
theorem p73_39 : prog 73 39 = some (.ldc 180, 2, [0, 1000000]) := by decide +kernel
theorem p73_41 : prog 73 41 = some (.iload_n 1, 1, []) := by decide +kernel
theorem p73_42 : prog 73 42 = some (.imul, 1, []) := by decide +kernel
theorem p73_43 : prog 73 43 = some (.sipush 1000, 3, []) := by decide +kernel
theorem p73_46 : prog 73 46 = some (.iload_n 2, 1, []) := by decide +kernel
theorem p73_47 : prog 73 47 = some (.imul, 1, []) := by decide +kernel
theorem p73_48 : prog 73 48 = some (.iadd, 1, []) := by decide +kernel
theorem p73_49 : prog 73 49 = some (.iload_n 3, 1, []) := by decide +kernel
theorem p73_50 : prog 73 50 = some (.iadd, 1, []) := by decide +kernel
theorem p73_51 : prog 73 51 = some (.istore 4, 2, []) := by decide +kernel
theorem p73_53 : prog 73 53 = some (.ldc 180, 2, [0, 1000000]) := by decide +kernel
theorem p73_55 : prog 73 55 = some (.aload_n 0, 1, []) := by decide +kernel
theorem p73_56 : prog 73 56 = some (.getfield 51, 3, [9, 14, 0]) := by decide +kernel
theorem p73_59 : prog 73 59 = some (.imul, 1, []) := by decide +kernel
theorem p73_60 : prog 73 60 = some (.sipush 1000, 3, []) := by decide +kernel
theorem p73_63 : prog 73 63 = some (.aload_n 0, 1, []) := by decide +kernel
theorem p73_64 : prog 73 64 = some (.getfield 91, 3, [9, 15, 0]) := by decide +kernel
theorem p73_67 : prog 73 67 = some (.imul, 1, []) := by decide +kernel
theorem p73_68 : prog 73 68 = some (.iadd, 1, []) := by decide +kernel
theorem p73_69 : prog 73 69 = some (.aload_n 0, 1, []) := by decide +kernel
theorem p73_70 : prog 73 70 = some (.getfield 94, 3, [9, 16, 0]) := by decide +kernel
theorem p73_73 : prog 73 73 = some (.iadd, 1, []) := by decide +kernel
theorem p73_74 : prog 73 74 = some (.istore 5, 2, []) := by decide +kernel
theorem p73_76 : prog 73 76 = some (.iload 4, 2, []) := by decide +kernel
theorem p73_78 : prog 73 78 = some (.aload_n 0, 1, []) := by decide +kernel
theorem p73_79 : prog 73 79 = some (.invokevirtual 176, 3, [0, 71, 1, 9]) := by decide +kernel
theorem p73_82 : prog 73 82 = some (.if_icmp .lt 7, 3, [89]) := by decide +kernel
theorem p73_85 : prog 73 85 = some (.iconst 0, 1, []) := by decide +kernel
theorem p73_86 : prog 73 86 = some (.goto 15, 3, [101]) := by decide +kernel
theorem p73_89 : prog 73 89 = some (.iload 4, 2, []) := by decide +kernel
theorem p73_91 : prog 73 91 = some (.iload 5, 2, []) := by decide +kernel
theorem p73_93 : prog 73 93 = some (.if_icmp .le 7, 3, [100]) := by decide +kernel
theorem p73_96 : prog 73 96 = some (.iconst 1, 1, []) := by decide +kernel
theorem p73_97 : prog 73 97 = some (.goto 4, 3, [101]) := by decide +kernel
theorem p73_100 : prog 73 100 = some (.iconst 2, 1, []) := by decide +kernel
theorem p73_101 : prog 73 101 = some (.istore 6, 2, []) := by decide +kernel
theorem p73_103 : prog 73 103 = some (.iload 6, 2, []) := by decide +kernel
theorem p73_105 : prog 73 105 = some (.aload_n 0, 1, []) := by decide +kernel
theorem p73_106 : prog 73 106 = some (.iconst 3, 1, []) := by decide +kernel
theorem p73_107 : prog 73 107 = some (.invokevirtual 170, 3, [0, 66, 2, 9]) := by decide +kernel
theorem p73_110 : prog 73 110 = some (.ifCond .le 7, 3, [117]) := by decide +kernel
theorem p73_113 : prog 73 113 = some (.iconst 4, 1, []) := by decide +kernel
theorem p73_114 : prog 73 114 = some (.goto 4, 3, [118]) := by decide +kernel
theorem p73_117 : prog 73 117 = some (.iconst 0, 1, []) := by decide +kernel
theorem p73_118 : prog 73 118 = some (.iadd, 1, []) := by decide +kernel
theorem p73_119 : prog 73 119 = some (.aload_n 0, 1, []) := by decide +kernel
theorem p73_120 : prog 73 120 = some (.iconst 2, 1, []) := by decide +kernel
theorem p73_121 : prog 73 121 = some (.invokevirtual 170, 3, [0, 66, 2, 9]) := by decide +kernel
theorem p73_124 : prog 73 124 = some (.ifCond .le 8, 3, [132]) := by decide +kernel
theorem p73_127 : prog 73 127 = some (.bipush 8, 2, []) := by decide +kernel
theorem p73_129 : prog 73 129 = some (.goto 4, 3, [133]) := by decide +kernel
theorem p73_132 : prog 73 132 = some (.iconst 0, 1, []) := by decide +kernel
theorem p73_133 : prog 73 133 = some (.iadd, 1, []) := by decide +kernel
theorem p73_134 : prog 73 134 = some (.ireturn, 1, [0]) := by decide +kernel
theorem p74_0 : prog 74 0 = some (.iload_n 1, 1, []) := by decide +kernel
theorem p74_1 : prog 74 1 = some (.iconst 0, 1, []) := by decide +kernel
theorem p74_2 : prog 74 2 = some (.iconst 1, 1, []) := by decide +kernel
theorem p74_3 : prog 74 3 = some (.invokestatic 76, 3, [1, 32, 3]) := by decide +kernel
theorem p74_6 : prog 74 6 = some (.ifCond .eq 24, 3, [30]) := by decide +kernel
theorem p74_9 : prog 74 9 = some (.iload_n 2, 1, []) := by decide +kernel
theorem p74_10 : prog 74 10 = some (.iconst 0, 1, []) := by decide +kernel
theorem p74_11 : prog 74 11 = some (.bipush 7, 2, []) := by decide +kernel
theorem p74_13 : prog 74 13 = some (.invokestatic 76, 3, [1, 32, 3]) := by decide +kernel
theorem p74_16 : prog 74 16 = some (.ifCond .eq 14, 3, [30]) := by decide +kernel
theorem p74_19 : prog 74 19 = some (.iload 4, 2, []) := by decide +kernel
theorem p74_21 : prog 74 21 = some (.iconst (-1), 1, []) := by decide +kernel
theorem p74_22 : prog 74 22 = some (.bipush 11, 2, []) := by decide +kernel
theorem p74_24 : prog 74 24 = some (.invokestatic 76, 3, [1, 32, 3]) := by decide +kernel
theorem p74_27 : prog 74 27 = some (.ifCond .ne 5, 3, [32]) := by decide +kernel
theorem p74_30 : prog 74 30 = some (.iconst (-1), 1, []) := by decide +kernel
theorem p74_31 : prog 74 31 = some (.ireturn, 1, [0]) := by decide +kernel
theorem p74_32 : prog 74 32 = some (.aload_n 0, 1, []) := by decide +kernel
theorem p74_33 : prog 74 33 = some (.getfield 7, 3, [9, 0, 1]) := by decide +kernel
theorem p74_36 : prog 74 36 = some (.bipush 8, 2, []) := by decide +kernel
theorem p74_38 : prog 74 38 = some (.iload_n 1, 1, []) := by decide +kernel
theorem p74_39 : prog 74 39 = some (.imul, 1, []) := by decide +kernel
theorem p74_40 : prog 74 40 = some (.iload_n 2, 1, []) := by decide +kernel
theorem p74_41 : prog 74 41 = some (.iadd, 1, []) := by decide +kernel
theorem p74_42 : prog 74 42 = some (.baload, 1, []) := by decide +kernel
theorem p74_43 : prog 74 43 = some (.ifCond .ne 6, 3, [49]) := by decide +kernel
theorem p74_46 : prog 74 46 = some (.bipush (-2), 2, []) := by decide +kernel
theorem p74_48 : prog 74 48 = some (.ireturn, 1, [0]) := by decide +kernel
theorem p74_49 : prog 74 49 = some (.iload 4, 2, []) := by decide +kernel
theorem p74_51 : prog 74 51 = some (.ifCond .ge 7, 3, [58]) := by decide +kernel
theorem p74_54 : prog 74 54 = some (.iconst 0, 1, []) := by decide +kernel
theorem p74_55 : prog 74 55 = some (.goto 16, 3, [71]) := by decide +kernel
theorem p74_58 : prog 74 58 = some (.iload_n 3, 1, []) := by decide +kernel
theorem p74_59 : prog 74 59 = some (.ifCond .eq 8, 3, [67]) := by decide +kernel
theorem p74_62 : prog 74 62 = some (.bipush 13, 2, []) := by decide +kernel
theorem p74_64 : prog 74 64 = some (.goto 4, 3, [68]) := by decide +kernel
theorem p74_67 : prog 74 67 = some (.iconst 1, 1, []) := by decide +kernel
theorem p74_68 : prog 74 68 = some (.iload 4, 2, []) := by decide +kernel
theorem p74_70 : prog 74 70 = some (.iadd, 1, []) := by decide +kernel
theorem p74_71 : prog 74 71 = some (.istore 5, 2, []) := by decide +kernel
theorem p74_73 : prog 74 73 = some (.aload_n 0, 1, []) := by decide +kernel
theorem p74_74 : prog 74 74 = some (.bipush 96, 2, []) := by decide +kernel
theorem p74_76 : prog 74 76 = some (.aload_n 0, 1, []) := by decide +kernel
theorem p74_77 : prog 74 77 = some (.getfield 39, 3, [9, 9, 1]) := by decide +kernel
theorem p74_80 : prog 74 80 = some (.bipush 8, 2, []) := by decide +kernel
theorem p74_82 : prog 74 82 = some (.iaload, 1, []) := by decide +kernel
theorem p74_83 : prog 74 83 = some (.iload_n 1, 1, []) := by decide +kernel
theorem p74_84 : prog 74 84 = some (.iload_n 2, 1, []) := by decide +kernel
theorem p74_85 : prog 74 85 = some (.iload 5, 2, []) := by decide +kernel
theorem p74_87 : prog 74 87 = some (.invokevirtual 111, 3, [0, 48, 6, 9]) := by decide +kernel
theorem p74_90 : prog 74 90 = some (.ifCond .eq 7, 3, [97]) := by decide +kernel
theorem p74_93 : prog 74 93 = some (.iconst 1, 1, []) := by decide +kernel
theorem p74_94 : prog 74 94 = some (.goto 4, 3, [98]) := by decide +kernel
theorem p74_97 : prog 74 97 = some (.iconst 0, 1, []) := by decide +kernel
theorem p74_98 : prog 74 98 = some (.ireturn, 1, [0]) := by decide +kernel
theorem p75_0 : prog 75 0 = some (.aload_n 0, 1, []) := by decide +kernel
theorem p75_1 : prog 75 1 = some (.invokespecial 3, 3, [6]) := by decide +kernel
theorem p75_4 : prog 75 4 = some (.aload_n 0, 1, []) := by decide +kernel
theorem p75_5 : prog 75 5 = some (.bipush 8, 2, []) := by decide +kernel
theorem p75_7 : prog 75 7 = some (.newarray .int, 2, [0]) := by decide +kernel
theorem p75_9 : prog 75 9 = some (.putfield 9, 3, [0, 1, 1]) := by decide +kernel
theorem p75_12 : prog 75 12 = some (.aload_n 0, 1, []) := by decide +kernel
theorem p75_13 : prog 75 13 = some (.bipush 8, 2, []) := by decide +kernel
theorem p75_15 : prog 75 15 = some (.newarray .int, 2, [0]) := by decide +kernel
theorem p75_17 : prog 75 17 = some (.putfield 15, 3, [0, 2, 1]) := by decide +kernel
theorem p75_20 : prog 75 20 = some (.aload_n 0, 1, []) := by decide +kernel
theorem p75_21 : prog 75 21 = some (.bipush 8, 2, []) := by decide +kernel
theorem p75_23 : prog 75 23 = some (.newarray .int, 2, [0]) := by decide +kernel
theorem p75_25 : prog 75 25 = some (.putfield 18, 3, [0, 3, 1]) := by decide +kernel
theorem p75_28 : prog 75 28 = some (.aload_n 0, 1, []) := by decide +kernel
theorem p75_29 : prog 75 29 = some (.sipush 192, 3, []) := by decide +kernel
theorem p75_32 : prog 75 32 = some (.newarray .int, 2, [0]) := by decide +kernel
theorem p75_34 : prog 75 34 = some (.putfield 21, 3, [0, 4, 1]) := by decide +kernel
theorem p75_37 : prog 75 37 = some (.aload_n 0, 1, []) := by decide +kernel
theorem p75_38 : prog 75 38 = some (.bipush 8, 2, []) := by decide +kernel
theorem p75_40 : prog 75 40 = some (.newarray .int, 2, [0]) := by decide +kernel
theorem p75_42 : prog 75 42 = some (.putfield 24, 3, [0, 5, 1]) := by decide +kernel
theorem p75_45 : prog 75 45 = some (.aload_n 0, 1, []) := by decide +kernel
theorem p75_46 : prog 75 46 = some (.bipush 96, 2, []) := by decide +kernel
theorem p75_48 : prog 75 48 = some (.newarray .double, 2, [3]) := by decide +kernel
theorem p75_50 : prog 75 50 = some (.putfield 27, 3, [0, 6, 1]) := by decide +kernel
theorem p75_53 : prog 75 53 = some (.aload_n 0, 1, []) := by decide +kernel
theorem p75_54 : prog 75 54 = some (.getfield 21, 3, [0, 4, 1]) := by decide +kernel
theorem p75_57 : prog 75 57 = some (.iconst (-1), 1, []) := by decide +kernel
theorem p75_58 : prog 75 58 = some (.invokestatic 31, 3, [1, 156, 2]) := by decide +kernel
theorem p75_61 : prog 75 61 = some (.return_, 1, []) := by decide +kernel
theorem p76_0 : prog 76 0 = some (.aload_n 0, 1, []) := by decide +kernel
theorem p76_1 : prog 76 1 = some (.dup, 1, []) := by decide +kernel
theorem p76_2 : prog 76 2 = some (.getfield 37, 3, [0, 0, 0]) := by decide +kernel
theorem p76_5 : prog 76 5 = some (.iconst 1, 1, []) := by decide +kernel
theorem p76_6 : prog 76 6 = some (.iload_n 1, 1, []) := by decide +kernel
theorem p76_7 : prog 76 7 = some (.ishl, 1, []) := by decide +kernel
theorem p76_8 : prog 76 8 = some (.ior, 1, []) := by decide +kernel
theorem p76_9 : prog 76 9 = some (.putfield 37, 3, [0, 0, 0]) := by decide +kernel
theorem p76_12 : prog 76 12 = some (.aload_n 0, 1, []) := by decide +kernel
theorem p76_13 : prog 76 13 = some (.getfield 9, 3, [0, 1, 1]) := by decide +kernel
theorem p76_16 : prog 76 16 = some (.iload_n 1, 1, []) := by decide +kernel
theorem p76_17 : prog 76 17 = some (.iload_n 2, 1, []) := by decide +kernel
theorem p76_18 : prog 76 18 = some (.bipush 16, 2, []) := by decide +kernel
theorem p76_20 : prog 76 20 = some (.idiv, 1, []) := by decide +kernel
theorem p76_21 : prog 76 21 = some (.iastore, 1, []) := by decide +kernel
theorem p76_22 : prog 76 22 = some (.aload_n 0, 1, []) := by decide +kernel
theorem p76_23 : prog 76 23 = some (.getfield 15, 3, [0, 2, 1]) := by decide +kernel
theorem p76_26 : prog 76 26 = some (.iload_n 1, 1, []) := by decide +kernel
theorem p76_27 : prog 76 27 = some (.iload_n 2, 1, []) := by decide +kernel
theorem p76_28 : prog 76 28 = some (.bipush 16, 2, []) := by decide +kernel
theorem p76_30 : prog 76 30 = some (.irem, 1, []) := by decide +kernel
theorem p76_31 : prog 76 31 = some (.iastore, 1, []) := by decide +kernel
theorem p76_32 : prog 76 32 = some (.aload_n 0, 1, []) := by decide +kernel
theorem p76_33 : prog 76 33 = some (.getfield 18, 3, [0, 3, 1]) := by decide +kernel
theorem p76_36 : prog 76 36 = some (.iload_n 1, 1, []) := by decide +kernel
theorem p76_37 : prog 76 37 = some (.iload_n 3, 1, []) := by decide +kernel
theorem p76_38 : prog 76 38 = some (.ifCond .ge 8, 3, [46]) := by decide +kernel
theorem p76_41 : prog 76 41 = some (.iload 4, 2, []) := by decide +kernel
theorem p76_43 : prog 76 43 = some (.goto 9, 3, [52]) := by decide +kernel
theorem p76_46 : prog 76 46 = some (.iload 4, 2, []) := by decide +kernel
theorem p76_48 : prog 76 48 = some (.iconst 1, 1, []) := by decide +kernel
theorem p76_49 : prog 76 49 = some (.iload_n 3, 1, []) := by decide +kernel
theorem p76_50 : prog 76 50 = some (.ishl, 1, []) := by decide +kernel
theorem p76_51 : prog 76 51 = some (.ior, 1, []) := by decide +kernel
theorem p76_52 : prog 76 52 = some (.iastore, 1, []) := by decide +kernel
theorem p76_53 : prog 76 53 = some (.return_, 1, []) := by decide +kernel
theorem p77_0 : prog 77 0 = some (.aload_n 0, 1, []) := by decide +kernel
theorem p77_1 : prog 77 1 = some (.dup, 1, []) := by decide +kernel
theorem p77_2 : prog 77 2 = some (.getfield 37, 3, [0, 0, 0]) := by decide +kernel
theorem p77_5 : prog 77 5 = some (.iconst 1, 1, []) := by decide +kernel
theorem p77_6 : prog 77 6 = some (.iload_n 1, 1, []) := by decide +kernel
theorem p77_7 : prog 77 7 = some (.ishl, 1, []) := by decide +kernel
theorem p77_8 : prog 77 8 = some (.iconst (-1), 1, []) := by decide +kernel
theorem p77_9 : prog 77 9 = some (.ixor, 1, []) := by decide +kernel
theorem p77_10 : prog 77 10 = some (.iand, 1, []) := by decide +kernel
theorem p77_11 : prog 77 11 = some (.putfield 37, 3, [0, 0, 0]) := by decide +kernel
theorem p77_14 : prog 77 14 = some (.iconst 0, 1, []) := by decide +kernel
theorem p77_15 : prog 77 15 = some (.istore_n 2, 1, []) := by decide +kernel
theorem p77_16 : prog 77 16 = some (.iload_n 2, 1, []) := by decide +kernel
theorem p77_17 : prog 77 17 = some (.bipush 24, 2, []) := by decide +kernel
theorem p77_19 : prog 77 19 = some (.if_icmp .ge 16, 3, [35]) := by decide +kernel
theorem p77_22 : prog 77 22 = some (.aload_n 0, 1, []) := by decide +kernel
theorem p77_23 : prog 77 23 = some (.iload_n 1, 1, []) := by decide +kernel
theorem p77_24 : prog 77 24 = some (.iload_n 2, 1, []) := by decide +kernel
theorem p77_25 : prog 77 25 = some (.iconst (-1), 1, []) := by decide +kernel
theorem p77_26 : prog 77 26 = some (.invokevirtual 41, 3, [0, 78, 4, 0]) := by decide +kernel
theorem p77_29 : prog 77 29 = some (.iinc 2 1, 3, []) := by decide +kernel
theorem p77_32 : prog 77 32 = some (.goto (-16), 3, [16]) := by decide +kernel
theorem p77_35 : prog 77 35 = some (.return_, 1, []) := by decide +kernel
theorem p78_0 : prog 78 0 = some (.aload_n 0, 1, []) := by decide +kernel
theorem p78_1 : prog 78 1 = some (.getfield 21, 3, [0, 4, 1]) := by decide +kernel
theorem p78_4 : prog 78 4 = some (.iload_n 1, 1, []) := by decide +kernel
theorem p78_5 : prog 78 5 = some (.bipush 24, 2, []) := by decide +kernel
theorem p78_7 : prog 78 7 = some (.imul, 1, []) := by decide +kernel
theorem p78_8 : prog 78 8 = some (.iload_n 2, 1, []) := by decide +kernel
theorem p78_9 : prog 78 9 = some (.iadd, 1, []) := by decide +kernel
theorem p78_10 : prog 78 10 = some (.iload_n 3, 1, []) := by decide +kernel
theorem p78_11 : prog 78 11 = some (.iastore, 1, []) := by decide +kernel
theorem p78_12 : prog 78 12 = some (.aload_n 0, 1, []) := by decide +kernel
theorem p78_13 : prog 78 13 = some (.getfield 24, 3, [0, 5, 1]) := by decide +kernel
theorem p78_16 : prog 78 16 = some (.iload_n 1, 1, []) := by decide +kernel
theorem p78_17 : prog 78 17 = some (.dup2, 1, []) := by decide +kernel
theorem p78_18 : prog 78 18 = some (.iaload, 1, []) := by decide +kernel
theorem p78_19 : prog 78 19 = some (.iconst 1, 1, []) := by decide +kernel
theorem p78_20 : prog 78 20 = some (.iload_n 2, 1, []) := by decide +kernel
theorem p78_21 : prog 78 21 = some (.ishl, 1, []) := by decide +kernel
theorem p78_22 : prog 78 22 = some (.iconst (-1), 1, []) := by decide +kernel
theorem p78_23 : prog 78 23 = some (.ixor, 1, []) := by decide +kernel
theorem p78_24 : prog 78 24 = some (.iand, 1, []) := by decide +kernel
theorem p78_25 : prog 78 25 = some (.iastore, 1, []) := by decide +kernel
theorem p78_26 : prog 78 26 = some (.return_, 1, []) := by decide +kernel
theorem p79_0 : prog 79 0 = some (.aload_n 0, 1, []) := by decide +kernel
theorem p79_1 : prog 79 1 = some (.getfield 27, 3, [0, 6, 1]) := by decide +kernel
theorem p79_4 : prog 79 4 = some (.iload_n 1, 1, []) := by decide +kernel
theorem p79_5 : prog 79 5 = some (.bipush 12, 2, []) := by decide +kernel
theorem p79_7 : prog 79 7 = some (.imul, 1, []) := by decide +kernel
theorem p79_8 : prog 79 8 = some (.iload_n 2, 1, []) := by decide +kernel
theorem p79_9 : prog 79 9 = some (.iadd, 1, []) := by decide +kernel
theorem p79_10 : prog 79 10 = some (.dload_n 3, 1, []) := by decide +kernel
theorem p79_11 : prog 79 11 = some (.dastore, 1, []) := by decide +kernel
theorem p79_12 : prog 79 12 = some (.aload_n 0, 1, []) := by decide +kernel
theorem p79_13 : prog 79 13 = some (.getfield 24, 3, [0, 5, 1]) := by decide +kernel
theorem p79_16 : prog 79 16 = some (.iload_n 1, 1, []) := by decide +kernel
theorem p79_17 : prog 79 17 = some (.dup2, 1, []) := by decide +kernel
theorem p79_18 : prog 79 18 = some (.iaload, 1, []) := by decide +kernel
theorem p79_19 : prog 79 19 = some (.iconst 1, 1, []) := by decide +kernel
theorem p79_20 : prog 79 20 = some (.iload_n 2, 1, []) := by decide +kernel
theorem p79_21 : prog 79 21 = some (.ishl, 1, []) := by decide +kernel
theorem p79_22 : prog 79 22 = some (.ior, 1, []) := by decide +kernel
theorem p79_23 : prog 79 23 = some (.iastore, 1, []) := by decide +kernel
theorem p79_24 : prog 79 24 = some (.return_, 1, []) := by decide +kernel
theorem p80_0 : prog 80 0 = some (.aload_n 0, 1, []) := by decide +kernel
theorem p80_1 : prog 80 1 = some (.aload_n 1, 1, []) := by decide +kernel
theorem p80_2 : prog 80 2 = some (.getfield 37, 3, [0, 0, 0]) := by decide +kernel
theorem p80_5 : prog 80 5 = some (.putfield 37, 3, [0, 0, 0]) := by decide +kernel
theorem p80_8 : prog 80 8 = some (.aload_n 1, 1, []) := by decide +kernel
theorem p80_9 : prog 80 9 = some (.getfield 9, 3, [0, 1, 1]) := by decide +kernel
theorem p80_12 : prog 80 12 = some (.iconst 0, 1, []) := by decide +kernel
theorem p80_13 : prog 80 13 = some (.aload_n 0, 1, []) := by decide +kernel
theorem p80_14 : prog 80 14 = some (.getfield 9, 3, [0, 1, 1]) := by decide +kernel
theorem p80_17 : prog 80 17 = some (.iconst 0, 1, []) := by decide +kernel
theorem p80_18 : prog 80 18 = some (.bipush 8, 2, []) := by decide +kernel
theorem p80_20 : prog 80 20 = some (.invokestatic 45, 3, [7]) := by decide +kernel
theorem p80_23 : prog 80 23 = some (.aload_n 1, 1, []) := by decide +kernel
theorem p80_24 : prog 80 24 = some (.getfield 15, 3, [0, 2, 1]) := by decide +kernel
theorem p80_27 : prog 80 27 = some (.iconst 0, 1, []) := by decide +kernel
theorem p80_28 : prog 80 28 = some (.aload_n 0, 1, []) := by decide +kernel
theorem p80_29 : prog 80 29 = some (.getfield 15, 3, [0, 2, 1]) := by decide +kernel
theorem p80_32 : prog 80 32 = some (.iconst 0, 1, []) := by decide +kernel
theorem p80_33 : prog 80 33 = some (.bipush 8, 2, []) := by decide +kernel
theorem p80_35 : prog 80 35 = some (.invokestatic 45, 3, [7]) := by decide +kernel
theorem p80_38 : prog 80 38 = some (.aload_n 1, 1, []) := by decide +kernel
theorem p80_39 : prog 80 39 = some (.getfield 18, 3, [0, 3, 1]) := by decide +kernel
theorem p80_42 : prog 80 42 = some (.iconst 0, 1, []) := by decide +kernel
theorem p80_43 : prog 80 43 = some (.aload_n 0, 1, []) := by decide +kernel
theorem p80_44 : prog 80 44 = some (.getfield 18, 3, [0, 3, 1]) := by decide +kernel
theorem p80_47 : prog 80 47 = some (.iconst 0, 1, []) := by decide +kernel
theorem p80_48 : prog 80 48 = some (.bipush 8, 2, []) := by decide +kernel
theorem p80_50 : prog 80 50 = some (.invokestatic 45, 3, [7]) := by decide +kernel
theorem p80_53 : prog 80 53 = some (.aload_n 1, 1, []) := by decide +kernel
theorem p80_54 : prog 80 54 = some (.getfield 21, 3, [0, 4, 1]) := by decide +kernel
theorem p80_57 : prog 80 57 = some (.iconst 0, 1, []) := by decide +kernel
theorem p80_58 : prog 80 58 = some (.aload_n 0, 1, []) := by decide +kernel
theorem p80_59 : prog 80 59 = some (.getfield 21, 3, [0, 4, 1]) := by decide +kernel
theorem p80_62 : prog 80 62 = some (.iconst 0, 1, []) := by decide +kernel
theorem p80_63 : prog 80 63 = some (.sipush 192, 3, []) := by decide +kernel
theorem p80_66 : prog 80 66 = some (.invokestatic 45, 3, [7]) := by decide +kernel
theorem p80_69 : prog 80 69 = some (.aload_n 1, 1, []) := by decide +kernel
theorem p80_70 : prog 80 70 = some (.getfield 24, 3, [0, 5, 1]) := by decide +kernel
theorem p80_73 : prog 80 73 = some (.iconst 0, 1, []) := by decide +kernel
theorem p80_74 : prog 80 74 = some (.aload_n 0, 1, []) := by decide +kernel
theorem p80_75 : prog 80 75 = some (.getfield 24, 3, [0, 5, 1]) := by decide +kernel
theorem p80_78 : prog 80 78 = some (.iconst 0, 1, []) := by decide +kernel
theorem p80_79 : prog 80 79 = some (.bipush 8, 2, []) := by decide +kernel
theorem p80_81 : prog 80 81 = some (.invokestatic 45, 3, [7]) := by decide +kernel
theorem p80_84 : prog 80 84 = some (.aload_n 1, 1, []) := by decide +kernel
theorem p80_85 : prog 80 85 = some (.getfield 27, 3, [0, 6, 1]) := by decide +kernel
theorem p80_88 : prog 80 88 = some (.iconst 0, 1, []) := by decide +kernel
theorem p80_89 : prog 80 89 = some (.aload_n 0, 1, []) := by decide +kernel
theorem p80_90 : prog 80 90 = some (.getfield 27, 3, [0, 6, 1]) := by decide +kernel
theorem p80_93 : prog 80 93 = some (.iconst 0, 1, []) := by decide +kernel
theorem p80_94 : prog 80 94 = some (.bipush 96, 2, []) := by decide +kernel
theorem p80_96 : prog 80 96 = some (.invokestatic 45, 3, [7]) := by decide +kernel
theorem p80_99 : prog 80 99 = some (.return_, 1, []) := by decide +kernel
theorem p81_0 : prog 81 0 = some (.iconst 0, 1, []) := by decide +kernel
theorem p81_1 : prog 81 1 = some (.istore_n 1, 1, []) := by decide +kernel
theorem p81_2 : prog 81 2 = some (.iconst 0, 1, []) := by decide +kernel
theorem p81_3 : prog 81 3 = some (.istore_n 2, 1, []) := by decide +kernel
theorem p81_4 : prog 81 4 = some (.iload_n 2, 1, []) := by decide +kernel
theorem p81_5 : prog 81 5 = some (.sipush 192, 3, []) := by decide +kernel
theorem p81_8 : prog 81 8 = some (.if_icmp .ge 22, 3, [30]) := by decide +kernel
theorem p81_11 : prog 81 11 = some (.aload_n 0, 1, []) := by decide +kernel
theorem p81_12 : prog 81 12 = some (.getfield 21, 3, [0, 4, 1]) := by decide +kernel
theorem p81_15 : prog 81 15 = some (.iload_n 2, 1, []) := by decide +kernel
theorem p81_16 : prog 81 16 = some (.iaload, 1, []) := by decide +kernel
theorem p81_17 : prog 81 17 = some (.iconst (-1), 1, []) := by decide +kernel
theorem p81_18 : prog 81 18 = some (.if_icmp .eq 6, 3, [24]) := by decide +kernel
theorem p81_21 : prog 81 21 = some (.iinc 1 1, 3, []) := by decide +kernel
theorem p81_24 : prog 81 24 = some (.iinc 2 1, 3, []) := by decide +kernel
theorem p81_27 : prog 81 27 = some (.goto (-23), 3, [4]) := by decide +kernel
theorem p81_30 : prog 81 30 = some (.iload_n 1, 1, []) := by decide +kernel
theorem p81_31 : prog 81 31 = some (.ireturn, 1, [0]) := by decide +kernel
theorem p82_0 : prog 82 0 = some (.aload_n 0, 1, []) := by decide +kernel
theorem p82_1 : prog 82 1 = some (.getfield 37, 3, [0, 0, 0]) := by decide +kernel
theorem p82_4 : prog 82 4 = some (.iload_n 1, 1, []) := by decide +kernel
theorem p82_5 : prog 82 5 = some (.ishr, 1, []) := by decide +kernel
theorem p82_6 : prog 82 6 = some (.iconst 1, 1, []) := by decide +kernel
theorem p82_7 : prog 82 7 = some (.iand, 1, []) := by decide +kernel
theorem p82_8 : prog 82 8 = some (.iconst 1, 1, []) := by decide +kernel
theorem p82_9 : prog 82 9 = some (.if_icmp .ne 7, 3, [16]) := by decide +kernel
theorem p82_12 : prog 82 12 = some (.iconst 1, 1, []) := by decide +kernel
theorem p82_13 : prog 82 13 = some (.goto 4, 3, [17]) := by decide +kernel
theorem p82_16 : prog 82 16 = some (.iconst 0, 1, []) := by decide +kernel
theorem p82_17 : prog 82 17 = some (.ireturn, 1, [1]) := by decide +kernel
theorem p83_0 : prog 83 0 = some (.aload_n 0, 1, []) := by decide +kernel
theorem p83_1 : prog 83 1 = some (.getfield 37, 3, [0, 0, 0]) := by decide +kernel
theorem p83_4 : prog 83 4 = some (.iload_n 1, 1, []) := by decide +kernel
theorem p83_5 : prog 83 5 = some (.ishr, 1, []) := by decide +kernel
theorem p83_6 : prog 83 6 = some (.iconst 1, 1, []) := by decide +kernel
theorem p83_7 : prog 83 7 = some (.iand, 1, []) := by decide +kernel
theorem p83_8 : prog 83 8 = some (.iconst 1, 1, []) := by decide +kernel
theorem p83_9 : prog 83 9 = some (.if_icmp .ne 18, 3, [27]) := by decide +kernel
theorem p83_12 : prog 83 12 = some (.aload_n 0, 1, []) := by decide +kernel
theorem p83_13 : prog 83 13 = some (.getfield 15, 3, [0, 2, 1]) := by decide +kernel
theorem p83_16 : prog 83 16 = some (.iload_n 1, 1, []) := by decide +kernel
theorem p83_17 : prog 83 17 = some (.iaload, 1, []) := by decide +kernel
theorem p83_18 : prog 83 18 = some (.iconst 1, 1, []) := by decide +kernel
theorem p83_19 : prog 83 19 = some (.iand, 1, []) := by decide +kernel
theorem p83_20 : prog 83 20 = some (.ifCond .eq 7, 3, [27]) := by decide +kernel
theorem p83_23 : prog 83 23 = some (.iconst 1, 1, []) := by decide +kernel
theorem p83_24 : prog 83 24 = some (.goto 4, 3, [28]) := by decide +kernel
theorem p83_27 : prog 83 27 = some (.iconst 0, 1, []) := by decide +kernel
theorem p83_28 : prog 83 28 = some (.ireturn, 1, [1]) := by decide +kernel
theorem p84_0 : prog 84 0 = some (.aload_n 0, 1, []) := by decide +kernel
theorem p84_1 : prog 84 1 = some (.getfield 9, 3, [0, 1, 1]) := by decide +kernel
theorem p84_4 : prog 84 4 = some (.iload_n 1, 1, []) := by decide +kernel
theorem p84_5 : prog 84 5 = some (.iaload, 1, []) := by decide +kernel
theorem p84_6 : prog 84 6 = some (.ireturn, 1, [0]) := by decide +kernel
theorem p85_0 : prog 85 0 = some (.aload_n 0, 1, []) := by decide +kernel
theorem p85_1 : prog 85 1 = some (.getfield 15, 3, [0, 2, 1]) := by decide +kernel
theorem p85_4 : prog 85 4 = some (.iload_n 1, 1, []) := by decide +kernel
theorem p85_5 : prog 85 5 = some (.iaload, 1, []) := by decide +kernel
theorem p85_6 : prog 85 6 = some (.ireturn, 1, [0]) := by decide +kernel
theorem p86_0 : prog 86 0 = some (.iconst 1, 1, []) := by decide +kernel
theorem p86_1 : prog 86 1 = some (.iload_n 1, 1, []) := by decide +kernel
theorem p86_2 : prog 86 2 = some (.ishl, 1, []) := by decide +kernel
theorem p86_3 : prog 86 3 = some (.istore_n 2, 1, []) := by decide +kernel
theorem p86_4 : prog 86 4 = some (.iconst 0, 1, []) := by decide +kernel
theorem p86_5 : prog 86 5 = some (.istore_n 3, 1, []) := by decide +kernel
theorem p86_6 : prog 86 6 = some (.iload_n 3, 1, []) := by decide +kernel
theorem p86_7 : prog 86 7 = some (.bipush 8, 2, []) := by decide +kernel
theorem p86_9 : prog 86 9 = some (.if_icmp .ge 50, 3, [59]) := by decide +kernel
theorem p86_12 : prog 86 12 = some (.iconst 0, 1, []) := by decide +kernel
theorem p86_13 : prog 86 13 = some (.istore 4, 2, []) := by decide +kernel
theorem p86_15 : prog 86 15 = some (.iload 4, 2, []) := by decide +kernel
theorem p86_17 : prog 86 17 = some (.bipush 8, 2, []) := by decide +kernel
theorem p86_19 : prog 86 19 = some (.if_icmp .ge 34, 3, [53]) := by decide +kernel
theorem p86_22 : prog 86 22 = some (.iload_n 2, 1, []) := by decide +kernel
theorem p86_23 : prog 86 23 = some (.iload 4, 2, []) := by decide +kernel
theorem p86_25 : prog 86 25 = some (.ishr, 1, []) := by decide +kernel
theorem p86_26 : prog 86 26 = some (.iconst 1, 1, []) := by decide +kernel
theorem p86_27 : prog 86 27 = some (.iand, 1, []) := by decide +kernel
theorem p86_28 : prog 86 28 = some (.iconst 1, 1, []) := by decide +kernel
theorem p86_29 : prog 86 29 = some (.if_icmp .ne 18, 3, [47]) := by decide +kernel
theorem p86_32 : prog 86 32 = some (.iload_n 2, 1, []) := by decide +kernel
theorem p86_33 : prog 86 33 = some (.aload_n 0, 1, []) := by decide +kernel
theorem p86_34 : prog 86 34 = some (.getfield 18, 3, [0, 3, 1]) := by decide +kernel
theorem p86_37 : prog 86 37 = some (.iload 4, 2, []) := by decide +kernel
theorem p86_39 : prog 86 39 = some (.iaload, 1, []) := by decide +kernel
theorem p86_40 : prog 86 40 = some (.aload_n 0, 1, []) := by decide +kernel
theorem p86_41 : prog 86 41 = some (.getfield 37, 3, [0, 0, 0]) := by decide +kernel
theorem p86_44 : prog 86 44 = some (.iand, 1, []) := by decide +kernel
theorem p86_45 : prog 86 45 = some (.ior, 1, []) := by decide +kernel
theorem p86_46 : prog 86 46 = some (.istore_n 2, 1, []) := by decide +kernel
theorem p86_47 : prog 86 47 = some (.iinc 4 1, 3, []) := by decide +kernel
theorem p86_50 : prog 86 50 = some (.goto (-35), 3, [15]) := by decide +kernel
theorem p86_53 : prog 86 53 = some (.iinc 3 1, 3, []) := by decide +kernel
theorem p86_56 : prog 86 56 = some (.goto (-50), 3, [6]) := by decide +kernel
theorem p86_59 : prog 86 59 = some (.iload_n 2, 1, []) := by decide +kernel
theorem p86_60 : prog 86 60 = some (.iconst 1, 1, []) := by decide +kernel
theorem p86_61 : prog 86 61 = some (.iload_n 1, 1, []) := by decide +kernel
theorem p86_62 : prog 86 62 = some (.ishl, 1, []) := by decide +kernel
theorem p86_63 : prog 86 63 = some (.iconst (-1), 1, []) := by decide +kernel
theorem p86_64 : prog 86 64 = some (.ixor, 1, []) := by decide +kernel
theorem p86_65 : prog 86 65 = some (.iand, 1, []) := by decide +kernel
theorem p86_66 : prog 86 66 = some (.ireturn, 1, [0]) := by decide +kernel
theorem p87_0 : prog 87 0 = some (.aload_n 0, 1, []) := by decide +kernel
theorem p87_1 : prog 87 1 = some (.iload_n 1, 1, []) := by decide +kernel
theorem p87_2 : prog 87 2 = some (.invokevirtual 51, 3, [0, 86, 2, 0]) := by decide +kernel
theorem p87_5 : prog 87 5 = some (.istore_n 2, 1, []) := by decide +kernel
theorem p87_6 : prog 87 6 = some (.iconst 0, 1, []) := by decide +kernel
theorem p87_7 : prog 87 7 = some (.istore_n 3, 1, []) := by decide +kernel
theorem p87_8 : prog 87 8 = some (.iload_n 3, 1, []) := by decide +kernel
theorem p87_9 : prog 87 9 = some (.bipush 8, 2, []) := by decide +kernel
theorem p87_11 : prog 87 11 = some (.if_icmp .ge 25, 3, [36]) := by decide +kernel
theorem p87_14 : prog 87 14 = some (.aload_n 0, 1, []) := by decide +kernel
theorem p87_15 : prog 87 15 = some (.iload_n 3, 1, []) := by decide +kernel
theorem p87_16 : prog 87 16 = some (.invokevirtual 55, 3, [0, 83, 2, 0]) := by decide +kernel
theorem p87_19 : prog 87 19 = some (.ifCond .ne 11, 3, [30]) := by decide +kernel
theorem p87_22 : prog 87 22 = some (.iload_n 2, 1, []) := by decide +kernel
theorem p87_23 : prog 87 23 = some (.iconst 1, 1, []) := by decide +kernel
theorem p87_24 : prog 87 24 = some (.iload_n 3, 1, []) := by decide +kernel
theorem p87_25 : prog 87 25 = some (.ishl, 1, []) := by decide +kernel
theorem p87_26 : prog 87 26 = some (.iconst (-1), 1, []) := by decide +kernel
theorem p87_27 : prog 87 27 = some (.ixor, 1, []) := by decide +kernel
theorem p87_28 : prog 87 28 = some (.iand, 1, []) := by decide +kernel
theorem p87_29 : prog 87 29 = some (.istore_n 2, 1, []) := by decide +kernel
theorem p87_30 : prog 87 30 = some (.iinc 3 1, 3, []) := by decide +kernel
theorem p87_33 : prog 87 33 = some (.goto (-25), 3, [8]) := by decide +kernel
theorem p87_36 : prog 87 36 = some (.iload_n 2, 1, []) := by decide +kernel
theorem p87_37 : prog 87 37 = some (.ireturn, 1, [0]) := by decide +kernel
theorem p88_0 : prog 88 0 = some (.aload_n 0, 1, []) := by decide +kernel
theorem p88_1 : prog 88 1 = some (.getfield 21, 3, [0, 4, 1]) := by decide +kernel
theorem p88_4 : prog 88 4 = some (.iload_n 1, 1, []) := by decide +kernel
theorem p88_5 : prog 88 5 = some (.bipush 24, 2, []) := by decide +kernel
theorem p88_7 : prog 88 7 = some (.imul, 1, []) := by decide +kernel
theorem p88_8 : prog 88 8 = some (.iload_n 2, 1, []) := by decide +kernel
theorem p88_9 : prog 88 9 = some (.iadd, 1, []) := by decide +kernel
theorem p88_10 : prog 88 10 = some (.iaload, 1, []) := by decide +kernel
theorem p88_11 : prog 88 11 = some (.iconst (-1), 1, []) := by decide +kernel
theorem p88_12 : prog 88 12 = some (.if_icmp .eq 7, 3, [19]) := by decide +kernel
theorem p88_15 : prog 88 15 = some (.iconst 1, 1, []) := by decide +kernel
theorem p88_16 : prog 88 16 = some (.goto 4, 3, [20]) := by decide +kernel
theorem p88_19 : prog 88 19 = some (.iconst 0, 1, []) := by decide +kernel
theorem p88_20 : prog 88 20 = some (.ireturn, 1, [1]) := by decide +kernel
theorem p89_0 : prog 89 0 = some (.aload_n 0, 1, []) := by decide +kernel
theorem p89_1 : prog 89 1 = some (.iload_n 1, 1, []) := by decide +kernel
theorem p89_2 : prog 89 2 = some (.invokevirtual 55, 3, [0, 83, 2, 0]) := by decide +kernel
theorem p89_5 : prog 89 5 = some (.ifCond .eq 12, 3, [17]) := by decide +kernel
theorem p89_8 : prog 89 8 = some (.aload_n 0, 1, []) := by decide +kernel
theorem p89_9 : prog 89 9 = some (.iload_n 1, 1, []) := by decide +kernel
theorem p89_10 : prog 89 10 = some (.iload_n 2, 1, []) := by decide +kernel
theorem p89_11 : prog 89 11 = some (.invokevirtual 59, 3, [0, 88, 3, 0]) := by decide +kernel
theorem p89_14 : prog 89 14 = some (.ifCond .ne 5, 3, [19]) := by decide +kernel
theorem p89_17 : prog 89 17 = some (.iconst 0, 1, []) := by decide +kernel
theorem p89_18 : prog 89 18 = some (.ireturn, 1, [1]) := by decide +kernel
theorem p89_19 : prog 89 19 = some (.aload_n 0, 1, []) := by decide +kernel
theorem p89_20 : prog 89 20 = some (.iload_n 1, 1, []) := by decide +kernel
theorem p89_21 : prog 89 21 = some (.iload_n 2, 1, []) := by decide +kernel
theorem p89_22 : prog 89 22 = some (.invokevirtual 63, 3, [0, 90, 3, 0]) := by decide +kernel
theorem p89_25 : prog 89 25 = some (.istore_n 3, 1, []) := by decide +kernel
theorem p89_26 : prog 89 26 = some (.iload_n 3, 1, []) := by decide +kernel
theorem p89_27 : prog 89 27 = some (.iconst 3, 1, []) := by decide +kernel
theorem p89_28 : prog 89 28 = some (.if_icmp .eq 20, 3, [48]) := by decide +kernel
theorem p89_31 : prog 89 31 = some (.iload_n 3, 1, []) := by decide +kernel
theorem p89_32 : prog 89 32 = some (.iconst 2, 1, []) := by decide +kernel
theorem p89_33 : prog 89 33 = some (.if_icmp .ne 19, 3, [52]) := by decide +kernel
theorem p89_36 : prog 89 36 = some (.aload_n 0, 1, []) := by decide +kernel
theorem p89_37 : prog 89 37 = some (.getfield 15, 3, [0, 2, 1]) := by decide +kernel
theorem p89_40 : prog 89 40 = some (.iload_n 1, 1, []) := by decide +kernel
theorem p89_41 : prog 89 41 = some (.iaload, 1, []) := by decide +kernel
theorem p89_42 : prog 89 42 = some (.bipush 8, 2, []) := by decide +kernel
theorem p89_44 : prog 89 44 = some (.iand, 1, []) := by decide +kernel
theorem p89_45 : prog 89 45 = some (.ifCond .ne 7, 3, [52]) := by decide +kernel
theorem p89_48 : prog 89 48 = some (.iconst 1, 1, []) := by decide +kernel
theorem p89_49 : prog 89 49 = some (.goto 4, 3, [53]) := by decide +kernel
theorem p89_52 : prog 89 52 = some (.iconst 0, 1, []) := by decide +kernel
theorem p89_53 : prog 89 53 = some (.ireturn, 1, [1]) := by decide +kernel
theorem p90_0 : prog 90 0 = some (.aload_n 0, 1, []) := by decide +kernel
theorem p90_1 : prog 90 1 = some (.getfield 21, 3, [0, 4, 1]) := by decide +kernel
theorem p90_4 : prog 90 4 = some (.iload_n 1, 1, []) := by decide +kernel
theorem p90_5 : prog 90 5 = some (.bipush 24, 2, []) := by decide +kernel
theorem p90_7 : prog 90 7 = some (.imul, 1, []) := by decide +kernel
theorem p90_8 : prog 90 8 = some (.iload_n 2, 1, []) := by decide +kernel
theorem p90_9 : prog 90 9 = some (.iadd, 1, []) := by decide +kernel
theorem p90_10 : prog 90 10 = some (.iaload, 1, []) := by decide +kernel
theorem p90_11 : prog 90 11 = some (.bipush 8, 2, []) := by decide +kernel
theorem p90_13 : prog 90 13 = some (.idiv, 1, []) := by decide +kernel
theorem p90_14 : prog 90 14 = some (.ireturn, 1, [0]) := by decide +kernel
theorem p91_0 : prog 91 0 = some (.aload_n 0, 1, []) := by decide +kernel
theorem p91_1 : prog 91 1 = some (.getfield 21, 3, [0, 4, 1]) := by decide +kernel
theorem p91_4 : prog 91 4 = some (.iload_n 1, 1, []) := by decide +kernel
theorem p91_5 : prog 91 5 = some (.bipush 24, 2, []) := by decide +kernel
theorem p91_7 : prog 91 7 = some (.imul, 1, []) := by decide +kernel
theorem p91_8 : prog 91 8 = some (.iload_n 2, 1, []) := by decide +kernel
theorem p91_9 : prog 91 9 = some (.iadd, 1, []) := by decide +kernel
theorem p91_10 : prog 91 10 = some (.iaload, 1, []) := by decide +kernel
theorem p91_11 : prog 91 11 = some (.bipush 8, 2, []) := by decide +kernel
theorem p91_13 : prog 91 13 = some (.irem, 1, []) := by decide +kernel
theorem p91_14 : prog 91 14 = some (.ireturn, 1, [0]) := by decide +kernel
theorem p92_0 : prog 92 0 = some (.aload_n 0, 1, []) := by decide +kernel
theorem p92_1 : prog 92 1 = some (.getfield 24, 3, [0, 5, 1]) := by decide +kernel
theorem p92_4 : prog 92 4 = some (.iload_n 1, 1, []) := by decide +kernel
theorem p92_5 : prog 92 5 = some (.iaload, 1, []) := by decide +kernel
theorem p92_6 : prog 92 6 = some (.iload_n 2, 1, []) := by decide +kernel
theorem p92_7 : prog 92 7 = some (.ishr, 1, []) := by decide +kernel
theorem p92_8 : prog 92 8 = some (.iconst 1, 1, []) := by decide +kernel
theorem p92_9 : prog 92 9 = some (.iand, 1, []) := by decide +kernel
theorem p92_10 : prog 92 10 = some (.iconst 1, 1, []) := by decide +kernel
theorem p92_11 : prog 92 11 = some (.if_icmp .ne 7, 3, [18]) := by decide +kernel
theorem p92_14 : prog 92 14 = some (.iconst 1, 1, []) := by decide +kernel
theorem p92_15 : prog 92 15 = some (.goto 4, 3, [19]) := by decide +kernel
theorem p92_18 : prog 92 18 = some (.iconst 0, 1, []) := by decide +kernel
theorem p92_19 : prog 92 19 = some (.ireturn, 1, [1]) := by decide +kernel
theorem p93_0 : prog 93 0 = some (.aload_n 0, 1, []) := by decide +kernel
theorem p93_1 : prog 93 1 = some (.getfield 27, 3, [0, 6, 1]) := by decide +kernel
theorem p93_4 : prog 93 4 = some (.iload_n 1, 1, []) := by decide +kernel
theorem p93_5 : prog 93 5 = some (.bipush 12, 2, []) := by decide +kernel
theorem p93_7 : prog 93 7 = some (.imul, 1, []) := by decide +kernel
theorem p93_8 : prog 93 8 = some (.iload_n 2, 1, []) := by decide +kernel
theorem p93_9 : prog 93 9 = some (.iadd, 1, []) := by decide +kernel
theorem p93_10 : prog 93 10 = some (.daload, 1, []) := by decide +kernel
theorem p93_11 : prog 93 11 = some (.dreturn, 1, []) := by decide +kernel
theorem p94_0 : prog 94 0 = some (.aload_n 0, 1, []) := by decide +kernel
theorem p94_1 : prog 94 1 = some (.invokespecial 3, 3, [6]) := by decide +kernel
theorem p94_4 : prog 94 4 = some (.aload_n 0, 1, []) := by decide +kernel
theorem p94_5 : prog 94 5 = some (.new 9, 3, [0]) := by decide +kernel
theorem p94_8 : prog 94 8 = some (.dup, 1, []) := by decide +kernel
theorem p94_9 : prog 94 9 = some (.invokespecial 11, 3, [2, 75, 1]) := by decide +kernel
theorem p94_12 : prog 94 12 = some (.putfield 12, 3, [1, 0, 1]) := by decide +kernel
theorem p94_15 : prog 94 15 = some (.aload_n 0, 1, []) := by decide +kernel
theorem p94_16 : prog 94 16 = some (.new 9, 3, [0]) := by decide +kernel
theorem p94_19 : prog 94 19 = some (.dup, 1, []) := by decide +kernel
theorem p94_20 : prog 94 20 = some (.invokespecial 11, 3, [2, 75, 1]) := by decide +kernel
theorem p94_23 : prog 94 23 = some (.putfield 18, 3, [1, 1, 1]) := by decide +kernel
theorem p94_26 : prog 94 26 = some (.aload_n 0, 1, []) := by decide +kernel
theorem p94_27 : prog 94 27 = some (.new 21, 3, [2]) := by decide +kernel
theorem p94_30 : prog 94 30 = some (.dup, 1, []) := by decide +kernel
theorem p94_31 : prog 94 31 = some (.invokespecial 23, 3, [5, 105, 1]) := by decide +kernel
theorem p94_34 : prog 94 34 = some (.putfield 24, 3, [1, 2, 1]) := by decide +kernel
theorem p94_37 : prog 94 37 = some (.return_, 1, []) := by decide +kernel
theorem p95_0 : prog 95 0 = some (.iload_n 1, 1, []) := by decide +kernel
theorem p95_1 : prog 95 1 = some (.ifCond .ne 10, 3, [11]) := by decide +kernel
theorem p95_4 : prog 95 4 = some (.aload_n 0, 1, []) := by decide +kernel
theorem p95_5 : prog 95 5 = some (.getfield 12, 3, [1, 0, 1]) := by decide +kernel
theorem p95_8 : prog 95 8 = some (.goto 7, 3, [15]) := by decide +kernel
theorem p95_11 : prog 95 11 = some (.aload_n 0, 1, []) := by decide +kernel
theorem p95_12 : prog 95 12 = some (.getfield 18, 3, [1, 1, 1]) := by decide +kernel
theorem p95_15 : prog 95 15 = some (.areturn, 1, []) := by decide +kernel
theorem p96_0 : prog 96 0 = some (.aload_n 0, 1, []) := by decide +kernel
theorem p96_1 : prog 96 1 = some (.getfield 24, 3, [1, 2, 1]) := by decide +kernel
theorem p96_4 : prog 96 4 = some (.invokevirtual 28, 3, [0, 106, 1, 2]) := by decide +kernel
theorem p96_7 : prog 96 7 = some (.iconst 0, 1, []) := by decide +kernel
theorem p96_8 : prog 96 8 = some (.istore_n 1, 1, []) := by decide +kernel
theorem p96_9 : prog 96 9 = some (.iload_n 1, 1, []) := by decide +kernel
theorem p96_10 : prog 96 10 = some (.bipush 8, 2, []) := by decide +kernel
theorem p96_12 : prog 96 12 = some (.if_icmp .ge 64, 3, [76]) := by decide +kernel
theorem p96_15 : prog 96 15 = some (.aload_n 0, 1, []) := by decide +kernel
theorem p96_16 : prog 96 16 = some (.getfield 12, 3, [1, 0, 1]) := by decide +kernel
theorem p96_19 : prog 96 19 = some (.iload_n 1, 1, []) := by decide +kernel
theorem p96_20 : prog 96 20 = some (.invokevirtual 31, 3, [0, 83, 2, 0]) := by decide +kernel
theorem p96_23 : prog 96 23 = some (.ifCond .eq 42, 3, [65]) := by decide +kernel
theorem p96_26 : prog 96 26 = some (.aload_n 0, 1, []) := by decide +kernel
theorem p96_27 : prog 96 27 = some (.getfield 18, 3, [1, 1, 1]) := by decide +kernel
theorem p96_30 : prog 96 30 = some (.iload_n 1, 1, []) := by decide +kernel
theorem p96_31 : prog 96 31 = some (.invokevirtual 31, 3, [0, 83, 2, 0]) := by decide +kernel
theorem p96_34 : prog 96 34 = some (.ifCond .eq 31, 3, [65]) := by decide +kernel
theorem p96_37 : prog 96 37 = some (.aload_n 0, 1, []) := by decide +kernel
theorem p96_38 : prog 96 38 = some (.iload_n 1, 1, []) := by decide +kernel
theorem p96_39 : prog 96 39 = some (.invokevirtual 35, 3, [0, 98, 2, 1]) := by decide +kernel
theorem p96_42 : prog 96 42 = some (.iconst 0, 1, []) := by decide +kernel
theorem p96_43 : prog 96 43 = some (.istore_n 2, 1, []) := by decide +kernel
theorem p96_44 : prog 96 44 = some (.iload_n 2, 1, []) := by decide +kernel
theorem p96_45 : prog 96 45 = some (.bipush 24, 2, []) := by decide +kernel
theorem p96_47 : prog 96 47 = some (.if_icmp .ge 15, 3, [62]) := by decide +kernel
theorem p96_50 : prog 96 50 = some (.aload_n 0, 1, []) := by decide +kernel
theorem p96_51 : prog 96 51 = some (.iload_n 1, 1, []) := by decide +kernel
theorem p96_52 : prog 96 52 = some (.iload_n 2, 1, []) := by decide +kernel
theorem p96_53 : prog 96 53 = some (.invokevirtual 39, 3, [0, 99, 3, 1]) := by decide +kernel
theorem p96_56 : prog 96 56 = some (.iinc 2 1, 3, []) := by decide +kernel
theorem p96_59 : prog 96 59 = some (.goto (-15), 3, [44]) := by decide +kernel
theorem p96_62 : prog 96 62 = some (.goto 8, 3, [70]) := by decide +kernel
theorem p96_65 : prog 96 65 = some (.aload_n 0, 1, []) := by decide +kernel
theorem p96_66 : prog 96 66 = some (.iload_n 1, 1, []) := by decide +kernel
theorem p96_67 : prog 96 67 = some (.invokevirtual 43, 3, [0, 97, 2, 1]) := by decide +kernel
theorem p96_70 : prog 96 70 = some (.iinc 1 1, 3, []) := by decide +kernel
theorem p96_73 : prog 96 73 = some (.goto (-64), 3, [9]) := by decide +kernel
theorem p96_76 : prog 96 76 = some (.return_, 1, []) := by decide +kernel
theorem p97_0 : prog 97 0 = some (.aload_n 0, 1, []) := by decide +kernel
theorem p97_1 : prog 97 1 = some (.getfield 12, 3, [1, 0, 1]) := by decide +kernel
theorem p97_4 : prog 97 4 = some (.iload_n 1, 1, []) := by decide +kernel
theorem p97_5 : prog 97 5 = some (.invokevirtual 31, 3, [0, 83, 2, 0]) := by decide +kernel
theorem p97_8 : prog 97 8 = some (.ifCond .eq 41, 3, [49]) := by decide +kernel
theorem p97_11 : prog 97 11 = some (.aload_n 0, 1, []) := by decide +kernel
theorem p97_12 : prog 97 12 = some (.getfield 18, 3, [1, 1, 1]) := by decide +kernel
theorem p97_15 : prog 97 15 = some (.iload_n 1, 1, []) := by decide +kernel
theorem p97_16 : prog 97 16 = some (.invokevirtual 46, 3, [0, 82, 2, 0]) := by decide +kernel
theorem p97_19 : prog 97 19 = some (.ifCond .eq 7, 3, [26]) := by decide +kernel
theorem p97_22 : prog 97 22 = some (.iconst 2, 1, []) := by decide +kernel
theorem p97_23 : prog 97 23 = some (.goto 4, 3, [27]) := by decide +kernel
theorem p97_26 : prog 97 26 = some (.iconst 1, 1, []) := by decide +kernel
theorem p97_27 : prog 97 27 = some (.istore_n 2, 1, []) := by decide +kernel
theorem p97_28 : prog 97 28 = some (.aload_n 0, 1, []) := by decide +kernel
theorem p97_29 : prog 97 29 = some (.getfield 24, 3, [1, 2, 1]) := by decide +kernel
theorem p97_32 : prog 97 32 = some (.iload_n 2, 1, []) := by decide +kernel
theorem p97_33 : prog 97 33 = some (.aload_n 0, 1, []) := by decide +kernel
theorem p97_34 : prog 97 34 = some (.getfield 12, 3, [1, 0, 1]) := by decide +kernel
theorem p97_37 : prog 97 37 = some (.iload_n 1, 1, []) := by decide +kernel
theorem p97_38 : prog 97 38 = some (.invokevirtual 49, 3, [0, 84, 2, 0]) := by decide +kernel
theorem p97_41 : prog 97 41 = some (.iload_n 1, 1, []) := by decide +kernel
theorem p97_42 : prog 97 42 = some (.iconst (-1), 1, []) := by decide +kernel
theorem p97_43 : prog 97 43 = some (.invokevirtual 53, 3, [0, 109, 5, 2]) := by decide +kernel
theorem p97_46 : prog 97 46 = some (.goto 32, 3, [78]) := by decide +kernel
theorem p97_49 : prog 97 49 = some (.aload_n 0, 1, []) := by decide +kernel
theorem p97_50 : prog 97 50 = some (.getfield 18, 3, [1, 1, 1]) := by decide +kernel
theorem p97_53 : prog 97 53 = some (.iload_n 1, 1, []) := by decide +kernel
theorem p97_54 : prog 97 54 = some (.invokevirtual 31, 3, [0, 83, 2, 0]) := by decide +kernel
theorem p97_57 : prog 97 57 = some (.ifCond .eq 21, 3, [78]) := by decide +kernel
theorem p97_60 : prog 97 60 = some (.aload_n 0, 1, []) := by decide +kernel
theorem p97_61 : prog 97 61 = some (.getfield 24, 3, [1, 2, 1]) := by decide +kernel
theorem p97_64 : prog 97 64 = some (.iconst 3, 1, []) := by decide +kernel
theorem p97_65 : prog 97 65 = some (.aload_n 0, 1, []) := by decide +kernel
theorem p97_66 : prog 97 66 = some (.getfield 18, 3, [1, 1, 1]) := by decide +kernel
theorem p97_69 : prog 97 69 = some (.iload_n 1, 1, []) := by decide +kernel
theorem p97_70 : prog 97 70 = some (.invokevirtual 49, 3, [0, 84, 2, 0]) := by decide +kernel
theorem p97_73 : prog 97 73 = some (.iload_n 1, 1, []) := by decide +kernel
theorem p97_74 : prog 97 74 = some (.iconst (-1), 1, []) := by decide +kernel
theorem p97_75 : prog 97 75 = some (.invokevirtual 53, 3, [0, 109, 5, 2]) := by decide +kernel
theorem p97_78 : prog 97 78 = some (.return_, 1, []) := by decide +kernel
theorem p98_0 : prog 98 0 = some (.aload_n 0, 1, []) := by decide +kernel
theorem p98_1 : prog 98 1 = some (.getfield 12, 3, [1, 0, 1]) := by decide +kernel
theorem p98_4 : prog 98 4 = some (.iload_n 1, 1, []) := by decide +kernel
theorem p98_5 : prog 98 5 = some (.invokevirtual 57, 3, [0, 85, 2, 0]) := by decide +kernel
theorem p98_8 : prog 98 8 = some (.aload_n 0, 1, []) := by decide +kernel
theorem p98_9 : prog 98 9 = some (.getfield 18, 3, [1, 1, 1]) := by decide +kernel
theorem p98_12 : prog 98 12 = some (.iload_n 1, 1, []) := by decide +kernel
theorem p98_13 : prog 98 13 = some (.invokevirtual 57, 3, [0, 85, 2, 0]) := by decide +kernel
theorem p98_16 : prog 98 16 = some (.iconst (-1), 1, []) := by decide +kernel
theorem p98_17 : prog 98 17 = some (.ixor, 1, []) := by decide +kernel
theorem p98_18 : prog 98 18 = some (.iand, 1, []) := by decide +kernel
theorem p98_19 : prog 98 19 = some (.istore_n 2, 1, []) := by decide +kernel
theorem p98_20 : prog 98 20 = some (.aload_n 0, 1, []) := by decide +kernel
theorem p98_21 : prog 98 21 = some (.getfield 18, 3, [1, 1, 1]) := by decide +kernel
theorem p98_24 : prog 98 24 = some (.iload_n 1, 1, []) := by decide +kernel
theorem p98_25 : prog 98 25 = some (.invokevirtual 57, 3, [0, 85, 2, 0]) := by decide +kernel
theorem p98_28 : prog 98 28 = some (.aload_n 0, 1, []) := by decide +kernel
theorem p98_29 : prog 98 29 = some (.getfield 12, 3, [1, 0, 1]) := by decide +kernel
theorem p98_32 : prog 98 32 = some (.iload_n 1, 1, []) := by decide +kernel
theorem p98_33 : prog 98 33 = some (.invokevirtual 57, 3, [0, 85, 2, 0]) := by decide +kernel
theorem p98_36 : prog 98 36 = some (.iconst (-1), 1, []) := by decide +kernel
theorem p98_37 : prog 98 37 = some (.ixor, 1, []) := by decide +kernel
theorem p98_38 : prog 98 38 = some (.iand, 1, []) := by decide +kernel
theorem p98_39 : prog 98 39 = some (.istore_n 3, 1, []) := by decide +kernel
theorem p98_40 : prog 98 40 = some (.aload_n 0, 1, []) := by decide +kernel
theorem p98_41 : prog 98 41 = some (.aload_n 0, 1, []) := by decide +kernel
theorem p98_42 : prog 98 42 = some (.getfield 12, 3, [1, 0, 1]) := by decide +kernel
theorem p98_45 : prog 98 45 = some (.iload_n 1, 1, []) := by decide +kernel
theorem p98_46 : prog 98 46 = some (.invokevirtual 49, 3, [0, 84, 2, 0]) := by decide +kernel
theorem p98_49 : prog 98 49 = some (.aload_n 0, 1, []) := by decide +kernel
theorem p98_50 : prog 98 50 = some (.getfield 18, 3, [1, 1, 1]) := by decide +kernel
theorem p98_53 : prog 98 53 = some (.iload_n 1, 1, []) := by decide +kernel
theorem p98_54 : prog 98 54 = some (.invokevirtual 49, 3, [0, 84, 2, 0]) := by decide +kernel
theorem p98_57 : prog 98 57 = some (.if_icmp .eq 7, 3, [64]) := by decide +kernel
theorem p98_60 : prog 98 60 = some (.iconst 1, 1, []) := by decide +kernel
theorem p98_61 : prog 98 61 = some (.goto 4, 3, [65]) := by decide +kernel
theorem p98_64 : prog 98 64 = some (.iconst 0, 1, []) := by decide +kernel
theorem p98_65 : prog 98 65 = some (.iconst 4, 1, []) := by decide +kernel
theorem p98_66 : prog 98 66 = some (.iload_n 1, 1, []) := by decide +kernel
theorem p98_67 : prog 98 67 = some (.iconst (-1), 1, []) := by decide +kernel
theorem p98_68 : prog 98 68 = some (.invokevirtual 60, 3, [0, 104, 5, 1]) := by decide +kernel
theorem p98_71 : prog 98 71 = some (.aload_n 0, 1, []) := by decide +kernel
theorem p98_72 : prog 98 72 = some (.iload_n 2, 1, []) := by decide +kernel
theorem p98_73 : prog 98 73 = some (.iload_n 3, 1, []) := by decide +kernel
theorem p98_74 : prog 98 74 = some (.ior, 1, []) := by decide +kernel
theorem p98_75 : prog 98 75 = some (.iconst 2, 1, []) := by decide +kernel
theorem p98_76 : prog 98 76 = some (.iand, 1, []) := by decide +kernel
theorem p98_77 : prog 98 77 = some (.ifCond .eq 7, 3, [84]) := by decide +kernel
theorem p98_80 : prog 98 80 = some (.iconst 1, 1, []) := by decide +kernel
theorem p98_81 : prog 98 81 = some (.goto 4, 3, [85]) := by decide +kernel
theorem p98_84 : prog 98 84 = some (.iconst 0, 1, []) := by decide +kernel
theorem p98_85 : prog 98 85 = some (.iconst 5, 1, []) := by decide +kernel
theorem p98_86 : prog 98 86 = some (.iload_n 1, 1, []) := by decide +kernel
theorem p98_87 : prog 98 87 = some (.iconst (-1), 1, []) := by decide +kernel
theorem p98_88 : prog 98 88 = some (.invokevirtual 60, 3, [0, 104, 5, 1]) := by decide +kernel
theorem p98_91 : prog 98 91 = some (.aload_n 0, 1, []) := by decide +kernel
theorem p98_92 : prog 98 92 = some (.iload_n 3, 1, []) := by decide +kernel
theorem p98_93 : prog 98 93 = some (.iconst 4, 1, []) := by decide +kernel
theorem p98_94 : prog 98 94 = some (.iand, 1, []) := by decide +kernel
theorem p98_95 : prog 98 95 = some (.ifCond .eq 7, 3, [102]) := by decide +kernel
theorem p98_98 : prog 98 98 = some (.iconst 1, 1, []) := by decide +kernel
theorem p98_99 : prog 98 99 = some (.goto 4, 3, [103]) := by decide +kernel
theorem p98_102 : prog 98 102 = some (.iconst 0, 1, []) := by decide +kernel
theorem p98_103 : prog 98 103 = some (.bipush 6, 2, []) := by decide +kernel
theorem p98_105 : prog 98 105 = some (.iload_n 1, 1, []) := by decide +kernel
theorem p98_106 : prog 98 106 = some (.iconst (-1), 1, []) := by decide +kernel
theorem p98_107 : prog 98 107 = some (.invokevirtual 60, 3, [0, 104, 5, 1]) := by decide +kernel
theorem p98_110 : prog 98 110 = some (.aload_n 0, 1, []) := by decide +kernel
theorem p98_111 : prog 98 111 = some (.iload_n 2, 1, []) := by decide +kernel
theorem p98_112 : prog 98 112 = some (.iconst 4, 1, []) := by decide +kernel
theorem p98_113 : prog 98 113 = some (.iand, 1, []) := by decide +kernel
theorem p98_114 : prog 98 114 = some (.ifCond .eq 7, 3, [121]) := by decide +kernel
theorem p98_117 : prog 98 117 = some (.iconst 1, 1, []) := by decide +kernel
theorem p98_118 : prog 98 118 = some (.goto 4, 3, [122]) := by decide +kernel
theorem p98_121 : prog 98 121 = some (.iconst 0, 1, []) := by decide +kernel
theorem p98_122 : prog 98 122 = some (.bipush 7, 2, []) := by decide +kernel
theorem p98_124 : prog 98 124 = some (.iload_n 1, 1, []) := by decide +kernel
theorem p98_125 : prog 98 125 = some (.iconst (-1), 1, []) := by decide +kernel
theorem p98_126 : prog 98 126 = some (.invokevirtual 60, 3, [0, 104, 5, 1]) := by decide +kernel
theorem p98_129 : prog 98 129 = some (.aload_n 0, 1, []) := by decide +kernel
theorem p98_130 : prog 98 130 = some (.iload_n 3, 1, []) := by decide +kernel
theorem p98_131 : prog 98 131 = some (.bipush 8, 2, []) := by decide +kernel
theorem p98_133 : prog 98 133 = some (.iand, 1, []) := by decide +kernel
theorem p98_134 : prog 98 134 = some (.ifCond .eq 7, 3, [141]) := by decide +kernel
theorem p98_137 : prog 98 137 = some (.iconst 1, 1, []) := by decide +kernel
theorem p98_138 : prog 98 138 = some (.goto 4, 3, [142]) := by decide +kernel
theorem p98_141 : prog 98 141 = some (.iconst 0, 1, []) := by decide +kernel
theorem p98_142 : prog 98 142 = some (.bipush 8, 2, []) := by decide +kernel
theorem p98_144 : prog 98 144 = some (.iload_n 1, 1, []) := by decide +kernel
theorem p98_145 : prog 98 145 = some (.iconst (-1), 1, []) := by decide +kernel
theorem p98_146 : prog 98 146 = some (.invokevirtual 60, 3, [0, 104, 5, 1]) := by decide +kernel
theorem p98_149 : prog 98 149 = some (.aload_n 0, 1, []) := by decide +kernel
theorem p98_150 : prog 98 150 = some (.iload_n 2, 1, []) := by decide +kernel
theorem p98_151 : prog 98 151 = some (.bipush 8, 2, []) := by decide +kernel
theorem p98_153 : prog 98 153 = some (.iand, 1, []) := by decide +kernel
theorem p98_154 : prog 98 154 = some (.ifCond .eq 7, 3, [161]) := by decide +kernel
theorem p98_157 : prog 98 157 = some (.iconst 1, 1, []) := by decide +kernel
theorem p98_158 : prog 98 158 = some (.goto 4, 3, [162]) := by decide +kernel
theorem p98_161 : prog 98 161 = some (.iconst 0, 1, []) := by decide +kernel
theorem p98_162 : prog 98 162 = some (.bipush 9, 2, []) := by decide +kernel
theorem p98_164 : prog 98 164 = some (.iload_n 1, 1, []) := by decide +kernel
theorem p98_165 : prog 98 165 = some (.iconst (-1), 1, []) := by decide +kernel
theorem p98_166 : prog 98 166 = some (.invokevirtual 60, 3, [0, 104, 5, 1]) := by decide +kernel
theorem p98_169 : prog 98 169 = some (.aload_n 0, 1, []) := by decide +kernel
theorem p98_170 : prog 98 170 = some (.aload_n 0, 1, []) := by decide +kernel
theorem p98_171 : prog 98 171 = some (.getfield 12, 3, [1, 0, 1]) := by decide +kernel
theorem p98_174 : prog 98 174 = some (.iload_n 1, 1, []) := by decide +kernel
theorem p98_175 : prog 98 175 = some (.invokevirtual 64, 3, [0, 87, 2, 0]) := by decide +kernel
theorem p98_178 : prog 98 178 = some (.aload_n 0, 1, []) := by decide +kernel
theorem p98_179 : prog 98 179 = some (.getfield 18, 3, [1, 1, 1]) := by decide +kernel
theorem p98_182 : prog 98 182 = some (.iload_n 1, 1, []) := by decide +kernel
theorem p98_183 : prog 98 183 = some (.invokevirtual 67, 3, [0, 86, 2, 0]) := by decide +kernel
theorem p98_186 : prog 98 186 = some (.iconst (-1), 1, []) := by decide +kernel
theorem p98_187 : prog 98 187 = some (.ixor, 1, []) := by decide +kernel
theorem p98_188 : prog 98 188 = some (.iand, 1, []) := by decide +kernel
theorem p98_189 : prog 98 189 = some (.ifCond .eq 7, 3, [196]) := by decide +kernel
theorem p98_192 : prog 98 192 = some (.iconst 1, 1, []) := by decide +kernel
theorem p98_193 : prog 98 193 = some (.goto 4, 3, [197]) := by decide +kernel
theorem p98_196 : prog 98 196 = some (.iconst 0, 1, []) := by decide +kernel
theorem p98_197 : prog 98 197 = some (.bipush 10, 2, []) := by decide +kernel
theorem p98_199 : prog 98 199 = some (.iload_n 1, 1, []) := by decide +kernel
theorem p98_200 : prog 98 200 = some (.iconst (-1), 1, []) := by decide +kernel
theorem p98_201 : prog 98 201 = some (.invokevirtual 60, 3, [0, 104, 5, 1]) := by decide +kernel
theorem p98_204 : prog 98 204 = some (.aload_n 0, 1, []) := by decide +kernel
theorem p98_205 : prog 98 205 = some (.aload_n 0, 1, []) := by decide +kernel
theorem p98_206 : prog 98 206 = some (.getfield 18, 3, [1, 1, 1]) := by decide +kernel
theorem p98_209 : prog 98 209 = some (.iload_n 1, 1, []) := by decide +kernel
theorem p98_210 : prog 98 210 = some (.invokevirtual 64, 3, [0, 87, 2, 0]) := by decide +kernel
theorem p98_213 : prog 98 213 = some (.aload_n 0, 1, []) := by decide +kernel
theorem p98_214 : prog 98 214 = some (.getfield 12, 3, [1, 0, 1]) := by decide +kernel
theorem p98_217 : prog 98 217 = some (.iload_n 1, 1, []) := by decide +kernel
theorem p98_218 : prog 98 218 = some (.invokevirtual 67, 3, [0, 86, 2, 0]) := by decide +kernel
theorem p98_221 : prog 98 221 = some (.iconst (-1), 1, []) := by decide +kernel
theorem p98_222 : prog 98 222 = some (.ixor, 1, []) := by decide +kernel
theorem p98_223 : prog 98 223 = some (.iand, 1, []) := by decide +kernel
theorem p98_224 : prog 98 224 = some (.ifCond .eq 7, 3, [231]) := by decide +kernel
theorem p98_227 : prog 98 227 = some (.iconst 1, 1, []) := by decide +kernel
theorem p98_228 : prog 98 228 = some (.goto 4, 3, [232]) := by decide +kernel
theorem p98_231 : prog 98 231 = some (.iconst 0, 1, []) := by decide +kernel
theorem p98_232 : prog 98 232 = some (.bipush 11, 2, []) := by decide +kernel
theorem p98_234 : prog 98 234 = some (.iload_n 1, 1, []) := by decide +kernel
theorem p98_235 : prog 98 235 = some (.iconst (-1), 1, []) := by decide +kernel
theorem p98_236 : prog 98 236 = some (.invokevirtual 60, 3, [0, 104, 5, 1]) := by decide +kernel
theorem p98_239 : prog 98 239 = some (.return_, 1, []) := by decide +kernel
theorem p99_0 : prog 99 0 = some (.aload_n 0, 1, []) := by decide +kernel
theorem p99_1 : prog 99 1 = some (.getfield 12, 3, [1, 0, 1]) := by decide +kernel
theorem p99_4 : prog 99 4 = some (.iload_n 1, 1, []) := by decide +kernel
theorem p99_5 : prog 99 5 = some (.iload_n 2, 1, []) := by decide +kernel
theorem p99_6 : prog 99 6 = some (.invokevirtual 70, 3, [0, 89, 3, 0]) := by decide +kernel
theorem p99_9 : prog 99 9 = some (.istore_n 3, 1, []) := by decide +kernel
theorem p99_10 : prog 99 10 = some (.aload_n 0, 1, []) := by decide +kernel
theorem p99_11 : prog 99 11 = some (.getfield 18, 3, [1, 1, 1]) := by decide +kernel
theorem p99_14 : prog 99 14 = some (.iload_n 1, 1, []) := by decide +kernel
theorem p99_15 : prog 99 15 = some (.iload_n 2, 1, []) := by decide +kernel
theorem p99_16 : prog 99 16 = some (.invokevirtual 70, 3, [0, 89, 3, 0]) := by decide +kernel
theorem p99_19 : prog 99 19 = some (.istore 4, 2, []) := by decide +kernel
theorem p99_21 : prog 99 21 = some (.iload_n 3, 1, []) := by decide +kernel
theorem p99_22 : prog 99 22 = some (.ifCond .eq 17, 3, [39]) := by decide +kernel
theorem p99_25 : prog 99 25 = some (.iload 4, 2, []) := by decide +kernel
theorem p99_27 : prog 99 27 = some (.ifCond .eq 12, 3, [39]) := by decide +kernel
theorem p99_30 : prog 99 30 = some (.aload_n 0, 1, []) := by decide +kernel
theorem p99_31 : prog 99 31 = some (.iload_n 1, 1, []) := by decide +kernel
theorem p99_32 : prog 99 32 = some (.iload_n 2, 1, []) := by decide +kernel
theorem p99_33 : prog 99 33 = some (.invokevirtual 74, 3, [0, 101, 3, 1]) := by decide +kernel
theorem p99_36 : prog 99 36 = some (.goto 137, 3, [173]) := by decide +kernel
theorem p99_39 : prog 99 39 = some (.iload_n 3, 1, []) := by decide +kernel
theorem p99_40 : prog 99 40 = some (.ifCond .eq 81, 3, [121]) := by decide +kernel
theorem p99_43 : prog 99 43 = some (.aload_n 0, 1, []) := by decide +kernel
theorem p99_44 : prog 99 44 = some (.getfield 18, 3, [1, 1, 1]) := by decide +kernel
theorem p99_47 : prog 99 47 = some (.iload_n 1, 1, []) := by decide +kernel
theorem p99_48 : prog 99 48 = some (.iload_n 2, 1, []) := by decide +kernel
theorem p99_49 : prog 99 49 = some (.invokevirtual 77, 3, [0, 88, 3, 0]) := by decide +kernel
theorem p99_52 : prog 99 52 = some (.istore 5, 2, []) := by decide +kernel
theorem p99_54 : prog 99 54 = some (.iload 5, 2, []) := by decide +kernel
theorem p99_56 : prog 99 56 = some (.ifCond .ne 16, 3, [72]) := by decide +kernel
theorem p99_59 : prog 99 59 = some (.aload_n 0, 1, []) := by decide +kernel
theorem p99_60 : prog 99 60 = some (.iload_n 1, 1, []) := by decide +kernel
theorem p99_61 : prog 99 61 = some (.iload_n 2, 1, []) := by decide +kernel
theorem p99_62 : prog 99 62 = some (.invokevirtual 80, 3, [0, 100, 3, 1]) := by decide +kernel
theorem p99_65 : prog 99 65 = some (.ifCond .eq 7, 3, [72]) := by decide +kernel
theorem p99_68 : prog 99 68 = some (.iconst 1, 1, []) := by decide +kernel
theorem p99_69 : prog 99 69 = some (.goto 4, 3, [73]) := by decide +kernel
theorem p99_72 : prog 99 72 = some (.iconst 0, 1, []) := by decide +kernel
theorem p99_73 : prog 99 73 = some (.istore 6, 2, []) := by decide +kernel
theorem p99_75 : prog 99 75 = some (.aload_n 0, 1, []) := by decide +kernel
theorem p99_76 : prog 99 76 = some (.iload 5, 2, []) := by decide +kernel
theorem p99_78 : prog 99 78 = some (.ifCond .ne 12, 3, [90]) := by decide +kernel
theorem p99_81 : prog 99 81 = some (.iload 6, 2, []) := by decide +kernel
theorem p99_83 : prog 99 83 = some (.ifCond .ne 7, 3, [90]) := by decide +kernel
theorem p99_86 : prog 99 86 = some (.iconst 1, 1, []) := by decide +kernel
theorem p99_87 : prog 99 87 = some (.goto 4, 3, [91]) := by decide +kernel
theorem p99_90 : prog 99 90 = some (.iconst 0, 1, []) := by decide +kernel
theorem p99_91 : prog 99 91 = some (.bipush 20, 2, []) := by decide +kernel
theorem p99_93 : prog 99 93 = some (.iload_n 1, 1, []) := by decide +kernel
theorem p99_94 : prog 99 94 = some (.iload_n 2, 1, []) := by decide +kernel
theorem p99_95 : prog 99 95 = some (.invokevirtual 60, 3, [0, 104, 5, 1]) := by decide +kernel
theorem p99_98 : prog 99 98 = some (.aload_n 0, 1, []) := by decide +kernel
theorem p99_99 : prog 99 99 = some (.iload 6, 2, []) := by decide +kernel
theorem p99_101 : prog 99 101 = some (.bipush 21, 2, []) := by decide +kernel
theorem p99_103 : prog 99 103 = some (.iload_n 1, 1, []) := by decide +kernel
theorem p99_104 : prog 99 104 = some (.iload_n 2, 1, []) := by decide +kernel
theorem p99_105 : prog 99 105 = some (.invokevirtual 60, 3, [0, 104, 5, 1]) := by decide +kernel
theorem p99_108 : prog 99 108 = some (.aload_n 0, 1, []) := by decide +kernel
theorem p99_109 : prog 99 109 = some (.iload 5, 2, []) := by decide +kernel
theorem p99_111 : prog 99 111 = some (.bipush 22, 2, []) := by decide +kernel
theorem p99_113 : prog 99 113 = some (.iload_n 1, 1, []) := by decide +kernel
theorem p99_114 : prog 99 114 = some (.iload_n 2, 1, []) := by decide +kernel
theorem p99_115 : prog 99 115 = some (.invokevirtual 60, 3, [0, 104, 5, 1]) := by decide +kernel
theorem p99_118 : prog 99 118 = some (.goto 55, 3, [173]) := by decide +kernel
theorem p99_121 : prog 99 121 = some (.iload 4, 2, []) := by decide +kernel
theorem p99_123 : prog 99 123 = some (.ifCond .eq 50, 3, [173]) := by decide +kernel
theorem p99_126 : prog 99 126 = some (.iload_n 2, 1, []) := by decide +kernel
theorem p99_127 : prog 99 127 = some (.invokestatic 83, 3, [4, 27, 1]) := by decide +kernel
theorem p99_130 : prog 99 130 = some (.ifCond .eq 21, 3, [151]) := by decide +kernel
theorem p99_133 : prog 99 133 = some (.aload_n 0, 1, []) := by decide +kernel
theorem p99_134 : prog 99 134 = some (.getfield 18, 3, [1, 1, 1]) := by decide +kernel
theorem p99_137 : prog 99 137 = some (.iload_n 1, 1, []) := by decide +kernel
theorem p99_138 : prog 99 138 = some (.iload_n 2, 1, []) := by decide +kernel
theorem p99_139 : prog 99 139 = some (.invokevirtual 86, 3, [0, 91, 3, 0]) := by decide +kernel
theorem p99_142 : prog 99 142 = some (.iconst 2, 1, []) := by decide +kernel
theorem p99_143 : prog 99 143 = some (.iand, 1, []) := by decide +kernel
theorem p99_144 : prog 99 144 = some (.ifCond .eq 7, 3, [151]) := by decide +kernel
theorem p99_147 : prog 99 147 = some (.iconst 1, 1, []) := by decide +kernel
theorem p99_148 : prog 99 148 = some (.goto 4, 3, [152]) := by decide +kernel
theorem p99_151 : prog 99 151 = some (.iconst 0, 1, []) := by decide +kernel
theorem p99_152 : prog 99 152 = some (.istore 5, 2, []) := by decide +kernel
theorem p99_154 : prog 99 154 = some (.aload_n 0, 1, []) := by decide +kernel
theorem p99_155 : prog 99 155 = some (.iconst 1, 1, []) := by decide +kernel
theorem p99_156 : prog 99 156 = some (.iload 5, 2, []) := by decide +kernel
theorem p99_158 : prog 99 158 = some (.ifCond .eq 8, 3, [166]) := by decide +kernel
theorem p99_161 : prog 99 161 = some (.bipush 24, 2, []) := by decide +kernel
theorem p99_163 : prog 99 163 = some (.goto 5, 3, [168]) := by decide +kernel
theorem p99_166 : prog 99 166 = some (.bipush 23, 2, []) := by decide +kernel
theorem p99_168 : prog 99 168 = some (.iload_n 1, 1, []) := by decide +kernel
theorem p99_169 : prog 99 169 = some (.iload_n 2, 1, []) := by decide +kernel
theorem p99_170 : prog 99 170 = some (.invokevirtual 60, 3, [0, 104, 5, 1]) := by decide +kernel
theorem p99_173 : prog 99 173 = some (.return_, 1, []) := by decide +kernel
theorem p100_0 : prog 100 0 = some (.aload_n 0, 1, []) := by decide +kernel
theorem p100_1 : prog 100 1 = some (.getfield 18, 3, [1, 1, 1]) := by decide +kernel
theorem p100_4 : prog 100 4 = some (.iload_n 1, 1, []) := by decide +kernel
theorem p100_5 : prog 100 5 = some (.invokevirtual 67, 3, [0, 86, 2, 0]) := by decide +kernel
theorem p100_8 : prog 100 8 = some (.istore_n 3, 1, []) := by decide +kernel
theorem p100_9 : prog 100 9 = some (.iconst 0, 1, []) := by decide +kernel
theorem p100_10 : prog 100 10 = some (.istore 4, 2, []) := by decide +kernel
theorem p100_12 : prog 100 12 = some (.iload 4, 2, []) := by decide +kernel
theorem p100_14 : prog 100 14 = some (.bipush 8, 2, []) := by decide +kernel
theorem p100_16 : prog 100 16 = some (.if_icmp .ge 56, 3, [72]) := by decide +kernel
theorem p100_19 : prog 100 19 = some (.iload_n 3, 1, []) := by decide +kernel
theorem p100_20 : prog 100 20 = some (.iload 4, 2, []) := by decide +kernel
theorem p100_22 : prog 100 22 = some (.ishr, 1, []) := by decide +kernel
theorem p100_23 : prog 100 23 = some (.iconst 1, 1, []) := by decide +kernel
theorem p100_24 : prog 100 24 = some (.iand, 1, []) := by decide +kernel
theorem p100_25 : prog 100 25 = some (.iconst 1, 1, []) := by decide +kernel
theorem p100_26 : prog 100 26 = some (.if_icmp .ne 40, 3, [66]) := by decide +kernel
theorem p100_29 : prog 100 29 = some (.aload_n 0, 1, []) := by decide +kernel
theorem p100_30 : prog 100 30 = some (.getfield 18, 3, [1, 1, 1]) := by decide +kernel
theorem p100_33 : prog 100 33 = some (.iload 4, 2, []) := by decide +kernel
theorem p100_35 : prog 100 35 = some (.iload_n 2, 1, []) := by decide +kernel
theorem p100_36 : prog 100 36 = some (.invokevirtual 70, 3, [0, 89, 3, 0]) := by decide +kernel
theorem p100_39 : prog 100 39 = some (.ifCond .eq 27, 3, [66]) := by decide +kernel
theorem p100_42 : prog 100 42 = some (.aload_n 0, 1, []) := by decide +kernel
theorem p100_43 : prog 100 43 = some (.getfield 18, 3, [1, 1, 1]) := by decide +kernel
theorem p100_46 : prog 100 46 = some (.iload 4, 2, []) := by decide +kernel
theorem p100_48 : prog 100 48 = some (.iload_n 2, 1, []) := by decide +kernel
theorem p100_49 : prog 100 49 = some (.invokevirtual 90, 3, [0, 90, 3, 0]) := by decide +kernel
theorem p100_52 : prog 100 52 = some (.aload_n 0, 1, []) := by decide +kernel
theorem p100_53 : prog 100 53 = some (.getfield 12, 3, [1, 0, 1]) := by decide +kernel
theorem p100_56 : prog 100 56 = some (.iload_n 1, 1, []) := by decide +kernel
theorem p100_57 : prog 100 57 = some (.iload_n 2, 1, []) := by decide +kernel
theorem p100_58 : prog 100 58 = some (.invokevirtual 90, 3, [0, 90, 3, 0]) := by decide +kernel
theorem p100_61 : prog 100 61 = some (.if_icmp .lt 5, 3, [66]) := by decide +kernel
theorem p100_64 : prog 100 64 = some (.iconst 1, 1, []) := by decide +kernel
theorem p100_65 : prog 100 65 = some (.ireturn, 1, [1]) := by decide +kernel
theorem p100_66 : prog 100 66 = some (.iinc 4 1, 3, []) := by decide +kernel
theorem p100_69 : prog 100 69 = some (.goto (-57), 3, [12]) := by decide +kernel
theorem p100_72 : prog 100 72 = some (.iconst 0, 1, []) := by decide +kernel
theorem p100_73 : prog 100 73 = some (.ireturn, 1, [1]) := by decide +kernel
theorem p101_0 : prog 101 0 = some (.aload_n 0, 1, []) := by decide +kernel
theorem p101_1 : prog 101 1 = some (.getfield 18, 3, [1, 1, 1]) := by decide +kernel
theorem p101_4 : prog 101 4 = some (.iload_n 1, 1, []) := by decide +kernel
theorem p101_5 : prog 101 5 = some (.iload_n 2, 1, []) := by decide +kernel
theorem p101_6 : prog 101 6 = some (.invokevirtual 90, 3, [0, 90, 3, 0]) := by decide +kernel
theorem p101_9 : prog 101 9 = some (.aload_n 0, 1, []) := by decide +kernel
theorem p101_10 : prog 101 10 = some (.getfield 12, 3, [1, 0, 1]) := by decide +kernel
theorem p101_13 : prog 101 13 = some (.iload_n 1, 1, []) := by decide +kernel
theorem p101_14 : prog 101 14 = some (.iload_n 2, 1, []) := by decide +kernel
theorem p101_15 : prog 101 15 = some (.invokevirtual 90, 3, [0, 90, 3, 0]) := by decide +kernel
theorem p101_18 : prog 101 18 = some (.isub, 1, []) := by decide +kernel
theorem p101_19 : prog 101 19 = some (.istore_n 3, 1, []) := by decide +kernel
theorem p101_20 : prog 101 20 = some (.aload_n 0, 1, []) := by decide +kernel
theorem p101_21 : prog 101 21 = some (.getfield 12, 3, [1, 0, 1]) := by decide +kernel
theorem p101_24 : prog 101 24 = some (.iload_n 1, 1, []) := by decide +kernel
theorem p101_25 : prog 101 25 = some (.iload_n 2, 1, []) := by decide +kernel
theorem p101_26 : prog 101 26 = some (.invokevirtual 86, 3, [0, 91, 3, 0]) := by decide +kernel
theorem p101_29 : prog 101 29 = some (.aload_n 0, 1, []) := by decide +kernel
theorem p101_30 : prog 101 30 = some (.getfield 18, 3, [1, 1, 1]) := by decide +kernel
theorem p101_33 : prog 101 33 = some (.iload_n 1, 1, []) := by decide +kernel
theorem p101_34 : prog 101 34 = some (.iload_n 2, 1, []) := by decide +kernel
theorem p101_35 : prog 101 35 = some (.invokevirtual 86, 3, [0, 91, 3, 0]) := by decide +kernel
theorem p101_38 : prog 101 38 = some (.iconst (-1), 1, []) := by decide +kernel
theorem p101_39 : prog 101 39 = some (.ixor, 1, []) := by decide +kernel
theorem p101_40 : prog 101 40 = some (.iand, 1, []) := by decide +kernel
theorem p101_41 : prog 101 41 = some (.istore 4, 2, []) := by decide +kernel
theorem p101_43 : prog 101 43 = some (.aload_n 0, 1, []) := by decide +kernel
theorem p101_44 : prog 101 44 = some (.getfield 18, 3, [1, 1, 1]) := by decide +kernel
theorem p101_47 : prog 101 47 = some (.iload_n 1, 1, []) := by decide +kernel
theorem p101_48 : prog 101 48 = some (.iload_n 2, 1, []) := by decide +kernel
theorem p101_49 : prog 101 49 = some (.invokevirtual 86, 3, [0, 91, 3, 0]) := by decide +kernel
theorem p101_52 : prog 101 52 = some (.aload_n 0, 1, []) := by decide +kernel
theorem p101_53 : prog 101 53 = some (.getfield 12, 3, [1, 0, 1]) := by decide +kernel
theorem p101_56 : prog 101 56 = some (.iload_n 1, 1, []) := by decide +kernel
theorem p101_57 : prog 101 57 = some (.iload_n 2, 1, []) := by decide +kernel
theorem p101_58 : prog 101 58 = some (.invokevirtual 86, 3, [0, 91, 3, 0]) := by decide +kernel
theorem p101_61 : prog 101 61 = some (.iconst (-1), 1, []) := by decide +kernel
theorem p101_62 : prog 101 62 = some (.ixor, 1, []) := by decide +kernel
theorem p101_63 : prog 101 63 = some (.iand, 1, []) := by decide +kernel
theorem p101_64 : prog 101 64 = some (.istore 5, 2, []) := by decide +kernel
theorem p101_66 : prog 101 66 = some (.aload_n 0, 1, []) := by decide +kernel
theorem p101_67 : prog 101 67 = some (.iload_n 3, 1, []) := by decide +kernel
theorem p101_68 : prog 101 68 = some (.ifCond .ge 7, 3, [75]) := by decide +kernel
theorem p101_71 : prog 101 71 = some (.iconst 1, 1, []) := by decide +kernel
theorem p101_72 : prog 101 72 = some (.goto 4, 3, [76]) := by decide +kernel
theorem p101_75 : prog 101 75 = some (.iconst 0, 1, []) := by decide +kernel
theorem p101_76 : prog 101 76 = some (.bipush 22, 2, []) := by decide +kernel
theorem p101_78 : prog 101 78 = some (.iload_n 1, 1, []) := by decide +kernel
theorem p101_79 : prog 101 79 = some (.iload_n 2, 1, []) := by decide +kernel
theorem p101_80 : prog 101 80 = some (.invokevirtual 60, 3, [0, 104, 5, 1]) := by decide +kernel
theorem p101_83 : prog 101 83 = some (.aload_n 0, 1, []) := by decide +kernel
theorem p101_84 : prog 101 84 = some (.iload_n 3, 1, []) := by decide +kernel
theorem p101_85 : prog 101 85 = some (.ifCond .le 7, 3, [92]) := by decide +kernel
theorem p101_88 : prog 101 88 = some (.iconst 1, 1, []) := by decide +kernel
theorem p101_89 : prog 101 89 = some (.goto 4, 3, [93]) := by decide +kernel
theorem p101_92 : prog 101 92 = some (.iconst 0, 1, []) := by decide +kernel
theorem p101_93 : prog 101 93 = some (.bipush 25, 2, []) := by decide +kernel
theorem p101_95 : prog 101 95 = some (.iload_n 1, 1, []) := by decide +kernel
theorem p101_96 : prog 101 96 = some (.iload_n 2, 1, []) := by decide +kernel
theorem p101_97 : prog 101 97 = some (.invokevirtual 60, 3, [0, 104, 5, 1]) := by decide +kernel
theorem p101_100 : prog 101 100 = some (.aload_n 0, 1, []) := by decide +kernel
theorem p101_101 : prog 101 101 = some (.iload 4, 2, []) := by decide +kernel
theorem p101_103 : prog 101 103 = some (.iload 5, 2, []) := by decide +kernel
theorem p101_105 : prog 101 105 = some (.ior, 1, []) := by decide +kernel
theorem p101_106 : prog 101 106 = some (.iconst 1, 1, []) := by decide +kernel
theorem p101_107 : prog 101 107 = some (.iand, 1, []) := by decide +kernel
theorem p101_108 : prog 101 108 = some (.ifCond .eq 7, 3, [115]) := by decide +kernel
theorem p101_111 : prog 101 111 = some (.iconst 1, 1, []) := by decide +kernel
theorem p101_112 : prog 101 112 = some (.goto 4, 3, [116]) := by decide +kernel
theorem p101_115 : prog 101 115 = some (.iconst 0, 1, []) := by decide +kernel
theorem p101_116 : prog 101 116 = some (.bipush 26, 2, []) := by decide +kernel
theorem p101_118 : prog 101 118 = some (.iload_n 1, 1, []) := by decide +kernel
theorem p101_119 : prog 101 119 = some (.iload_n 2, 1, []) := by decide +kernel
theorem p101_120 : prog 101 120 = some (.invokevirtual 60, 3, [0, 104, 5, 1]) := by decide +kernel
theorem p101_123 : prog 101 123 = some (.aload_n 0, 1, []) := by decide +kernel
theorem p101_124 : prog 101 124 = some (.iload 5, 2, []) := by decide +kernel
theorem p101_126 : prog 101 126 = some (.iconst 4, 1, []) := by decide +kernel
theorem p101_127 : prog 101 127 = some (.iand, 1, []) := by decide +kernel
theorem p101_128 : prog 101 128 = some (.ifCond .eq 7, 3, [135]) := by decide +kernel
theorem p101_131 : prog 101 131 = some (.iconst 1, 1, []) := by decide +kernel
theorem p101_132 : prog 101 132 = some (.goto 4, 3, [136]) := by decide +kernel
theorem p101_135 : prog 101 135 = some (.iconst 0, 1, []) := by decide +kernel
theorem p101_136 : prog 101 136 = some (.bipush 27, 2, []) := by decide +kernel
theorem p101_138 : prog 101 138 = some (.iload_n 1, 1, []) := by decide +kernel
theorem p101_139 : prog 101 139 = some (.iload_n 2, 1, []) := by decide +kernel
theorem p101_140 : prog 101 140 = some (.invokevirtual 60, 3, [0, 104, 5, 1]) := by decide +kernel
theorem p101_143 : prog 101 143 = some (.aload_n 0, 1, []) := by decide +kernel
theorem p101_144 : prog 101 144 = some (.iload 4, 2, []) := by decide +kernel
theorem p101_146 : prog 101 146 = some (.iconst 4, 1, []) := by decide +kernel
theorem p101_147 : prog 101 147 = some (.iand, 1, []) := by decide +kernel
theorem p101_148 : prog 101 148 = some (.ifCond .eq 7, 3, [155]) := by decide +kernel
theorem p101_151 : prog 101 151 = some (.iconst 1, 1, []) := by decide +kernel
theorem p101_152 : prog 101 152 = some (.goto 4, 3, [156]) := by decide +kernel
theorem p101_155 : prog 101 155 = some (.iconst 0, 1, []) := by decide +kernel
theorem p101_156 : prog 101 156 = some (.bipush 28, 2, []) := by decide +kernel
theorem p101_158 : prog 101 158 = some (.iload_n 1, 1, []) := by decide +kernel
theorem p101_159 : prog 101 159 = some (.iload_n 2, 1, []) := by decide +kernel
theorem p101_160 : prog 101 160 = some (.invokevirtual 60, 3, [0, 104, 5, 1]) := by decide +kernel
theorem p101_163 : prog 101 163 = some (.iload_n 2, 1, []) := by decide +kernel
theorem p101_164 : prog 101 164 = some (.invokestatic 83, 3, [4, 27, 1]) := by decide +kernel
theorem p101_167 : prog 101 167 = some (.ifCond .eq 46, 3, [213]) := by decide +kernel
theorem p101_170 : prog 101 170 = some (.aload_n 0, 1, []) := by decide +kernel
theorem p101_171 : prog 101 171 = some (.iload 5, 2, []) := by decide +kernel
theorem p101_173 : prog 101 173 = some (.iconst 2, 1, []) := by decide +kernel
theorem p101_174 : prog 101 174 = some (.iand, 1, []) := by decide +kernel
theorem p101_175 : prog 101 175 = some (.ifCond .eq 7, 3, [182]) := by decide +kernel
theorem p101_178 : prog 101 178 = some (.iconst 1, 1, []) := by decide +kernel
theorem p101_179 : prog 101 179 = some (.goto 4, 3, [183]) := by decide +kernel
theorem p101_182 : prog 101 182 = some (.iconst 0, 1, []) := by decide +kernel
theorem p101_183 : prog 101 183 = some (.bipush 29, 2, []) := by decide +kernel
theorem p101_185 : prog 101 185 = some (.iload_n 1, 1, []) := by decide +kernel
theorem p101_186 : prog 101 186 = some (.iload_n 2, 1, []) := by decide +kernel
theorem p101_187 : prog 101 187 = some (.invokevirtual 60, 3, [0, 104, 5, 1]) := by decide +kernel
theorem p101_190 : prog 101 190 = some (.aload_n 0, 1, []) := by decide +kernel
theorem p101_191 : prog 101 191 = some (.iload 4, 2, []) := by decide +kernel
theorem p101_193 : prog 101 193 = some (.iconst 2, 1, []) := by decide +kernel
theorem p101_194 : prog 101 194 = some (.iand, 1, []) := by decide +kernel
theorem p101_195 : prog 101 195 = some (.ifCond .eq 7, 3, [202]) := by decide +kernel
theorem p101_198 : prog 101 198 = some (.iconst 1, 1, []) := by decide +kernel
theorem p101_199 : prog 101 199 = some (.goto 4, 3, [203]) := by decide +kernel
theorem p101_202 : prog 101 202 = some (.iconst 0, 1, []) := by decide +kernel
theorem p101_203 : prog 101 203 = some (.bipush 30, 2, []) := by decide +kernel
theorem p101_205 : prog 101 205 = some (.iload_n 1, 1, []) := by decide +kernel
theorem p101_206 : prog 101 206 = some (.iload_n 2, 1, []) := by decide +kernel
theorem p101_207 : prog 101 207 = some (.invokevirtual 60, 3, [0, 104, 5, 1]) := by decide +kernel
theorem p101_210 : prog 101 210 = some (.goto 103, 3, [313]) := by decide +kernel
theorem p101_213 : prog 101 213 = some (.aload_n 0, 1, []) := by decide +kernel
theorem p101_214 : prog 101 214 = some (.getfield 12, 3, [1, 0, 1]) := by decide +kernel
theorem p101_217 : prog 101 217 = some (.iload_n 1, 1, []) := by decide +kernel
theorem p101_218 : prog 101 218 = some (.iload_n 2, 1, []) := by decide +kernel
theorem p101_219 : prog 101 219 = some (.invokevirtual 93, 3, [0, 92, 3, 0]) := by decide +kernel
theorem p101_222 : prog 101 222 = some (.istore 6, 2, []) := by decide +kernel
theorem p101_224 : prog 101 224 = some (.aload_n 0, 1, []) := by decide +kernel
theorem p101_225 : prog 101 225 = some (.getfield 18, 3, [1, 1, 1]) := by decide +kernel
theorem p101_228 : prog 101 228 = some (.iload_n 1, 1, []) := by decide +kernel
theorem p101_229 : prog 101 229 = some (.iload_n 2, 1, []) := by decide +kernel
theorem p101_230 : prog 101 230 = some (.invokevirtual 93, 3, [0, 92, 3, 0]) := by decide +kernel
theorem p101_233 : prog 101 233 = some (.istore 7, 2, []) := by decide +kernel
theorem p101_235 : prog 101 235 = some (.aload_n 0, 1, []) := by decide +kernel
theorem p101_236 : prog 101 236 = some (.iload 6, 2, []) := by decide +kernel
theorem p101_238 : prog 101 238 = some (.ifCond .eq 21, 3, [259]) := by decide +kernel
theorem p101_241 : prog 101 241 = some (.iload 7, 2, []) := by decide +kernel
theorem p101_243 : prog 101 243 = some (.ifCond .eq 16, 3, [259]) := by decide +kernel
theorem p101_246 : prog 101 246 = some (.aload_n 0, 1, []) := by decide +kernel
theorem p101_247 : prog 101 247 = some (.iload_n 1, 1, []) := by decide +kernel
theorem p101_248 : prog 101 248 = some (.iload_n 2, 1, []) := by decide +kernel
theorem p101_249 : prog 101 249 = some (.invokevirtual 96, 3, [0, 102, 3, 1]) := by decide +kernel
theorem p101_252 : prog 101 252 = some (.ifCond .eq 7, 3, [259]) := by decide +kernel
theorem p101_255 : prog 101 255 = some (.iconst 1, 1, []) := by decide +kernel
theorem p101_256 : prog 101 256 = some (.goto 4, 3, [260]) := by decide +kernel
theorem p101_259 : prog 101 259 = some (.iconst 0, 1, []) := by decide +kernel
theorem p101_260 : prog 101 260 = some (.bipush 31, 2, []) := by decide +kernel
theorem p101_262 : prog 101 262 = some (.iload_n 1, 1, []) := by decide +kernel
theorem p101_263 : prog 101 263 = some (.iload_n 2, 1, []) := by decide +kernel
theorem p101_264 : prog 101 264 = some (.invokevirtual 60, 3, [0, 104, 5, 1]) := by decide +kernel
theorem p101_267 : prog 101 267 = some (.aload_n 0, 1, []) := by decide +kernel
theorem p101_268 : prog 101 268 = some (.iload 6, 2, []) := by decide +kernel
theorem p101_270 : prog 101 270 = some (.ifCond .eq 12, 3, [282]) := by decide +kernel
theorem p101_273 : prog 101 273 = some (.iload 7, 2, []) := by decide +kernel
theorem p101_275 : prog 101 275 = some (.ifCond .ne 7, 3, [282]) := by decide +kernel
theorem p101_278 : prog 101 278 = some (.iconst 1, 1, []) := by decide +kernel
theorem p101_279 : prog 101 279 = some (.goto 4, 3, [283]) := by decide +kernel
theorem p101_282 : prog 101 282 = some (.iconst 0, 1, []) := by decide +kernel
theorem p101_283 : prog 101 283 = some (.bipush 32, 2, []) := by decide +kernel
theorem p101_285 : prog 101 285 = some (.iload_n 1, 1, []) := by decide +kernel
theorem p101_286 : prog 101 286 = some (.iload_n 2, 1, []) := by decide +kernel
theorem p101_287 : prog 101 287 = some (.invokevirtual 60, 3, [0, 104, 5, 1]) := by decide +kernel
theorem p101_290 : prog 101 290 = some (.aload_n 0, 1, []) := by decide +kernel
theorem p101_291 : prog 101 291 = some (.iload 6, 2, []) := by decide +kernel
theorem p101_293 : prog 101 293 = some (.ifCond .ne 12, 3, [305]) := by decide +kernel
theorem p101_296 : prog 101 296 = some (.iload 7, 2, []) := by decide +kernel
theorem p101_298 : prog 101 298 = some (.ifCond .eq 7, 3, [305]) := by decide +kernel
theorem p101_301 : prog 101 301 = some (.iconst 1, 1, []) := by decide +kernel
theorem p101_302 : prog 101 302 = some (.goto 4, 3, [306]) := by decide +kernel
theorem p101_305 : prog 101 305 = some (.iconst 0, 1, []) := by decide +kernel
theorem p101_306 : prog 101 306 = some (.bipush 33, 2, []) := by decide +kernel
theorem p101_308 : prog 101 308 = some (.iload_n 1, 1, []) := by decide +kernel
theorem p101_309 : prog 101 309 = some (.iload_n 2, 1, []) := by decide +kernel
theorem p101_310 : prog 101 310 = some (.invokevirtual 60, 3, [0, 104, 5, 1]) := by decide +kernel
theorem p101_313 : prog 101 313 = some (.return_, 1, []) := by decide +kernel
theorem p102_0 : prog 102 0 = some (.aload_n 0, 1, []) := by decide +kernel
theorem p102_1 : prog 102 1 = some (.getfield 12, 3, [1, 0, 1]) := by decide +kernel
theorem p102_4 : prog 102 4 = some (.iload_n 1, 1, []) := by decide +kernel
theorem p102_5 : prog 102 5 = some (.iload_n 2, 1, []) := by decide +kernel
theorem p102_6 : prog 102 6 = some (.invokevirtual 99, 3, [0, 93, 3, 0]) := by decide +kernel
theorem p102_9 : prog 102 9 = some (.dstore_n 3, 1, []) := by decide +kernel
theorem p102_10 : prog 102 10 = some (.aload_n 0, 1, []) := by decide +kernel
theorem p102_11 : prog 102 11 = some (.getfield 18, 3, [1, 1, 1]) := by decide +kernel
theorem p102_14 : prog 102 14 = some (.iload_n 1, 1, []) := by decide +kernel
theorem p102_15 : prog 102 15 = some (.iload_n 2, 1, []) := by decide +kernel
theorem p102_16 : prog 102 16 = some (.invokevirtual 99, 3, [0, 93, 3, 0]) := by decide +kernel
theorem p102_19 : prog 102 19 = some (.dstore 5, 2, []) := by decide +kernel
theorem p102_21 : prog 102 21 = some (.dload_n 3, 1, []) := by decide +kernel
theorem p102_22 : prog 102 22 = some (.dload 5, 2, []) := by decide +kernel
theorem p102_24 : prog 102 24 = some (.dcmp .l, 1, []) := by decide +kernel
theorem p102_25 : prog 102 25 = some (.ifCond .eq 21, 3, [46]) := by decide +kernel
theorem p102_28 : prog 102 28 = some (.dload_n 3, 1, []) := by decide +kernel
theorem p102_29 : prog 102 29 = some (.dload_n 3, 1, []) := by decide +kernel
theorem p102_30 : prog 102 30 = some (.dcmp .l, 1, []) := by decide +kernel
theorem p102_31 : prog 102 31 = some (.ifCond .eq 11, 3, [42]) := by decide +kernel
theorem p102_34 : prog 102 34 = some (.dload 5, 2, []) := by decide +kernel
theorem p102_36 : prog 102 36 = some (.dload 5, 2, []) := by decide +kernel
theorem p102_38 : prog 102 38 = some (.dcmp .l, 1, []) := by decide +kernel
theorem p102_39 : prog 102 39 = some (.ifCond .ne 7, 3, [46]) := by decide +kernel
theorem p102_42 : prog 102 42 = some (.iconst 1, 1, []) := by decide +kernel
theorem p102_43 : prog 102 43 = some (.goto 4, 3, [47]) := by decide +kernel
theorem p102_46 : prog 102 46 = some (.iconst 0, 1, []) := by decide +kernel
theorem p102_47 : prog 102 47 = some (.ireturn, 1, [1]) := by decide +kernel
theorem p103_0 : prog 103 0 = some (.aload_n 0, 1, []) := by decide +kernel
theorem p103_1 : prog 103 1 = some (.getfield 12, 3, [1, 0, 1]) := by decide +kernel
theorem p103_4 : prog 103 4 = some (.iload_n 1, 1, []) := by decide +kernel
theorem p103_5 : prog 103 5 = some (.iload_n 2, 1, []) := by decide +kernel
theorem p103_6 : prog 103 6 = some (.invokevirtual 99, 3, [0, 93, 3, 0]) := by decide +kernel
theorem p103_9 : prog 103 9 = some (.dstore_n 3, 1, []) := by decide +kernel
theorem p103_10 : prog 103 10 = some (.aload_n 0, 1, []) := by decide +kernel
theorem p103_11 : prog 103 11 = some (.getfield 18, 3, [1, 1, 1]) := by decide +kernel
theorem p103_14 : prog 103 14 = some (.iload_n 1, 1, []) := by decide +kernel
theorem p103_15 : prog 103 15 = some (.iload_n 2, 1, []) := by decide +kernel
theorem p103_16 : prog 103 16 = some (.invokevirtual 99, 3, [0, 93, 3, 0]) := by decide +kernel
theorem p103_19 : prog 103 19 = some (.dstore 5, 2, []) := by decide +kernel
theorem p103_21 : prog 103 21 = some (.dload_n 3, 1, []) := by decide +kernel
theorem p103_22 : prog 103 22 = some (.dload_n 3, 1, []) := by decide +kernel
theorem p103_23 : prog 103 23 = some (.dcmp .l, 1, []) := by decide +kernel
theorem p103_24 : prog 103 24 = some (.ifCond .eq 5, 3, [29]) := by decide +kernel
theorem p103_27 : prog 103 27 = some (.dload_n 3, 1, []) := by decide +kernel
theorem p103_28 : prog 103 28 = some (.dreturn, 1, []) := by decide +kernel
theorem p103_29 : prog 103 29 = some (.dload 5, 2, []) := by decide +kernel
theorem p103_31 : prog 103 31 = some (.dload 5, 2, []) := by decide +kernel
theorem p103_33 : prog 103 33 = some (.dcmp .l, 1, []) := by decide +kernel
theorem p103_34 : prog 103 34 = some (.ifCond .eq 6, 3, [40]) := by decide +kernel
theorem p103_37 : prog 103 37 = some (.dload 5, 2, []) := by decide +kernel
theorem p103_39 : prog 103 39 = some (.dreturn, 1, []) := by decide +kernel
theorem p103_40 : prog 103 40 = some (.dload 5, 2, []) := by decide +kernel
theorem p103_42 : prog 103 42 = some (.dload_n 3, 1, []) := by decide +kernel
theorem p103_43 : prog 103 43 = some (.dsub, 1, []) := by decide +kernel
theorem p103_44 : prog 103 44 = some (.dreturn, 1, []) := by decide +kernel
theorem p104_0 : prog 104 0 = some (.iload_n 1, 1, []) := by decide +kernel
theorem p104_1 : prog 104 1 = some (.ifCond .eq 22, 3, [23]) := by decide +kernel
theorem p104_4 : prog 104 4 = some (.aload_n 0, 1, []) := by decide +kernel
theorem p104_5 : prog 104 5 = some (.getfield 24, 3, [1, 2, 1]) := by decide +kernel
theorem p104_8 : prog 104 8 = some (.iload_n 2, 1, []) := by decide +kernel
theorem p104_9 : prog 104 9 = some (.aload_n 0, 1, []) := by decide +kernel
theorem p104_10 : prog 104 10 = some (.getfield 12, 3, [1, 0, 1]) := by decide +kernel
theorem p104_13 : prog 104 13 = some (.iload_n 3, 1, []) := by decide +kernel
theorem p104_14 : prog 104 14 = some (.invokevirtual 49, 3, [0, 84, 2, 0]) := by decide +kernel
theorem p104_17 : prog 104 17 = some (.iload_n 3, 1, []) := by decide +kernel
theorem p104_18 : prog 104 18 = some (.iload 4, 2, []) := by decide +kernel
theorem p104_20 : prog 104 20 = some (.invokevirtual 53, 3, [0, 109, 5, 2]) := by decide +kernel
theorem p104_23 : prog 104 23 = some (.return_, 1, []) := by decide +kernel
theorem p105_0 : prog 105 0 = some (.aload_n 0, 1, []) := by decide +kernel
theorem p105_1 : prog 105 1 = some (.invokespecial 3, 3, [6]) := by decide +kernel
theorem p105_4 : prog 105 4 = some (.aload_n 0, 1, []) := by decide +kernel
theorem p105_5 : prog 105 5 = some (.sipush 816, 3, []) := by decide +kernel
theorem p105_8 : prog 105 8 = some (.newarray .int, 2, [0]) := by decide +kernel
theorem p105_10 : prog 105 10 = some (.putfield 9, 3, [2, 0, 1]) := by decide +kernel
theorem p105_13 : prog 105 13 = some (.return_, 1, []) := by decide +kernel
theorem p106_0 : prog 106 0 = some (.aload_n 0, 1, []) := by decide +kernel
theorem p106_1 : prog 106 1 = some (.iconst 0, 1, []) := by decide +kernel
theorem p106_2 : prog 106 2 = some (.putfield 15, 3, [2, 1, 0]) := by decide +kernel
theorem p106_5 : prog 106 5 = some (.return_, 1, []) := by decide +kernel
theorem p107_0 : prog 107 0 = some (.aload_n 0, 1, []) := by decide +kernel
theorem p107_1 : prog 107 1 = some (.getfield 15, 3, [2, 1, 0]) := by decide +kernel
theorem p107_4 : prog 107 4 = some (.ireturn, 1, [0]) := by decide +kernel
theorem p108_0 : prog 108 0 = some (.iload_n 1, 1, []) := by decide +kernel
theorem p108_1 : prog 108 1 = some (.ifCond .lt 15, 3, [16]) := by decide +kernel
theorem p108_4 : prog 108 4 = some (.iload_n 1, 1, []) := by decide +kernel
theorem p108_5 : prog 108 5 = some (.aload_n 0, 1, []) := by decide +kernel
theorem p108_6 : prog 108 6 = some (.getfield 15, 3, [2, 1, 0]) := by decide +kernel
theorem p108_9 : prog 108 9 = some (.if_icmp .ge 7, 3, [16]) := by decide +kernel
theorem p108_12 : prog 108 12 = some (.iconst 1, 1, []) := by decide +kernel
theorem p108_13 : prog 108 13 = some (.goto 4, 3, [17]) := by decide +kernel
theorem p108_16 : prog 108 16 = some (.iconst 0, 1, []) := by decide +kernel
theorem p108_17 : prog 108 17 = some (.ireturn, 1, [1]) := by decide +kernel
theorem p109_0 : prog 109 0 = some (.aload_n 0, 1, []) := by decide +kernel
theorem p109_1 : prog 109 1 = some (.getfield 15, 3, [2, 1, 0]) := by decide +kernel
theorem p109_4 : prog 109 4 = some (.sipush 816, 3, []) := by decide +kernel
theorem p109_7 : prog 109 7 = some (.if_icmp .ge 40, 3, [47]) := by decide +kernel
theorem p109_10 : prog 109 10 = some (.aload_n 0, 1, []) := by decide +kernel
theorem p109_11 : prog 109 11 = some (.getfield 9, 3, [2, 0, 1]) := by decide +kernel
theorem p109_14 : prog 109 14 = some (.aload_n 0, 1, []) := by decide +kernel
theorem p109_15 : prog 109 15 = some (.getfield 15, 3, [2, 1, 0]) := by decide +kernel
theorem p109_18 : prog 109 18 = some (.iload_n 2, 1, []) := by decide +kernel
theorem p109_19 : prog 109 19 = some (.bipush 19, 2, []) := by decide +kernel
theorem p109_21 : prog 109 21 = some (.ishl, 1, []) := by decide +kernel
theorem p109_22 : prog 109 22 = some (.iload_n 3, 1, []) := by decide +kernel
theorem p109_23 : prog 109 23 = some (.bipush 16, 2, []) := by decide +kernel
theorem p109_25 : prog 109 25 = some (.ishl, 1, []) := by decide +kernel
theorem p109_26 : prog 109 26 = some (.ior, 1, []) := by decide +kernel
theorem p109_27 : prog 109 27 = some (.iload_n 1, 1, []) := by decide +kernel
theorem p109_28 : prog 109 28 = some (.iconst 5, 1, []) := by decide +kernel
theorem p109_29 : prog 109 29 = some (.ishl, 1, []) := by decide +kernel
theorem p109_30 : prog 109 30 = some (.ior, 1, []) := by decide +kernel
theorem p109_31 : prog 109 31 = some (.iload 4, 2, []) := by decide +kernel
theorem p109_33 : prog 109 33 = some (.iconst 1, 1, []) := by decide +kernel
theorem p109_34 : prog 109 34 = some (.iadd, 1, []) := by decide +kernel
theorem p109_35 : prog 109 35 = some (.ior, 1, []) := by decide +kernel
theorem p109_36 : prog 109 36 = some (.iastore, 1, []) := by decide +kernel
theorem p109_37 : prog 109 37 = some (.aload_n 0, 1, []) := by decide +kernel
theorem p109_38 : prog 109 38 = some (.dup, 1, []) := by decide +kernel
theorem p109_39 : prog 109 39 = some (.getfield 15, 3, [2, 1, 0]) := by decide +kernel
theorem p109_42 : prog 109 42 = some (.iconst 1, 1, []) := by decide +kernel
theorem p109_43 : prog 109 43 = some (.iadd, 1, []) := by decide +kernel
theorem p109_44 : prog 109 44 = some (.putfield 15, 3, [2, 1, 0]) := by decide +kernel
theorem p109_47 : prog 109 47 = some (.return_, 1, []) := by decide +kernel
theorem p110_0 : prog 110 0 = some (.iload_n 0, 1, []) := by decide +kernel
theorem p110_1 : prog 110 1 = some (.iconst (-1), 1, []) := by decide +kernel
theorem p110_2 : prog 110 2 = some (.if_icmp .ne 5, 3, [7]) := by decide +kernel
theorem p110_5 : prog 110 5 = some (.iconst 0, 1, []) := by decide +kernel
theorem p110_6 : prog 110 6 = some (.ireturn, 1, [0]) := by decide +kernel
theorem p110_7 : prog 110 7 = some (.iload_n 0, 1, []) := by decide +kernel
theorem p110_8 : prog 110 8 = some (.invokestatic 19, 3, [4, 28, 1]) := by decide +kernel
theorem p110_11 : prog 110 11 = some (.istore_n 1, 1, []) := by decide +kernel
theorem p110_12 : prog 110 12 = some (.iload_n 0, 1, []) := by decide +kernel
theorem p110_13 : prog 110 13 = some (.invokestatic 23, 3, [4, 27, 1]) := by decide +kernel
theorem p110_16 : prog 110 16 = some (.ifCond .eq 9, 3, [25]) := by decide +kernel
theorem p110_19 : prog 110 19 = some (.iload_n 1, 1, []) := by decide +kernel
theorem p110_20 : prog 110 20 = some (.iconst 3, 1, []) := by decide +kernel
theorem p110_21 : prog 110 21 = some (.irem, 1, []) := by decide +kernel
theorem p110_22 : prog 110 22 = some (.goto 10, 3, [32]) := by decide +kernel
theorem p110_25 : prog 110 25 = some (.iconst 3, 1, []) := by decide +kernel
theorem p110_26 : prog 110 26 = some (.iload_n 1, 1, []) := by decide +kernel
theorem p110_27 : prog 110 27 = some (.iconst 1, 1, []) := by decide +kernel
theorem p110_28 : prog 110 28 = some (.iadd, 1, []) := by decide +kernel
theorem p110_29 : prog 110 29 = some (.iconst 3, 1, []) := by decide +kernel
theorem p110_30 : prog 110 30 = some (.irem, 1, []) := by decide +kernel
theorem p110_31 : prog 110 31 = some (.iadd, 1, []) := by decide +kernel
theorem p110_32 : prog 110 32 = some (.istore_n 2, 1, []) := by decide +kernel
theorem p110_33 : prog 110 33 = some (.iconst 1, 1, []) := by decide +kernel
theorem p110_34 : prog 110 34 = some (.iload_n 1, 1, []) := by decide +kernel
theorem p110_35 : prog 110 35 = some (.iconst 3, 1, []) := by decide +kernel
theorem p110_36 : prog 110 36 = some (.idiv, 1, []) := by decide +kernel
theorem p110_37 : prog 110 37 = some (.bipush 6, 2, []) := by decide +kernel
theorem p110_39 : prog 110 39 = some (.imul, 1, []) := by decide +kernel
theorem p110_40 : prog 110 40 = some (.iadd, 1, []) := by decide +kernel
theorem p110_41 : prog 110 41 = some (.iload_n 2, 1, []) := by decide +kernel
theorem p110_42 : prog 110 42 = some (.iadd, 1, []) := by decide +kernel
theorem p110_43 : prog 110 43 = some (.ireturn, 1, [0]) := by decide +kernel
theorem p111_0 : prog 111 0 = some (.aload_n 0, 1, []) := by decide +kernel
theorem p111_1 : prog 111 1 = some (.getfield 15, 3, [2, 1, 0]) := by decide +kernel
theorem p111_4 : prog 111 4 = some (.istore_n 3, 1, []) := by decide +kernel
theorem p111_5 : prog 111 5 = some (.aload_n 0, 1, []) := by decide +kernel
theorem p111_6 : prog 111 6 = some (.iconst 0, 1, []) := by decide +kernel
theorem p111_7 : prog 111 7 = some (.putfield 15, 3, [2, 1, 0]) := by decide +kernel
theorem p111_10 : prog 111 10 = some (.iconst 0, 1, []) := by decide +kernel
theorem p111_11 : prog 111 11 = some (.istore 4, 2, []) := by decide +kernel
theorem p111_13 : prog 111 13 = some (.iload 4, 2, []) := by decide +kernel
theorem p111_15 : prog 111 15 = some (.iload_n 3, 1, []) := by decide +kernel
theorem p111_16 : prog 111 16 = some (.if_icmp .ge 70, 3, [86]) := by decide +kernel
theorem p111_19 : prog 111 19 = some (.aload_n 0, 1, []) := by decide +kernel
theorem p111_20 : prog 111 20 = some (.iload 4, 2, []) := by decide +kernel
theorem p111_22 : prog 111 22 = some (.aload_n 2, 1, []) := by decide +kernel
theorem p111_23 : prog 111 23 = some (.invokevirtual 27, 3, [0, 113, 3, 2]) := by decide +kernel
theorem p111_26 : prog 111 26 = some (.aload_n 1, 1, []) := by decide +kernel
theorem p111_27 : prog 111 27 = some (.aload_n 0, 1, []) := by decide +kernel
theorem p111_28 : prog 111 28 = some (.iload 4, 2, []) := by decide +kernel
theorem p111_30 : prog 111 30 = some (.invokevirtual 31, 3, [0, 114, 2, 2]) := by decide +kernel
theorem p111_33 : prog 111 33 = some (.aload_n 2, 1, []) := by decide +kernel
theorem p111_34 : prog 111 34 = some (.invokevirtual 34, 3, [0, 155, 3, 7]) := by decide +kernel
theorem p111_37 : prog 111 37 = some (.istore 5, 2, []) := by decide +kernel
theorem p111_39 : prog 111 39 = some (.iload 5, 2, []) := by decide +kernel
theorem p111_41 : prog 111 41 = some (.ifCond .le 39, 3, [80]) := by decide +kernel
theorem p111_44 : prog 111 44 = some (.iconst 3, 1, []) := by decide +kernel
theorem p111_45 : prog 111 45 = some (.iload 5, 2, []) := by decide +kernel
theorem p111_47 : prog 111 47 = some (.isub, 1, []) := by decide +kernel
theorem p111_48 : prog 111 48 = some (.istore 6, 2, []) := by decide +kernel
theorem p111_50 : prog 111 50 = some (.aload_n 0, 1, []) := by decide +kernel
theorem p111_51 : prog 111 51 = some (.aload_n 0, 1, []) := by decide +kernel
theorem p111_52 : prog 111 52 = some (.getfield 9, 3, [2, 0, 1]) := by decide +kernel
theorem p111_55 : prog 111 55 = some (.iload 4, 2, []) := by decide +kernel
theorem p111_57 : prog 111 57 = some (.iaload, 1, []) := by decide +kernel
theorem p111_58 : prog 111 58 = some (.iload 6, 2, []) := by decide +kernel
theorem p111_60 : prog 111 60 = some (.bipush 21, 2, []) := by decide +kernel
theorem p111_62 : prog 111 62 = some (.ishl, 1, []) := by decide +kernel
theorem p111_63 : prog 111 63 = some (.ior, 1, []) := by decide +kernel
theorem p111_64 : prog 111 64 = some (.aload_n 0, 1, []) := by decide +kernel
theorem p111_65 : prog 111 65 = some (.iload 4, 2, []) := by decide +kernel
theorem p111_67 : prog 111 67 = some (.invokevirtual 40, 3, [0, 117, 2, 2]) := by decide +kernel
theorem p111_70 : prog 111 70 = some (.invokestatic 43, 3, [1, 110, 1]) := by decide +kernel
theorem p111_73 : prog 111 73 = some (.bipush 11, 2, []) := by decide +kernel
theorem p111_75 : prog 111 75 = some (.ishl, 1, []) := by decide +kernel
theorem p111_76 : prog 111 76 = some (.ior, 1, []) := by decide +kernel
theorem p111_77 : prog 111 77 = some (.invokevirtual 46, 3, [0, 112, 2, 2]) := by decide +kernel
theorem p111_80 : prog 111 80 = some (.iinc 4 1, 3, []) := by decide +kernel
theorem p111_83 : prog 111 83 = some (.goto (-70), 3, [13]) := by decide +kernel
theorem p111_86 : prog 111 86 = some (.return_, 1, []) := by decide +kernel
theorem p112_0 : prog 112 0 = some (.aload_n 0, 1, []) := by decide +kernel
theorem p112_1 : prog 112 1 = some (.getfield 15, 3, [2, 1, 0]) := by decide +kernel
theorem p112_4 : prog 112 4 = some (.istore_n 2, 1, []) := by decide +kernel
theorem p112_5 : prog 112 5 = some (.iload_n 2, 1, []) := by decide +kernel
theorem p112_6 : prog 112 6 = some (.ifCond .le 35, 3, [41]) := by decide +kernel
theorem p112_9 : prog 112 9 = some (.aload_n 0, 1, []) := by decide +kernel
theorem p112_10 : prog 112 10 = some (.getfield 9, 3, [2, 0, 1]) := by decide +kernel
theorem p112_13 : prog 112 13 = some (.iload_n 2, 1, []) := by decide +kernel
theorem p112_14 : prog 112 14 = some (.iconst 1, 1, []) := by decide +kernel
theorem p112_15 : prog 112 15 = some (.isub, 1, []) := by decide +kernel
theorem p112_16 : prog 112 16 = some (.iaload, 1, []) := by decide +kernel
theorem p112_17 : prog 112 17 = some (.iload_n 1, 1, []) := by decide +kernel
theorem p112_18 : prog 112 18 = some (.if_icmp .le 23, 3, [41]) := by decide +kernel
theorem p112_21 : prog 112 21 = some (.aload_n 0, 1, []) := by decide +kernel
theorem p112_22 : prog 112 22 = some (.getfield 9, 3, [2, 0, 1]) := by decide +kernel
theorem p112_25 : prog 112 25 = some (.iload_n 2, 1, []) := by decide +kernel
theorem p112_26 : prog 112 26 = some (.aload_n 0, 1, []) := by decide +kernel
theorem p112_27 : prog 112 27 = some (.getfield 9, 3, [2, 0, 1]) := by decide +kernel
theorem p112_30 : prog 112 30 = some (.iload_n 2, 1, []) := by decide +kernel
theorem p112_31 : prog 112 31 = some (.iconst 1, 1, []) := by decide +kernel
theorem p112_32 : prog 112 32 = some (.isub, 1, []) := by decide +kernel
theorem p112_33 : prog 112 33 = some (.iaload, 1, []) := by decide +kernel
theorem p112_34 : prog 112 34 = some (.iastore, 1, []) := by decide +kernel
theorem p112_35 : prog 112 35 = some (.iinc 2 (-1), 3, []) := by decide +kernel
theorem p112_38 : prog 112 38 = some (.goto (-33), 3, [5]) := by decide +kernel
theorem p112_41 : prog 112 41 = some (.aload_n 0, 1, []) := by decide +kernel
theorem p112_42 : prog 112 42 = some (.getfield 9, 3, [2, 0, 1]) := by decide +kernel
theorem p112_45 : prog 112 45 = some (.iload_n 2, 1, []) := by decide +kernel
theorem p112_46 : prog 112 46 = some (.iload_n 1, 1, []) := by decide +kernel
theorem p112_47 : prog 112 47 = some (.iastore, 1, []) := by decide +kernel
theorem p112_48 : prog 112 48 = some (.aload_n 0, 1, []) := by decide +kernel
theorem p112_49 : prog 112 49 = some (.dup, 1, []) := by decide +kernel
theorem p112_50 : prog 112 50 = some (.getfield 15, 3, [2, 1, 0]) := by decide +kernel
theorem p112_53 : prog 112 53 = some (.iconst 1, 1, []) := by decide +kernel
theorem p112_54 : prog 112 54 = some (.iadd, 1, []) := by decide +kernel
theorem p112_55 : prog 112 55 = some (.putfield 15, 3, [2, 1, 0]) := by decide +kernel
theorem p112_58 : prog 112 58 = some (.return_, 1, []) := by decide +kernel
theorem p113_0 : prog 113 0 = some (.aload_n 2, 1, []) := by decide +kernel
theorem p113_1 : prog 113 1 = some (.aload_n 0, 1, []) := by decide +kernel
theorem p113_2 : prog 113 2 = some (.getfield 9, 3, [2, 0, 1]) := by decide +kernel
theorem p113_5 : prog 113 5 = some (.iload_n 1, 1, []) := by decide +kernel
theorem p113_6 : prog 113 6 = some (.iaload, 1, []) := by decide +kernel
theorem p113_7 : prog 113 7 = some (.bipush 19, 2, []) := by decide +kernel
theorem p113_9 : prog 113 9 = some (.ishr, 1, []) := by decide +kernel
theorem p113_10 : prog 113 10 = some (.iconst 3, 1, []) := by decide +kernel
theorem p113_11 : prog 113 11 = some (.iand, 1, []) := by decide +kernel
theorem p113_12 : prog 113 12 = some (.aload_n 0, 1, []) := by decide +kernel
theorem p113_13 : prog 113 13 = some (.iload_n 1, 1, []) := by decide +kernel
theorem p113_14 : prog 113 14 = some (.invokevirtual 50, 3, [0, 116, 2, 2]) := by decide +kernel
theorem p113_17 : prog 113 17 = some (.aload_n 0, 1, []) := by decide +kernel
theorem p113_18 : prog 113 18 = some (.iload_n 1, 1, []) := by decide +kernel
theorem p113_19 : prog 113 19 = some (.invokevirtual 40, 3, [0, 117, 2, 2]) := by decide +kernel
theorem p113_22 : prog 113 22 = some (.invokevirtual 53, 3, [0, 121, 4, 3]) := by decide +kernel
theorem p113_25 : prog 113 25 = some (.return_, 1, []) := by decide +kernel
theorem p114_0 : prog 114 0 = some (.aload_n 0, 1, []) := by decide +kernel
theorem p114_1 : prog 114 1 = some (.getfield 9, 3, [2, 0, 1]) := by decide +kernel
theorem p114_4 : prog 114 4 = some (.iload_n 1, 1, []) := by decide +kernel
theorem p114_5 : prog 114 5 = some (.iaload, 1, []) := by decide +kernel
theorem p114_6 : prog 114 6 = some (.iconst 5, 1, []) := by decide +kernel
theorem p114_7 : prog 114 7 = some (.ishr, 1, []) := by decide +kernel
theorem p114_8 : prog 114 8 = some (.bipush 63, 2, []) := by decide +kernel
theorem p114_10 : prog 114 10 = some (.iand, 1, []) := by decide +kernel
theorem p114_11 : prog 114 11 = some (.ireturn, 1, [0]) := by decide +kernel
theorem p115_0 : prog 115 0 = some (.iconst 3, 1, []) := by decide +kernel
theorem p115_1 : prog 115 1 = some (.aload_n 0, 1, []) := by decide +kernel
theorem p115_2 : prog 115 2 = some (.getfield 9, 3, [2, 0, 1]) := by decide +kernel
theorem p115_5 : prog 115 5 = some (.iload_n 1, 1, []) := by decide +kernel
theorem p115_6 : prog 115 6 = some (.iaload, 1, []) := by decide +kernel
theorem p115_7 : prog 115 7 = some (.bipush 21, 2, []) := by decide +kernel
theorem p115_9 : prog 115 9 = some (.ishr, 1, []) := by decide +kernel
theorem p115_10 : prog 115 10 = some (.isub, 1, []) := by decide +kernel
theorem p115_11 : prog 115 11 = some (.ireturn, 1, [0]) := by decide +kernel
theorem p116_0 : prog 116 0 = some (.aload_n 0, 1, []) := by decide +kernel
theorem p116_1 : prog 116 1 = some (.getfield 9, 3, [2, 0, 1]) := by decide +kernel
theorem p116_4 : prog 116 4 = some (.iload_n 1, 1, []) := by decide +kernel
theorem p116_5 : prog 116 5 = some (.iaload, 1, []) := by decide +kernel
theorem p116_6 : prog 116 6 = some (.bipush 16, 2, []) := by decide +kernel
theorem p116_8 : prog 116 8 = some (.ishr, 1, []) := by decide +kernel
theorem p116_9 : prog 116 9 = some (.bipush 7, 2, []) := by decide +kernel
theorem p116_11 : prog 116 11 = some (.iand, 1, []) := by decide +kernel
theorem p116_12 : prog 116 12 = some (.ireturn, 1, [0]) := by decide +kernel
theorem p117_0 : prog 117 0 = some (.aload_n 0, 1, []) := by decide +kernel
theorem p117_1 : prog 117 1 = some (.getfield 9, 3, [2, 0, 1]) := by decide +kernel
theorem p117_4 : prog 117 4 = some (.iload_n 1, 1, []) := by decide +kernel
theorem p117_5 : prog 117 5 = some (.iaload, 1, []) := by decide +kernel
theorem p117_6 : prog 117 6 = some (.bipush 31, 2, []) := by decide +kernel
theorem p117_8 : prog 117 8 = some (.iand, 1, []) := by decide +kernel
theorem p117_9 : prog 117 9 = some (.iconst 1, 1, []) := by decide +kernel
theorem p117_10 : prog 117 10 = some (.isub, 1, []) := by decide +kernel
theorem p117_11 : prog 117 11 = some (.ireturn, 1, [0]) := by decide +kernel
theorem p118_0 : prog 118 0 = some (.iconst 0, 1, []) := by decide +kernel
theorem p118_1 : prog 118 1 = some (.istore_n 2, 1, []) := by decide +kernel
theorem p118_2 : prog 118 2 = some (.iconst 0, 1, []) := by decide +kernel
theorem p118_3 : prog 118 3 = some (.istore_n 3, 1, []) := by decide +kernel
theorem p118_4 : prog 118 4 = some (.iload_n 3, 1, []) := by decide +kernel
theorem p118_5 : prog 118 5 = some (.aload_n 0, 1, []) := by decide +kernel
theorem p118_6 : prog 118 6 = some (.getfield 15, 3, [2, 1, 0]) := by decide +kernel
theorem p118_9 : prog 118 9 = some (.if_icmp .ge 21, 3, [30]) := by decide +kernel
theorem p118_12 : prog 118 12 = some (.aload_n 0, 1, []) := by decide +kernel
theorem p118_13 : prog 118 13 = some (.iload_n 3, 1, []) := by decide +kernel
theorem p118_14 : prog 118 14 = some (.invokevirtual 58, 3, [0, 115, 2, 2]) := by decide +kernel
theorem p118_17 : prog 118 17 = some (.iload_n 1, 1, []) := by decide +kernel
theorem p118_18 : prog 118 18 = some (.if_icmp .ne 6, 3, [24]) := by decide +kernel
theorem p118_21 : prog 118 21 = some (.iinc 2 1, 3, []) := by decide +kernel
theorem p118_24 : prog 118 24 = some (.iinc 3 1, 3, []) := by decide +kernel
theorem p118_27 : prog 118 27 = some (.goto (-23), 3, [4]) := by decide +kernel
theorem p118_30 : prog 118 30 = some (.iload_n 2, 1, []) := by decide +kernel
theorem p118_31 : prog 118 31 = some (.ireturn, 1, [0]) := by decide +kernel
theorem p119_0 : prog 119 0 = some (.iconst 0, 1, []) := by decide +kernel
theorem p119_1 : prog 119 1 = some (.istore_n 1, 1, []) := by decide +kernel
theorem p119_2 : prog 119 2 = some (.iload_n 1, 1, []) := by decide +kernel
theorem p119_3 : prog 119 3 = some (.aload_n 0, 1, []) := by decide +kernel
theorem p119_4 : prog 119 4 = some (.getfield 15, 3, [2, 1, 0]) := by decide +kernel
theorem p119_7 : prog 119 7 = some (.if_icmp .ge 22, 3, [29]) := by decide +kernel
theorem p119_10 : prog 119 10 = some (.aload_n 0, 1, []) := by decide +kernel
theorem p119_11 : prog 119 11 = some (.iload_n 1, 1, []) := by decide +kernel
theorem p119_12 : prog 119 12 = some (.invokevirtual 31, 3, [0, 114, 2, 2]) := by decide +kernel
theorem p119_15 : prog 119 15 = some (.invokestatic 61, 3, [4, 30, 1]) := by decide +kernel
theorem p119_18 : prog 119 18 = some (.ifCond .eq 5, 3, [23]) := by decide +kernel
theorem p119_21 : prog 119 21 = some (.iconst 1, 1, []) := by decide +kernel
theorem p119_22 : prog 119 22 = some (.ireturn, 1, [1]) := by decide +kernel
theorem p119_23 : prog 119 23 = some (.iinc 1 1, 3, []) := by decide +kernel
theorem p119_26 : prog 119 26 = some (.goto (-24), 3, [2]) := by decide +kernel
theorem p119_29 : prog 119 29 = some (.iconst 0, 1, []) := by decide +kernel
theorem p119_30 : prog 119 30 = some (.ireturn, 1, [1]) := by decide +kernel
theorem p120_0 : prog 120 0 = some (.aload_n 0, 1, []) := by decide +kernel
theorem p120_1 : prog 120 1 = some (.invokespecial 3, 3, [6]) := by decide +kernel
theorem p120_4 : prog 120 4 = some (.aload_n 0, 1, []) := by decide +kernel
theorem p120_5 : prog 120 5 = some (.bipush 15, 2, []) := by decide +kernel
theorem p120_7 : prog 120 7 = some (.newarray .char, 2, [1]) := by decide +kernel
theorem p120_9 : prog 120 9 = some (.putfield 9, 3, [3, 0, 1]) := by decide +kernel
theorem p120_12 : prog 120 12 = some (.return_, 1, []) := by decide +kernel
theorem p121_0 : prog 121 0 = some (.aload_n 0, 1, []) := by decide +kernel
theorem p121_1 : prog 121 1 = some (.iconst 0, 1, []) := by decide +kernel
theorem p121_2 : prog 121 2 = some (.putfield 15, 3, [3, 1, 0]) := by decide +kernel
theorem p121_5 : prog 121 5 = some (.aload_n 0, 1, []) := by decide +kernel
theorem p121_6 : prog 121 6 = some (.bipush 97, 2, []) := by decide +kernel
theorem p121_8 : prog 121 8 = some (.iload_n 1, 1, []) := by decide +kernel
theorem p121_9 : prog 121 9 = some (.iadd, 1, []) := by decide +kernel
theorem p121_10 : prog 121 10 = some (.i2c, 1, []) := by decide +kernel
theorem p121_11 : prog 121 11 = some (.invokevirtual 19, 3, [0, 122, 2, 3]) := by decide +kernel
theorem p121_14 : prog 121 14 = some (.aload_n 0, 1, []) := by decide +kernel
theorem p121_15 : prog 121 15 = some (.bipush 46, 2, []) := by decide +kernel
theorem p121_17 : prog 121 17 = some (.invokevirtual 19, 3, [0, 122, 2, 3]) := by decide +kernel
theorem p121_20 : prog 121 20 = some (.aload_n 0, 1, []) := by decide +kernel
theorem p121_21 : prog 121 21 = some (.bipush 65, 2, []) := by decide +kernel
theorem p121_23 : prog 121 23 = some (.iload_n 2, 1, []) := by decide +kernel
theorem p121_24 : prog 121 24 = some (.iadd, 1, []) := by decide +kernel
theorem p121_25 : prog 121 25 = some (.i2c, 1, []) := by decide +kernel
theorem p121_26 : prog 121 26 = some (.invokevirtual 19, 3, [0, 122, 2, 3]) := by decide +kernel
theorem p121_29 : prog 121 29 = some (.iload_n 3, 1, []) := by decide +kernel
theorem p121_30 : prog 121 30 = some (.iconst (-1), 1, []) := by decide +kernel
theorem p121_31 : prog 121 31 = some (.if_icmp .eq 79, 3, [110]) := by decide +kernel
theorem p121_34 : prog 121 34 = some (.aload_n 0, 1, []) := by decide +kernel
theorem p121_35 : prog 121 35 = some (.bipush 46, 2, []) := by decide +kernel
theorem p121_37 : prog 121 37 = some (.invokevirtual 19, 3, [0, 122, 2, 3]) := by decide +kernel
theorem p121_40 : prog 121 40 = some (.aload_n 0, 1, []) := by decide +kernel
theorem p121_41 : prog 121 41 = some (.bipush 97, 2, []) := by decide +kernel
theorem p121_43 : prog 121 43 = some (.iload_n 3, 1, []) := by decide +kernel
theorem p121_44 : prog 121 44 = some (.invokestatic 23, 3, [4, 28, 1]) := by decide +kernel
theorem p121_47 : prog 121 47 = some (.iconst 3, 1, []) := by decide +kernel
theorem p121_48 : prog 121 48 = some (.idiv, 1, []) := by decide +kernel
theorem p121_49 : prog 121 49 = some (.iadd, 1, []) := by decide +kernel
theorem p121_50 : prog 121 50 = some (.i2c, 1, []) := by decide +kernel
theorem p121_51 : prog 121 51 = some (.invokevirtual 19, 3, [0, 122, 2, 3]) := by decide +kernel
theorem p121_54 : prog 121 54 = some (.iload_n 3, 1, []) := by decide +kernel
theorem p121_55 : prog 121 55 = some (.invokestatic 27, 3, [4, 27, 1]) := by decide +kernel
theorem p121_58 : prog 121 58 = some (.ifCond .eq 13, 3, [71]) := by decide +kernel
theorem p121_61 : prog 121 61 = some (.iload_n 3, 1, []) := by decide +kernel
theorem p121_62 : prog 121 62 = some (.invokestatic 23, 3, [4, 28, 1]) := by decide +kernel
theorem p121_65 : prog 121 65 = some (.invokestatic 31, 3, [1, 124, 1]) := by decide +kernel
theorem p121_68 : prog 121 68 = some (.goto 10, 3, [78]) := by decide +kernel
theorem p121_71 : prog 121 71 = some (.iload_n 3, 1, []) := by decide +kernel
theorem p121_72 : prog 121 72 = some (.invokestatic 23, 3, [4, 28, 1]) := by decide +kernel
theorem p121_75 : prog 121 75 = some (.invokestatic 35, 3, [1, 123, 1]) := by decide +kernel
theorem p121_78 : prog 121 78 = some (.astore 4, 2, []) := by decide +kernel
theorem p121_80 : prog 121 80 = some (.iconst 0, 1, []) := by decide +kernel
theorem p121_81 : prog 121 81 = some (.istore 5, 2, []) := by decide +kernel
theorem p121_83 : prog 121 83 = some (.iload 5, 2, []) := by decide +kernel
theorem p121_85 : prog 121 85 = some (.aload 4, 2, []) := by decide +kernel
theorem p121_87 : prog 121 87 = some (.invokevirtual 38, 3, [8]) := by decide +kernel
theorem p121_90 : prog 121 90 = some (.if_icmp .ge 20, 3, [110]) := by decide +kernel
theorem p121_93 : prog 121 93 = some (.aload_n 0, 1, []) := by decide +kernel
theorem p121_94 : prog 121 94 = some (.aload 4, 2, []) := by decide +kernel
theorem p121_96 : prog 121 96 = some (.iload 5, 2, []) := by decide +kernel
theorem p121_98 : prog 121 98 = some (.invokevirtual 43, 3, [9]) := by decide +kernel
theorem p121_101 : prog 121 101 = some (.invokevirtual 19, 3, [0, 122, 2, 3]) := by decide +kernel
theorem p121_104 : prog 121 104 = some (.iinc 5 1, 3, []) := by decide +kernel
theorem p121_107 : prog 121 107 = some (.goto (-24), 3, [83]) := by decide +kernel
theorem p121_110 : prog 121 110 = some (.return_, 1, []) := by decide +kernel
theorem p122_0 : prog 122 0 = some (.aload_n 0, 1, []) := by decide +kernel
theorem p122_1 : prog 122 1 = some (.getfield 15, 3, [3, 1, 0]) := by decide +kernel
theorem p122_4 : prog 122 4 = some (.bipush 15, 2, []) := by decide +kernel
theorem p122_6 : prog 122 6 = some (.if_icmp .ge 23, 3, [29]) := by decide +kernel
theorem p122_9 : prog 122 9 = some (.aload_n 0, 1, []) := by decide +kernel
theorem p122_10 : prog 122 10 = some (.getfield 9, 3, [3, 0, 1]) := by decide +kernel
theorem p122_13 : prog 122 13 = some (.aload_n 0, 1, []) := by decide +kernel
theorem p122_14 : prog 122 14 = some (.getfield 15, 3, [3, 1, 0]) := by decide +kernel
theorem p122_17 : prog 122 17 = some (.iload_n 1, 1, []) := by decide +kernel
theorem p122_18 : prog 122 18 = some (.castore, 1, []) := by decide +kernel
theorem p122_19 : prog 122 19 = some (.aload_n 0, 1, []) := by decide +kernel
theorem p122_20 : prog 122 20 = some (.dup, 1, []) := by decide +kernel
theorem p122_21 : prog 122 21 = some (.getfield 15, 3, [3, 1, 0]) := by decide +kernel
theorem p122_24 : prog 122 24 = some (.iconst 1, 1, []) := by decide +kernel
theorem p122_25 : prog 122 25 = some (.iadd, 1, []) := by decide +kernel
theorem p122_26 : prog 122 26 = some (.putfield 15, 3, [3, 1, 0]) := by decide +kernel
theorem p122_29 : prog 122 29 = some (.return_, 1, []) := by decide +kernel
theorem p123_0 : prog 123 0 = some (.iload_n 0, 1, []) := by decide +kernel
theorem p123_1 : prog 123 1 = some (.iconst 3, 1, []) := by decide +kernel
theorem p123_2 : prog 123 2 = some (.irem, 1, []) := by decide +kernel
theorem p123_3 : prog 123 3 = some (.lookupswitch 31 #[(0, 25), (1, 28)], 25, []) := by decide +kernel
theorem p123_28 : prog 123 28 = some (.ldc 47, 2, [1, 3]) := by decide +kernel
theorem p123_30 : prog 123 30 = some (.areturn, 1, []) := by decide +kernel
theorem p123_31 : prog 123 31 = some (.ldc 49, 2, [1, 4]) := by decide +kernel
theorem p123_33 : prog 123 33 = some (.areturn, 1, []) := by decide +kernel
theorem p123_34 : prog 123 34 = some (.ldc 51, 2, [1, 5]) := by decide +kernel
theorem p123_36 : prog 123 36 = some (.areturn, 1, []) := by decide +kernel
theorem p124_0 : prog 124 0 = some (.iload_n 0, 1, []) := by decide +kernel
theorem p124_1 : prog 124 1 = some (.iconst 3, 1, []) := by decide +kernel
theorem p124_2 : prog 124 2 = some (.irem, 1, []) := by decide +kernel
theorem p124_3 : prog 124 3 = some (.lookupswitch 31 #[(0, 25), (1, 28)], 25, []) := by decide +kernel
theorem p124_28 : prog 124 28 = some (.ldc 53, 2, [1, 0]) := by decide +kernel
theorem p124_30 : prog 124 30 = some (.areturn, 1, []) := by decide +kernel
theorem p124_31 : prog 124 31 = some (.ldc 55, 2, [1, 1]) := by decide +kernel
theorem p124_33 : prog 124 33 = some (.areturn, 1, []) := by decide +kernel
theorem p124_34 : prog 124 34 = some (.ldc 57, 2, [1, 2]) := by decide +kernel
theorem p124_36 : prog 124 36 = some (.areturn, 1, []) := by decide +kernel
theorem p125_0 : prog 125 0 = some (.aload_n 0, 1, []) := by decide +kernel
theorem p125_1 : prog 125 1 = some (.getfield 15, 3, [3, 1, 0]) := by decide +kernel
theorem p125_4 : prog 125 4 = some (.ireturn, 1, [0]) := by decide +kernel
theorem p126_0 : prog 126 0 = some (.aload_n 0, 1, []) := by decide +kernel
theorem p126_1 : prog 126 1 = some (.getfield 9, 3, [3, 0, 1]) := by decide +kernel
theorem p126_4 : prog 126 4 = some (.iload_n 1, 1, []) := by decide +kernel
theorem p126_5 : prog 126 5 = some (.caload, 1, []) := by decide +kernel
theorem p126_6 : prog 126 6 = some (.ireturn, 1, [2]) := by decide +kernel
theorem p127_0 : prog 127 0 = some (.iconst 0, 1, []) := by decide +kernel
theorem p127_1 : prog 127 1 = some (.istore_n 2, 1, []) := by decide +kernel
theorem p127_2 : prog 127 2 = some (.iconst 0, 1, []) := by decide +kernel
theorem p127_3 : prog 127 3 = some (.istore_n 3, 1, []) := by decide +kernel
theorem p127_4 : prog 127 4 = some (.iload_n 3, 1, []) := by decide +kernel
theorem p127_5 : prog 127 5 = some (.aload_n 0, 1, []) := by decide +kernel
theorem p127_6 : prog 127 6 = some (.getfield 15, 3, [3, 1, 0]) := by decide +kernel
theorem p127_9 : prog 127 9 = some (.if_icmp .ge 25, 3, [34]) := by decide +kernel
theorem p127_12 : prog 127 12 = some (.aload_n 0, 1, []) := by decide +kernel
theorem p127_13 : prog 127 13 = some (.getfield 9, 3, [3, 0, 1]) := by decide +kernel
theorem p127_16 : prog 127 16 = some (.iload_n 3, 1, []) := by decide +kernel
theorem p127_17 : prog 127 17 = some (.caload, 1, []) := by decide +kernel
theorem p127_18 : prog 127 18 = some (.iload_n 1, 1, []) := by decide +kernel
theorem p127_19 : prog 127 19 = some (.if_icmp .ne 9, 3, [28]) := by decide +kernel
theorem p127_22 : prog 127 22 = some (.iload_n 2, 1, []) := by decide +kernel
theorem p127_23 : prog 127 23 = some (.iconst 1, 1, []) := by decide +kernel
theorem p127_24 : prog 127 24 = some (.iload_n 3, 1, []) := by decide +kernel
theorem p127_25 : prog 127 25 = some (.ishl, 1, []) := by decide +kernel
theorem p127_26 : prog 127 26 = some (.ior, 1, []) := by decide +kernel
theorem p127_27 : prog 127 27 = some (.istore_n 2, 1, []) := by decide +kernel
theorem p127_28 : prog 127 28 = some (.iinc 3 1, 3, []) := by decide +kernel
theorem p127_31 : prog 127 31 = some (.goto (-27), 3, [4]) := by decide +kernel
theorem p127_34 : prog 127 34 = some (.iload_n 2, 1, []) := by decide +kernel
theorem p127_35 : prog 127 35 = some (.ireturn, 1, [0]) := by decide +kernel
theorem p128_0 : prog 128 0 = some (.aload_n 0, 1, []) := by decide +kernel
theorem p128_1 : prog 128 1 = some (.invokespecial 3, 3, [6]) := by decide +kernel
theorem p128_4 : prog 128 4 = some (.aload_n 0, 1, []) := by decide +kernel
theorem p128_5 : prog 128 5 = some (.bipush 12, 2, []) := by decide +kernel
theorem p128_7 : prog 128 7 = some (.newarray .char, 2, [1]) := by decide +kernel
theorem p128_9 : prog 128 9 = some (.putfield 9, 3, [4, 0, 1]) := by decide +kernel
theorem p128_12 : prog 128 12 = some (.return_, 1, []) := by decide +kernel
theorem p129_0 : prog 129 0 = some (.aload_n 0, 1, []) := by decide +kernel
theorem p129_1 : prog 129 1 = some (.getfield 15, 3, [4, 1, 0]) := by decide +kernel
theorem p129_4 : prog 129 4 = some (.ireturn, 1, [0]) := by decide +kernel
theorem p130_0 : prog 130 0 = some (.aload_n 0, 1, []) := by decide +kernel
theorem p130_1 : prog 130 1 = some (.getfield 15, 3, [4, 1, 0]) := by decide +kernel
theorem p130_4 : prog 130 4 = some (.bipush 12, 2, []) := by decide +kernel
theorem p130_6 : prog 130 6 = some (.if_icmp .ne 7, 3, [13]) := by decide +kernel
theorem p130_9 : prog 130 9 = some (.iconst 1, 1, []) := by decide +kernel
theorem p130_10 : prog 130 10 = some (.goto 4, 3, [14]) := by decide +kernel
theorem p130_13 : prog 130 13 = some (.iconst 0, 1, []) := by decide +kernel
theorem p130_14 : prog 130 14 = some (.ireturn, 1, [1]) := by decide +kernel
theorem p131_0 : prog 131 0 = some (.aload_n 0, 1, []) := by decide +kernel
theorem p131_1 : prog 131 1 = some (.getfield 15, 3, [4, 1, 0]) := by decide +kernel
theorem p131_4 : prog 131 4 = some (.bipush 12, 2, []) := by decide +kernel
theorem p131_6 : prog 131 6 = some (.if_icmp .ge 23, 3, [29]) := by decide +kernel
theorem p131_9 : prog 131 9 = some (.aload_n 0, 1, []) := by decide +kernel
theorem p131_10 : prog 131 10 = some (.getfield 9, 3, [4, 0, 1]) := by decide +kernel
theorem p131_13 : prog 131 13 = some (.aload_n 0, 1, []) := by decide +kernel
theorem p131_14 : prog 131 14 = some (.getfield 15, 3, [4, 1, 0]) := by decide +kernel
theorem p131_17 : prog 131 17 = some (.iload_n 1, 1, []) := by decide +kernel
theorem p131_18 : prog 131 18 = some (.castore, 1, []) := by decide +kernel
theorem p131_19 : prog 131 19 = some (.aload_n 0, 1, []) := by decide +kernel
theorem p131_20 : prog 131 20 = some (.dup, 1, []) := by decide +kernel
theorem p131_21 : prog 131 21 = some (.getfield 15, 3, [4, 1, 0]) := by decide +kernel
theorem p131_24 : prog 131 24 = some (.iconst 1, 1, []) := by decide +kernel
theorem p131_25 : prog 131 25 = some (.iadd, 1, []) := by decide +kernel
theorem p131_26 : prog 131 26 = some (.putfield 15, 3, [4, 1, 0]) := by decide +kernel
theorem p131_29 : prog 131 29 = some (.return_, 1, []) := by decide +kernel
theorem p132_0 : prog 132 0 = some (.aload_n 0, 1, []) := by decide +kernel
theorem p132_1 : prog 132 1 = some (.iconst 0, 1, []) := by decide +kernel
theorem p132_2 : prog 132 2 = some (.putfield 15, 3, [4, 1, 0]) := by decide +kernel
theorem p132_5 : prog 132 5 = some (.return_, 1, []) := by decide +kernel
theorem p133_0 : prog 133 0 = some (.aload_n 0, 1, []) := by decide +kernel
theorem p133_1 : prog 133 1 = some (.aload_n 1, 1, []) := by decide +kernel
theorem p133_2 : prog 133 2 = some (.getfield 15, 3, [4, 1, 0]) := by decide +kernel
theorem p133_5 : prog 133 5 = some (.putfield 15, 3, [4, 1, 0]) := by decide +kernel
theorem p133_8 : prog 133 8 = some (.aload_n 1, 1, []) := by decide +kernel
theorem p133_9 : prog 133 9 = some (.getfield 9, 3, [4, 0, 1]) := by decide +kernel
theorem p133_12 : prog 133 12 = some (.iconst 0, 1, []) := by decide +kernel
theorem p133_13 : prog 133 13 = some (.aload_n 0, 1, []) := by decide +kernel
theorem p133_14 : prog 133 14 = some (.getfield 9, 3, [4, 0, 1]) := by decide +kernel
theorem p133_17 : prog 133 17 = some (.iconst 0, 1, []) := by decide +kernel
theorem p133_18 : prog 133 18 = some (.bipush 12, 2, []) := by decide +kernel
theorem p133_20 : prog 133 20 = some (.invokestatic 19, 3, [7]) := by decide +kernel
theorem p133_23 : prog 133 23 = some (.return_, 1, []) := by decide +kernel
theorem p134_0 : prog 134 0 = some (.iconst 1, 1, []) := by decide +kernel
theorem p134_1 : prog 134 1 = some (.istore_n 2, 1, []) := by decide +kernel
theorem p134_2 : prog 134 2 = some (.iconst 0, 1, []) := by decide +kernel
theorem p134_3 : prog 134 3 = some (.istore_n 3, 1, []) := by decide +kernel
theorem p134_4 : prog 134 4 = some (.iload_n 3, 1, []) := by decide +kernel
theorem p134_5 : prog 134 5 = some (.aload_n 0, 1, []) := by decide +kernel
theorem p134_6 : prog 134 6 = some (.getfield 15, 3, [4, 1, 0]) := by decide +kernel
theorem p134_9 : prog 134 9 = some (.if_icmp .ge 61, 3, [70]) := by decide +kernel
theorem p134_12 : prog 134 12 = some (.aload_n 0, 1, []) := by decide +kernel
theorem p134_13 : prog 134 13 = some (.getfield 9, 3, [4, 0, 1]) := by decide +kernel
theorem p134_16 : prog 134 16 = some (.iload_n 3, 1, []) := by decide +kernel
theorem p134_17 : prog 134 17 = some (.caload, 1, []) := by decide +kernel
theorem p134_18 : prog 134 18 = some (.bipush 42, 2, []) := by decide +kernel
theorem p134_20 : prog 134 20 = some (.if_icmp .ne 11, 3, [31]) := by decide +kernel
theorem p134_23 : prog 134 23 = some (.iload_n 2, 1, []) := by decide +kernel
theorem p134_24 : prog 134 24 = some (.iload_n 2, 1, []) := by decide +kernel
theorem p134_25 : prog 134 25 = some (.ineg, 1, []) := by decide +kernel
theorem p134_26 : prog 134 26 = some (.ior, 1, []) := by decide +kernel
theorem p134_27 : prog 134 27 = some (.istore_n 2, 1, []) := by decide +kernel
theorem p134_28 : prog 134 28 = some (.goto 36, 3, [64]) := by decide +kernel
theorem p134_31 : prog 134 31 = some (.aload_n 0, 1, []) := by decide +kernel
theorem p134_32 : prog 134 32 = some (.getfield 9, 3, [4, 0, 1]) := by decide +kernel
theorem p134_35 : prog 134 35 = some (.iload_n 3, 1, []) := by decide +kernel
theorem p134_36 : prog 134 36 = some (.caload, 1, []) := by decide +kernel
theorem p134_37 : prog 134 37 = some (.bipush 63, 2, []) := by decide +kernel
theorem p134_39 : prog 134 39 = some (.if_icmp .ne 10, 3, [49]) := by decide +kernel
theorem p134_42 : prog 134 42 = some (.iload_n 2, 1, []) := by decide +kernel
theorem p134_43 : prog 134 43 = some (.iconst 1, 1, []) := by decide +kernel
theorem p134_44 : prog 134 44 = some (.ishl, 1, []) := by decide +kernel
theorem p134_45 : prog 134 45 = some (.istore_n 2, 1, []) := by decide +kernel
theorem p134_46 : prog 134 46 = some (.goto 18, 3, [64]) := by decide +kernel
theorem p134_49 : prog 134 49 = some (.iload_n 2, 1, []) := by decide +kernel
theorem p134_50 : prog 134 50 = some (.aload_n 1, 1, []) := by decide +kernel
theorem p134_51 : prog 134 51 = some (.aload_n 0, 1, []) := by decide +kernel
theorem p134_52 : prog 134 52 = some (.getfield 9, 3, [4, 0, 1]) := by decide +kernel
theorem p134_55 : prog 134 55 = some (.iload_n 3, 1, []) := by decide +kernel
theorem p134_56 : prog 134 56 = some (.caload, 1, []) := by decide +kernel
theorem p134_57 : prog 134 57 = some (.invokevirtual 25, 3, [0, 127, 2, 3]) := by decide +kernel
theorem p134_60 : prog 134 60 = some (.iand, 1, []) := by decide +kernel
theorem p134_61 : prog 134 61 = some (.iconst 1, 1, []) := by decide +kernel
theorem p134_62 : prog 134 62 = some (.ishl, 1, []) := by decide +kernel
theorem p134_63 : prog 134 63 = some (.istore_n 2, 1, []) := by decide +kernel
theorem p134_64 : prog 134 64 = some (.iinc 3 1, 3, []) := by decide +kernel
theorem p134_67 : prog 134 67 = some (.goto (-63), 3, [4]) := by decide +kernel
theorem p134_70 : prog 134 70 = some (.iload_n 2, 1, []) := by decide +kernel
theorem p134_71 : prog 134 71 = some (.aload_n 1, 1, []) := by decide +kernel
theorem p134_72 : prog 134 72 = some (.invokevirtual 31, 3, [0, 125, 1, 3]) := by decide +kernel
theorem p134_75 : prog 134 75 = some (.ishr, 1, []) := by decide +kernel
theorem p134_76 : prog 134 76 = some (.iconst 1, 1, []) := by decide +kernel
theorem p134_77 : prog 134 77 = some (.iand, 1, []) := by decide +kernel
theorem p134_78 : prog 134 78 = some (.iconst 1, 1, []) := by decide +kernel
theorem p134_79 : prog 134 79 = some (.if_icmp .ne 7, 3, [86]) := by decide +kernel
theorem p134_82 : prog 134 82 = some (.iconst 1, 1, []) := by decide +kernel
theorem p134_83 : prog 134 83 = some (.goto 4, 3, [87]) := by decide +kernel
theorem p134_86 : prog 134 86 = some (.iconst 0, 1, []) := by decide +kernel
theorem p134_87 : prog 134 87 = some (.ireturn, 1, [1]) := by decide +kernel
theorem p135_0 : prog 135 0 = some (.aload_n 0, 1, []) := by decide +kernel
theorem p135_1 : prog 135 1 = some (.invokespecial 3, 3, [6]) := by decide +kernel
theorem p135_4 : prog 135 4 = some (.return_, 1, []) := by decide +kernel
theorem p136_0 : prog 136 0 = some (.aload_n 0, 1, []) := by decide +kernel
theorem p136_1 : prog 136 1 = some (.iload_n 1, 1, []) := by decide +kernel
theorem p136_2 : prog 136 2 = some (.putfield 9, 3, [5, 0, 0]) := by decide +kernel
theorem p136_5 : prog 136 5 = some (.aload_n 0, 1, []) := by decide +kernel
theorem p136_6 : prog 136 6 = some (.iconst 0, 1, []) := by decide +kernel
theorem p136_7 : prog 136 7 = some (.putfield 15, 3, [5, 1, 0]) := by decide +kernel
theorem p136_10 : prog 136 10 = some (.aload_n 0, 1, []) := by decide +kernel
theorem p136_11 : prog 136 11 = some (.bipush (-2), 2, []) := by decide +kernel
theorem p136_13 : prog 136 13 = some (.putfield 18, 3, [5, 2, 0]) := by decide +kernel
theorem p136_16 : prog 136 16 = some (.return_, 1, []) := by decide +kernel
theorem p137_0 : prog 137 0 = some (.aload_n 0, 1, []) := by decide +kernel
theorem p137_1 : prog 137 1 = some (.getfield 15, 3, [5, 1, 0]) := by decide +kernel
theorem p137_4 : prog 137 4 = some (.ireturn, 1, [0]) := by decide +kernel
theorem p138_0 : prog 138 0 = some (.aload_n 0, 1, []) := by decide +kernel
theorem p138_1 : prog 138 1 = some (.getfield 18, 3, [5, 2, 0]) := by decide +kernel
theorem p138_4 : prog 138 4 = some (.ireturn, 1, [0]) := by decide +kernel
theorem p139_0 : prog 139 0 = some (.iconst 0, 1, []) := by decide +kernel
theorem p139_1 : prog 139 1 = some (.istore_n 3, 1, []) := by decide +kernel
theorem p139_2 : prog 139 2 = some (.iload_n 3, 1, []) := by decide +kernel
theorem p139_3 : prog 139 3 = some (.aload_n 1, 1, []) := by decide +kernel
theorem p139_4 : prog 139 4 = some (.invokevirtual 21, 3, [0, 107, 1, 2]) := by decide +kernel
theorem p139_7 : prog 139 7 = some (.if_icmp .ge 59, 3, [66]) := by decide +kernel
theorem p139_10 : prog 139 10 = some (.aload_n 0, 1, []) := by decide +kernel
theorem p139_11 : prog 139 11 = some (.aload_n 1, 1, []) := by decide +kernel
theorem p139_12 : prog 139 12 = some (.iload_n 3, 1, []) := by decide +kernel
theorem p139_13 : prog 139 13 = some (.invokevirtual 27, 3, [0, 115, 2, 2]) := by decide +kernel
theorem p139_16 : prog 139 16 = some (.invokestatic 31, 3, [1, 141, 1]) := by decide +kernel
theorem p139_19 : prog 139 19 = some (.invokevirtual 35, 3, [0, 142, 2, 5]) := by decide +kernel
theorem p139_22 : prog 139 22 = some (.aload_n 0, 1, []) := by decide +kernel
theorem p139_23 : prog 139 23 = some (.bipush 32, 2, []) := by decide +kernel
theorem p139_25 : prog 139 25 = some (.invokevirtual 35, 3, [0, 142, 2, 5]) := by decide +kernel
theorem p139_28 : prog 139 28 = some (.aload_n 1, 1, []) := by decide +kernel
theorem p139_29 : prog 139 29 = some (.iload_n 3, 1, []) := by decide +kernel
theorem p139_30 : prog 139 30 = some (.aload_n 2, 1, []) := by decide +kernel
theorem p139_31 : prog 139 31 = some (.invokevirtual 39, 3, [0, 113, 3, 2]) := by decide +kernel
theorem p139_34 : prog 139 34 = some (.aload_n 0, 1, []) := by decide +kernel
theorem p139_35 : prog 139 35 = some (.aload_n 2, 1, []) := by decide +kernel
theorem p139_36 : prog 139 36 = some (.invokevirtual 43, 3, [0, 144, 2, 5]) := by decide +kernel
theorem p139_39 : prog 139 39 = some (.aload_n 0, 1, []) := by decide +kernel
theorem p139_40 : prog 139 40 = some (.bipush 32, 2, []) := by decide +kernel
theorem p139_42 : prog 139 42 = some (.invokevirtual 35, 3, [0, 142, 2, 5]) := by decide +kernel
theorem p139_45 : prog 139 45 = some (.aload_n 0, 1, []) := by decide +kernel
theorem p139_46 : prog 139 46 = some (.aload_n 1, 1, []) := by decide +kernel
theorem p139_47 : prog 139 47 = some (.iload_n 3, 1, []) := by decide +kernel
theorem p139_48 : prog 139 48 = some (.invokevirtual 47, 3, [0, 114, 2, 2]) := by decide +kernel
theorem p139_51 : prog 139 51 = some (.invokevirtual 50, 3, [0, 145, 2, 5]) := by decide +kernel
theorem p139_54 : prog 139 54 = some (.aload_n 0, 1, []) := by decide +kernel
theorem p139_55 : prog 139 55 = some (.bipush 10, 2, []) := by decide +kernel
theorem p139_57 : prog 139 57 = some (.invokevirtual 35, 3, [0, 142, 2, 5]) := by decide +kernel
theorem p139_60 : prog 139 60 = some (.iinc 3 1, 3, []) := by decide +kernel
theorem p139_63 : prog 139 63 = some (.goto (-61), 3, [2]) := by decide +kernel
theorem p139_66 : prog 139 66 = some (.aload_n 0, 1, []) := by decide +kernel
theorem p139_67 : prog 139 67 = some (.aload_n 1, 1, []) := by decide +kernel
theorem p139_68 : prog 139 68 = some (.iconst 3, 1, []) := by decide +kernel
theorem p139_69 : prog 139 69 = some (.invokevirtual 54, 3, [0, 118, 2, 2]) := by decide +kernel
theorem p139_72 : prog 139 72 = some (.invokevirtual 50, 3, [0, 145, 2, 5]) := by decide +kernel
theorem p139_75 : prog 139 75 = some (.aload_n 0, 1, []) := by decide +kernel
theorem p139_76 : prog 139 76 = some (.bipush 32, 2, []) := by decide +kernel
theorem p139_78 : prog 139 78 = some (.invokevirtual 35, 3, [0, 142, 2, 5]) := by decide +kernel
theorem p139_81 : prog 139 81 = some (.aload_n 0, 1, []) := by decide +kernel
theorem p139_82 : prog 139 82 = some (.aload_n 1, 1, []) := by decide +kernel
theorem p139_83 : prog 139 83 = some (.iconst 2, 1, []) := by decide +kernel
theorem p139_84 : prog 139 84 = some (.invokevirtual 54, 3, [0, 118, 2, 2]) := by decide +kernel
theorem p139_87 : prog 139 87 = some (.invokevirtual 50, 3, [0, 145, 2, 5]) := by decide +kernel
theorem p139_90 : prog 139 90 = some (.aload_n 0, 1, []) := by decide +kernel
theorem p139_91 : prog 139 91 = some (.bipush 32, 2, []) := by decide +kernel
theorem p139_93 : prog 139 93 = some (.invokevirtual 35, 3, [0, 142, 2, 5]) := by decide +kernel
theorem p139_96 : prog 139 96 = some (.aload_n 0, 1, []) := by decide +kernel
theorem p139_97 : prog 139 97 = some (.aload_n 1, 1, []) := by decide +kernel
theorem p139_98 : prog 139 98 = some (.iconst 1, 1, []) := by decide +kernel
theorem p139_99 : prog 139 99 = some (.invokevirtual 54, 3, [0, 118, 2, 2]) := by decide +kernel
theorem p139_102 : prog 139 102 = some (.invokevirtual 50, 3, [0, 145, 2, 5]) := by decide +kernel
theorem p139_105 : prog 139 105 = some (.return_, 1, []) := by decide +kernel
theorem p140_0 : prog 140 0 = some (.aload_n 0, 1, []) := by decide +kernel
theorem p140_1 : prog 140 1 = some (.ldc 57, 2, [1, 6]) := by decide +kernel
theorem p140_3 : prog 140 3 = some (.invokevirtual 59, 3, [0, 143, 2, 5]) := by decide +kernel
theorem p140_6 : prog 140 6 = some (.iconst 0, 1, []) := by decide +kernel
theorem p140_7 : prog 140 7 = some (.istore 4, 2, []) := by decide +kernel
theorem p140_9 : prog 140 9 = some (.iload 4, 2, []) := by decide +kernel
theorem p140_11 : prog 140 11 = some (.aload_n 1, 1, []) := by decide +kernel
theorem p140_12 : prog 140 12 = some (.invokevirtual 21, 3, [0, 107, 1, 2]) := by decide +kernel
theorem p140_15 : prog 140 15 = some (.if_icmp .ge 75, 3, [90]) := by decide +kernel
theorem p140_18 : prog 140 18 = some (.aload_n 0, 1, []) := by decide +kernel
theorem p140_19 : prog 140 19 = some (.iload 4, 2, []) := by decide +kernel
theorem p140_21 : prog 140 21 = some (.ifCond .ne 8, 3, [29]) := by decide +kernel
theorem p140_24 : prog 140 24 = some (.ldc 63, 2, [1, 7]) := by decide +kernel
theorem p140_26 : prog 140 26 = some (.goto 5, 3, [31]) := by decide +kernel
theorem p140_29 : prog 140 29 = some (.ldc 65, 2, [1, 8]) := by decide +kernel
theorem p140_31 : prog 140 31 = some (.invokevirtual 59, 3, [0, 143, 2, 5]) := by decide +kernel
theorem p140_34 : prog 140 34 = some (.aload_n 0, 1, []) := by decide +kernel
theorem p140_35 : prog 140 35 = some (.aload_n 1, 1, []) := by decide +kernel
theorem p140_36 : prog 140 36 = some (.iload 4, 2, []) := by decide +kernel
theorem p140_38 : prog 140 38 = some (.invokevirtual 27, 3, [0, 115, 2, 2]) := by decide +kernel
theorem p140_41 : prog 140 41 = some (.invokevirtual 50, 3, [0, 145, 2, 5]) := by decide +kernel
theorem p140_44 : prog 140 44 = some (.aload_n 0, 1, []) := by decide +kernel
theorem p140_45 : prog 140 45 = some (.ldc 67, 2, [1, 9]) := by decide +kernel
theorem p140_47 : prog 140 47 = some (.invokevirtual 59, 3, [0, 143, 2, 5]) := by decide +kernel
theorem p140_50 : prog 140 50 = some (.aload_n 1, 1, []) := by decide +kernel
theorem p140_51 : prog 140 51 = some (.iload 4, 2, []) := by decide +kernel
theorem p140_53 : prog 140 53 = some (.aload_n 2, 1, []) := by decide +kernel
theorem p140_54 : prog 140 54 = some (.invokevirtual 39, 3, [0, 113, 3, 2]) := by decide +kernel
theorem p140_57 : prog 140 57 = some (.aload_n 0, 1, []) := by decide +kernel
theorem p140_58 : prog 140 58 = some (.aload_n 2, 1, []) := by decide +kernel
theorem p140_59 : prog 140 59 = some (.invokevirtual 43, 3, [0, 144, 2, 5]) := by decide +kernel
theorem p140_62 : prog 140 62 = some (.aload_n 0, 1, []) := by decide +kernel
theorem p140_63 : prog 140 63 = some (.ldc 69, 2, [1, 10]) := by decide +kernel
theorem p140_65 : prog 140 65 = some (.invokevirtual 59, 3, [0, 143, 2, 5]) := by decide +kernel
theorem p140_68 : prog 140 68 = some (.aload_n 0, 1, []) := by decide +kernel
theorem p140_69 : prog 140 69 = some (.aload_n 1, 1, []) := by decide +kernel
theorem p140_70 : prog 140 70 = some (.iload 4, 2, []) := by decide +kernel
theorem p140_72 : prog 140 72 = some (.invokevirtual 47, 3, [0, 114, 2, 2]) := by decide +kernel
theorem p140_75 : prog 140 75 = some (.invokevirtual 50, 3, [0, 145, 2, 5]) := by decide +kernel
theorem p140_78 : prog 140 78 = some (.aload_n 0, 1, []) := by decide +kernel
theorem p140_79 : prog 140 79 = some (.bipush 125, 2, []) := by decide +kernel
theorem p140_81 : prog 140 81 = some (.invokevirtual 35, 3, [0, 142, 2, 5]) := by decide +kernel
theorem p140_84 : prog 140 84 = some (.iinc 4 1, 3, []) := by decide +kernel
theorem p140_87 : prog 140 87 = some (.goto (-78), 3, [9]) := by decide +kernel
theorem p140_90 : prog 140 90 = some (.aload_n 0, 1, []) := by decide +kernel
theorem p140_91 : prog 140 91 = some (.ldc 71, 2, [1, 11]) := by decide +kernel
theorem p140_93 : prog 140 93 = some (.invokevirtual 59, 3, [0, 143, 2, 5]) := by decide +kernel
theorem p140_96 : prog 140 96 = some (.aload_n 0, 1, []) := by decide +kernel
theorem p140_97 : prog 140 97 = some (.iload_n 3, 1, []) := by decide +kernel
theorem p140_98 : prog 140 98 = some (.ldc 73, 2, [0, 1000000]) := by decide +kernel
theorem p140_100 : prog 140 100 = some (.idiv, 1, []) := by decide +kernel
theorem p140_101 : prog 140 101 = some (.invokevirtual 50, 3, [0, 145, 2, 5]) := by decide +kernel
theorem p140_104 : prog 140 104 = some (.aload_n 0, 1, []) := by decide +kernel
theorem p140_105 : prog 140 105 = some (.bipush 46, 2, []) := by decide +kernel
theorem p140_107 : prog 140 107 = some (.invokevirtual 35, 3, [0, 142, 2, 5]) := by decide +kernel
theorem p140_110 : prog 140 110 = some (.aload_n 0, 1, []) := by decide +kernel
theorem p140_111 : prog 140 111 = some (.iload_n 3, 1, []) := by decide +kernel
theorem p140_112 : prog 140 112 = some (.sipush 1000, 3, []) := by decide +kernel
theorem p140_115 : prog 140 115 = some (.idiv, 1, []) := by decide +kernel
theorem p140_116 : prog 140 116 = some (.sipush 1000, 3, []) := by decide +kernel
theorem p140_119 : prog 140 119 = some (.irem, 1, []) := by decide +kernel
theorem p140_120 : prog 140 120 = some (.invokevirtual 50, 3, [0, 145, 2, 5]) := by decide +kernel
theorem p140_123 : prog 140 123 = some (.aload_n 0, 1, []) := by decide +kernel
theorem p140_124 : prog 140 124 = some (.bipush 46, 2, []) := by decide +kernel
theorem p140_126 : prog 140 126 = some (.invokevirtual 35, 3, [0, 142, 2, 5]) := by decide +kernel
theorem p140_129 : prog 140 129 = some (.aload_n 0, 1, []) := by decide +kernel
theorem p140_130 : prog 140 130 = some (.iload_n 3, 1, []) := by decide +kernel
theorem p140_131 : prog 140 131 = some (.sipush 1000, 3, []) := by decide +kernel
theorem p140_134 : prog 140 134 = some (.irem, 1, []) := by decide +kernel
theorem p140_135 : prog 140 135 = some (.invokevirtual 50, 3, [0, 145, 2, 5]) := by decide +kernel
theorem p140_138 : prog 140 138 = some (.aload_n 0, 1, []) := by decide +kernel
theorem p140_139 : prog 140 139 = some (.ldc 74, 2, [1, 12]) := by decide +kernel
theorem p140_141 : prog 140 141 = some (.invokevirtual 59, 3, [0, 143, 2, 5]) := by decide +kernel
theorem p140_144 : prog 140 144 = some (.return_, 1, []) := by decide +kernel
theorem p141_0 : prog 141 0 = some (.iload_n 0, 1, []) := by decide +kernel
theorem p141_1 : prog 141 1 = some (.iconst 3, 1, []) := by decide +kernel
theorem p141_2 : prog 141 2 = some (.if_icmp .ne 8, 3, [10]) := by decide +kernel
theorem p141_5 : prog 141 5 = some (.bipush 66, 2, []) := by decide +kernel
theorem p141_7 : prog 141 7 = some (.goto 15, 3, [22]) := by decide +kernel
theorem p141_10 : prog 141 10 = some (.iload_n 0, 1, []) := by decide +kernel
theorem p141_11 : prog 141 11 = some (.iconst 2, 1, []) := by decide +kernel
theorem p141_12 : prog 141 12 = some (.if_icmp .ne 8, 3, [20]) := by decide +kernel
theorem p141_15 : prog 141 15 = some (.bipush 87, 2, []) := by decide +kernel
theorem p141_17 : prog 141 17 = some (.goto 5, 3, [22]) := by decide +kernel
theorem p141_20 : prog 141 20 = some (.bipush 78, 2, []) := by decide +kernel
theorem p141_22 : prog 141 22 = some (.ireturn, 1, [2]) := by decide +kernel
theorem p142_0 : prog 142 0 = some (.aload_n 0, 1, []) := by decide +kernel
theorem p142_1 : prog 142 1 = some (.getfield 15, 3, [5, 1, 0]) := by decide +kernel
theorem p142_4 : prog 142 4 = some (.aload_n 0, 1, []) := by decide +kernel
theorem p142_5 : prog 142 5 = some (.getfield 9, 3, [5, 0, 0]) := by decide +kernel
theorem p142_8 : prog 142 8 = some (.if_icmp .ne 8, 3, [16]) := by decide +kernel
theorem p142_11 : prog 142 11 = some (.aload_n 0, 1, []) := by decide +kernel
theorem p142_12 : prog 142 12 = some (.iload_n 1, 1, []) := by decide +kernel
theorem p142_13 : prog 142 13 = some (.putfield 18, 3, [5, 2, 0]) := by decide +kernel
theorem p142_16 : prog 142 16 = some (.aload_n 0, 1, []) := by decide +kernel
theorem p142_17 : prog 142 17 = some (.dup, 1, []) := by decide +kernel
theorem p142_18 : prog 142 18 = some (.getfield 15, 3, [5, 1, 0]) := by decide +kernel
theorem p142_21 : prog 142 21 = some (.iconst 1, 1, []) := by decide +kernel
theorem p142_22 : prog 142 22 = some (.iadd, 1, []) := by decide +kernel
theorem p142_23 : prog 142 23 = some (.putfield 15, 3, [5, 1, 0]) := by decide +kernel
theorem p142_26 : prog 142 26 = some (.return_, 1, []) := by decide +kernel
theorem p143_0 : prog 143 0 = some (.iconst 0, 1, []) := by decide +kernel
theorem p143_1 : prog 143 1 = some (.istore_n 2, 1, []) := by decide +kernel
theorem p143_2 : prog 143 2 = some (.iload_n 2, 1, []) := by decide +kernel
theorem p143_3 : prog 143 3 = some (.aload_n 1, 1, []) := by decide +kernel
theorem p143_4 : prog 143 4 = some (.invokevirtual 76, 3, [8]) := by decide +kernel
theorem p143_7 : prog 143 7 = some (.if_icmp .ge 18, 3, [25]) := by decide +kernel
theorem p143_10 : prog 143 10 = some (.aload_n 0, 1, []) := by decide +kernel
theorem p143_11 : prog 143 11 = some (.aload_n 1, 1, []) := by decide +kernel
theorem p143_12 : prog 143 12 = some (.iload_n 2, 1, []) := by decide +kernel
theorem p143_13 : prog 143 13 = some (.invokevirtual 80, 3, [9]) := by decide +kernel
theorem p143_16 : prog 143 16 = some (.invokevirtual 35, 3, [0, 142, 2, 5]) := by decide +kernel
theorem p143_19 : prog 143 19 = some (.iinc 2 1, 3, []) := by decide +kernel
theorem p143_22 : prog 143 22 = some (.goto (-20), 3, [2]) := by decide +kernel
theorem p143_25 : prog 143 25 = some (.return_, 1, []) := by decide +kernel
theorem p144_0 : prog 144 0 = some (.iconst 0, 1, []) := by decide +kernel
theorem p144_1 : prog 144 1 = some (.istore_n 2, 1, []) := by decide +kernel
theorem p144_2 : prog 144 2 = some (.iload_n 2, 1, []) := by decide +kernel
theorem p144_3 : prog 144 3 = some (.aload_n 1, 1, []) := by decide +kernel
theorem p144_4 : prog 144 4 = some (.invokevirtual 83, 3, [0, 125, 1, 3]) := by decide +kernel
theorem p144_7 : prog 144 7 = some (.if_icmp .ge 18, 3, [25]) := by decide +kernel
theorem p144_10 : prog 144 10 = some (.aload_n 0, 1, []) := by decide +kernel
theorem p144_11 : prog 144 11 = some (.aload_n 1, 1, []) := by decide +kernel
theorem p144_12 : prog 144 12 = some (.iload_n 2, 1, []) := by decide +kernel
theorem p144_13 : prog 144 13 = some (.invokevirtual 86, 3, [0, 126, 2, 3]) := by decide +kernel
theorem p144_16 : prog 144 16 = some (.invokevirtual 35, 3, [0, 142, 2, 5]) := by decide +kernel
theorem p144_19 : prog 144 19 = some (.iinc 2 1, 3, []) := by decide +kernel
theorem p144_22 : prog 144 22 = some (.goto (-20), 3, [2]) := by decide +kernel
theorem p144_25 : prog 144 25 = some (.return_, 1, []) := by decide +kernel
theorem p145_0 : prog 145 0 = some (.sipush 1000, 3, []) := by decide +kernel
theorem p145_3 : prog 145 3 = some (.istore_n 2, 1, []) := by decide +kernel
theorem p145_4 : prog 145 4 = some (.iload_n 2, 1, []) := by decide +kernel
theorem p145_5 : prog 145 5 = some (.ifCond .le 35, 3, [40]) := by decide +kernel
theorem p145_8 : prog 145 8 = some (.iload_n 1, 1, []) := by decide +kernel
theorem p145_9 : prog 145 9 = some (.iload_n 2, 1, []) := by decide +kernel
theorem p145_10 : prog 145 10 = some (.if_icmp .ge 8, 3, [18]) := by decide +kernel
theorem p145_13 : prog 145 13 = some (.iload_n 2, 1, []) := by decide +kernel
theorem p145_14 : prog 145 14 = some (.iconst 1, 1, []) := by decide +kernel
theorem p145_15 : prog 145 15 = some (.if_icmp .ne 17, 3, [32]) := by decide +kernel
theorem p145_18 : prog 145 18 = some (.aload_n 0, 1, []) := by decide +kernel
theorem p145_19 : prog 145 19 = some (.bipush 48, 2, []) := by decide +kernel
theorem p145_21 : prog 145 21 = some (.iload_n 1, 1, []) := by decide +kernel
theorem p145_22 : prog 145 22 = some (.iload_n 2, 1, []) := by decide +kernel
theorem p145_23 : prog 145 23 = some (.idiv, 1, []) := by decide +kernel
theorem p145_24 : prog 145 24 = some (.bipush 10, 2, []) := by decide +kernel
theorem p145_26 : prog 145 26 = some (.irem, 1, []) := by decide +kernel
theorem p145_27 : prog 145 27 = some (.iadd, 1, []) := by decide +kernel
theorem p145_28 : prog 145 28 = some (.i2c, 1, []) := by decide +kernel
theorem p145_29 : prog 145 29 = some (.invokevirtual 35, 3, [0, 142, 2, 5]) := by decide +kernel
theorem p145_32 : prog 145 32 = some (.iload_n 2, 1, []) := by decide +kernel
theorem p145_33 : prog 145 33 = some (.bipush 10, 2, []) := by decide +kernel
theorem p145_35 : prog 145 35 = some (.idiv, 1, []) := by decide +kernel
theorem p145_36 : prog 145 36 = some (.istore_n 2, 1, []) := by decide +kernel
theorem p145_37 : prog 145 37 = some (.goto (-33), 3, [4]) := by decide +kernel
theorem p145_40 : prog 145 40 = some (.return_, 1, []) := by decide +kernel
theorem p146_0 : prog 146 0 = some (.aload_n 0, 1, []) := by decide +kernel
theorem p146_1 : prog 146 1 = some (.invokespecial 1, 3, [6]) := by decide +kernel
theorem p146_4 : prog 146 4 = some (.aload_n 0, 1, []) := by decide +kernel
theorem p146_5 : prog 146 5 = some (.new 7, 3, [4]) := by decide +kernel
theorem p146_8 : prog 146 8 = some (.dup, 1, []) := by decide +kernel
theorem p146_9 : prog 146 9 = some (.invokespecial 9, 3, [5, 128, 1]) := by decide +kernel
theorem p146_12 : prog 146 12 = some (.putfield 10, 3, [6, 0, 1]) := by decide +kernel
theorem p146_15 : prog 146 15 = some (.return_, 1, []) := by decide +kernel
theorem p147_0 : prog 147 0 = some (.aload_n 0, 1, []) := by decide +kernel
theorem p147_1 : prog 147 1 = some (.getfield 10, 3, [6, 0, 1]) := by decide +kernel
theorem p147_4 : prog 147 4 = some (.aload_n 1, 1, []) := by decide +kernel
theorem p147_5 : prog 147 5 = some (.invokevirtual 16, 3, [0, 133, 2, 4]) := by decide +kernel
theorem p147_8 : prog 147 8 = some (.aload_n 0, 1, []) := by decide +kernel
theorem p147_9 : prog 147 9 = some (.iload_n 2, 1, []) := by decide +kernel
theorem p147_10 : prog 147 10 = some (.putfield 20, 3, [6, 1, 0]) := by decide +kernel
theorem p147_13 : prog 147 13 = some (.aload_n 0, 1, []) := by decide +kernel
theorem p147_14 : prog 147 14 = some (.iload_n 3, 1, []) := by decide +kernel
theorem p147_15 : prog 147 15 = some (.putfield 24, 3, [6, 2, 0]) := by decide +kernel
theorem p147_18 : prog 147 18 = some (.aload_n 0, 1, []) := by decide +kernel
theorem p147_19 : prog 147 19 = some (.iload 4, 2, []) := by decide +kernel
theorem p147_21 : prog 147 21 = some (.putfield 27, 3, [6, 3, 0]) := by decide +kernel
theorem p147_24 : prog 147 24 = some (.return_, 1, []) := by decide +kernel
theorem p148_0 : prog 148 0 = some (.iload_n 1, 1, []) := by decide +kernel
theorem p148_1 : prog 148 1 = some (.aload_n 0, 1, []) := by decide +kernel
theorem p148_2 : prog 148 2 = some (.getfield 20, 3, [6, 1, 0]) := by decide +kernel
theorem p148_5 : prog 148 5 = some (.if_icmp .lt 26, 3, [31]) := by decide +kernel
theorem p148_8 : prog 148 8 = some (.iload_n 1, 1, []) := by decide +kernel
theorem p148_9 : prog 148 9 = some (.aload_n 0, 1, []) := by decide +kernel
theorem p148_10 : prog 148 10 = some (.getfield 24, 3, [6, 2, 0]) := by decide +kernel
theorem p148_13 : prog 148 13 = some (.if_icmp .gt 18, 3, [31]) := by decide +kernel
theorem p148_16 : prog 148 16 = some (.aload_n 0, 1, []) := by decide +kernel
theorem p148_17 : prog 148 17 = some (.getfield 10, 3, [6, 0, 1]) := by decide +kernel
theorem p148_20 : prog 148 20 = some (.aload_n 2, 1, []) := by decide +kernel
theorem p148_21 : prog 148 21 = some (.invokevirtual 30, 3, [0, 134, 2, 4]) := by decide +kernel
theorem p148_24 : prog 148 24 = some (.ifCond .eq 7, 3, [31]) := by decide +kernel
theorem p148_27 : prog 148 27 = some (.iconst 1, 1, []) := by decide +kernel
theorem p148_28 : prog 148 28 = some (.goto 4, 3, [32]) := by decide +kernel
theorem p148_31 : prog 148 31 = some (.iconst 0, 1, []) := by decide +kernel
theorem p148_32 : prog 148 32 = some (.ireturn, 1, [1]) := by decide +kernel
theorem p149_0 : prog 149 0 = some (.aload_n 0, 1, []) := by decide +kernel
theorem p149_1 : prog 149 1 = some (.getfield 27, 3, [6, 3, 0]) := by decide +kernel
theorem p149_4 : prog 149 4 = some (.ireturn, 1, [0]) := by decide +kernel
theorem p150_0 : prog 150 0 = some (.aload_n 0, 1, []) := by decide +kernel
theorem p150_1 : prog 150 1 = some (.invokespecial 3, 3, [6]) := by decide +kernel
theorem p150_4 : prog 150 4 = some (.aload_n 0, 1, []) := by decide +kernel
theorem p150_5 : prog 150 5 = some (.bipush 8, 2, []) := by decide +kernel
theorem p150_7 : prog 150 7 = some (.anewarray 9, 3, []) := by decide +kernel
theorem p150_10 : prog 150 10 = some (.putfield 11, 3, [7, 0, 1]) := by decide +kernel
theorem p150_13 : prog 150 13 = some (.iconst 0, 1, []) := by decide +kernel
theorem p150_14 : prog 150 14 = some (.istore_n 1, 1, []) := by decide +kernel
theorem p150_15 : prog 150 15 = some (.iload_n 1, 1, []) := by decide +kernel
theorem p150_16 : prog 150 16 = some (.bipush 8, 2, []) := by decide +kernel
theorem p150_18 : prog 150 18 = some (.if_icmp .ge 22, 3, [40]) := by decide +kernel
theorem p150_21 : prog 150 21 = some (.aload_n 0, 1, []) := by decide +kernel
theorem p150_22 : prog 150 22 = some (.getfield 11, 3, [7, 0, 1]) := by decide +kernel
theorem p150_25 : prog 150 25 = some (.iload_n 1, 1, []) := by decide +kernel
theorem p150_26 : prog 150 26 = some (.new 9, 3, [6]) := by decide +kernel
theorem p150_29 : prog 150 29 = some (.dup, 1, []) := by decide +kernel
theorem p150_30 : prog 150 30 = some (.invokespecial 17, 3, [5, 146, 1]) := by decide +kernel
theorem p150_33 : prog 150 33 = some (.aastore, 1, []) := by decide +kernel
theorem p150_34 : prog 150 34 = some (.iinc 1 1, 3, []) := by decide +kernel
theorem p150_37 : prog 150 37 = some (.goto (-22), 3, [15]) := by decide +kernel
theorem p150_40 : prog 150 40 = some (.return_, 1, []) := by decide +kernel
theorem p151_0 : prog 151 0 = some (.aload_n 0, 1, []) := by decide +kernel
theorem p151_1 : prog 151 1 = some (.getfield 18, 3, [7, 1, 0]) := by decide +kernel
theorem p151_4 : prog 151 4 = some (.ireturn, 1, [0]) := by decide +kernel
theorem p152_0 : prog 152 0 = some (.aload_n 0, 1, []) := by decide +kernel
theorem p152_1 : prog 152 1 = some (.getfield 18, 3, [7, 1, 0]) := by decide +kernel
theorem p152_4 : prog 152 4 = some (.bipush 8, 2, []) := by decide +kernel
theorem p152_6 : prog 152 6 = some (.if_icmp .ne 7, 3, [13]) := by decide +kernel
theorem p152_9 : prog 152 9 = some (.iconst 1, 1, []) := by decide +kernel
theorem p152_10 : prog 152 10 = some (.goto 4, 3, [14]) := by decide +kernel
theorem p152_13 : prog 152 13 = some (.iconst 0, 1, []) := by decide +kernel
theorem p152_14 : prog 152 14 = some (.ireturn, 1, [1]) := by decide +kernel
theorem p153_0 : prog 153 0 = some (.aload_n 0, 1, []) := by decide +kernel
theorem p153_1 : prog 153 1 = some (.getfield 18, 3, [7, 1, 0]) := by decide +kernel
theorem p153_4 : prog 153 4 = some (.bipush 8, 2, []) := by decide +kernel
theorem p153_6 : prog 153 6 = some (.if_icmp .ge 30, 3, [36]) := by decide +kernel
theorem p153_9 : prog 153 9 = some (.aload_n 0, 1, []) := by decide +kernel
theorem p153_10 : prog 153 10 = some (.getfield 11, 3, [7, 0, 1]) := by decide +kernel
theorem p153_13 : prog 153 13 = some (.aload_n 0, 1, []) := by decide +kernel
theorem p153_14 : prog 153 14 = some (.getfield 18, 3, [7, 1, 0]) := by decide +kernel
theorem p153_17 : prog 153 17 = some (.aaload, 1, []) := by decide +kernel
theorem p153_18 : prog 153 18 = some (.aload_n 1, 1, []) := by decide +kernel
theorem p153_19 : prog 153 19 = some (.iload_n 2, 1, []) := by decide +kernel
theorem p153_20 : prog 153 20 = some (.iload_n 3, 1, []) := by decide +kernel
theorem p153_21 : prog 153 21 = some (.iload 4, 2, []) := by decide +kernel
theorem p153_23 : prog 153 23 = some (.invokevirtual 22, 3, [0, 147, 5, 6]) := by decide +kernel
theorem p153_26 : prog 153 26 = some (.aload_n 0, 1, []) := by decide +kernel
theorem p153_27 : prog 153 27 = some (.dup, 1, []) := by decide +kernel
theorem p153_28 : prog 153 28 = some (.getfield 18, 3, [7, 1, 0]) := by decide +kernel
theorem p153_31 : prog 153 31 = some (.iconst 1, 1, []) := by decide +kernel
theorem p153_32 : prog 153 32 = some (.iadd, 1, []) := by decide +kernel
theorem p153_33 : prog 153 33 = some (.putfield 18, 3, [7, 1, 0]) := by decide +kernel
theorem p153_36 : prog 153 36 = some (.return_, 1, []) := by decide +kernel
theorem p154_0 : prog 154 0 = some (.aload_n 0, 1, []) := by decide +kernel
theorem p154_1 : prog 154 1 = some (.iconst 0, 1, []) := by decide +kernel
theorem p154_2 : prog 154 2 = some (.putfield 18, 3, [7, 1, 0]) := by decide +kernel
theorem p154_5 : prog 154 5 = some (.return_, 1, []) := by decide +kernel
theorem p155_0 : prog 155 0 = some (.aload_n 0, 1, []) := by decide +kernel
theorem p155_1 : prog 155 1 = some (.getfield 18, 3, [7, 1, 0]) := by decide +kernel
theorem p155_4 : prog 155 4 = some (.iconst 1, 1, []) := by decide +kernel
theorem p155_5 : prog 155 5 = some (.isub, 1, []) := by decide +kernel
theorem p155_6 : prog 155 6 = some (.istore_n 3, 1, []) := by decide +kernel
theorem p155_7 : prog 155 7 = some (.iload_n 3, 1, []) := by decide +kernel
theorem p155_8 : prog 155 8 = some (.ifCond .lt 33, 3, [41]) := by decide +kernel
theorem p155_11 : prog 155 11 = some (.aload_n 0, 1, []) := by decide +kernel
theorem p155_12 : prog 155 12 = some (.getfield 11, 3, [7, 0, 1]) := by decide +kernel
theorem p155_15 : prog 155 15 = some (.iload_n 3, 1, []) := by decide +kernel
theorem p155_16 : prog 155 16 = some (.aaload, 1, []) := by decide +kernel
theorem p155_17 : prog 155 17 = some (.iload_n 1, 1, []) := by decide +kernel
theorem p155_18 : prog 155 18 = some (.aload_n 2, 1, []) := by decide +kernel
theorem p155_19 : prog 155 19 = some (.invokevirtual 26, 3, [0, 148, 3, 6]) := by decide +kernel
theorem p155_22 : prog 155 22 = some (.ifCond .eq 13, 3, [35]) := by decide +kernel
theorem p155_25 : prog 155 25 = some (.aload_n 0, 1, []) := by decide +kernel
theorem p155_26 : prog 155 26 = some (.getfield 11, 3, [7, 0, 1]) := by decide +kernel
theorem p155_29 : prog 155 29 = some (.iload_n 3, 1, []) := by decide +kernel
theorem p155_30 : prog 155 30 = some (.aaload, 1, []) := by decide +kernel
theorem p155_31 : prog 155 31 = some (.invokevirtual 30, 3, [0, 149, 1, 6]) := by decide +kernel
theorem p155_34 : prog 155 34 = some (.ireturn, 1, [0]) := by decide +kernel
theorem p155_35 : prog 155 35 = some (.iinc 3 (-1), 3, []) := by decide +kernel
theorem p155_38 : prog 155 38 = some (.goto (-31), 3, [7]) := by decide +kernel
theorem p155_41 : prog 155 41 = some (.iload_n 1, 1, []) := by decide +kernel
theorem p155_42 : prog 155 42 = some (.invokestatic 34, 3, [4, 29, 1]) := by decide +kernel
theorem p155_45 : prog 155 45 = some (.ireturn, 1, [0]) := by decide +kernel
theorem p156_0 : prog 156 0 = some (.iconst 0, 1, []) := by decide +kernel
theorem p156_1 : prog 156 1 = some (.istore_n 2, 1, []) := by decide +kernel
theorem p156_2 : prog 156 2 = some (.aload_n 0, 1, []) := by decide +kernel
theorem p156_3 : prog 156 3 = some (.arraylength, 1, []) := by decide +kernel
theorem p156_4 : prog 156 4 = some (.istore_n 3, 1, []) := by decide +kernel
theorem p156_5 : prog 156 5 = some (.iload_n 2, 1, []) := by decide +kernel
theorem p156_6 : prog 156 6 = some (.iload_n 3, 1, []) := by decide +kernel
theorem p156_7 : prog 156 7 = some (.if_icmp .ge 13, 3, [20]) := by decide +kernel
theorem p156_10 : prog 156 10 = some (.aload_n 0, 1, []) := by decide +kernel
theorem p156_11 : prog 156 11 = some (.iload_n 2, 1, []) := by decide +kernel
theorem p156_12 : prog 156 12 = some (.iload_n 1, 1, []) := by decide +kernel
theorem p156_13 : prog 156 13 = some (.iastore, 1, []) := by decide +kernel
theorem p156_14 : prog 156 14 = some (.iinc 2 1, 3, []) := by decide +kernel
theorem p156_17 : prog 156 17 = some (.goto (-12), 3, [5]) := by decide +kernel
theorem p156_20 : prog 156 20 = some (.return_, 1, []) := by decide +kernel
theorem p157_0 : prog 157 0 = some (.new 7, 3, [8]) := by decide +kernel
theorem p157_3 : prog 157 3 = some (.dup, 1, []) := by decide +kernel
theorem p157_4 : prog 157 4 = some (.invokespecial 9, 3, [2, 0, 1]) := by decide +kernel
theorem p157_7 : prog 157 7 = some (.astore_n 1, 1, []) := by decide +kernel
theorem p157_8 : prog 157 8 = some (.new 10, 3, [9]) := by decide +kernel
theorem p157_11 : prog 157 11 = some (.dup, 1, []) := by decide +kernel
theorem p157_12 : prog 157 12 = some (.invokespecial 12, 3, [2, 31, 1]) := by decide +kernel
theorem p157_15 : prog 157 15 = some (.astore_n 2, 1, []) := by decide +kernel
theorem p157_16 : prog 157 16 = some (.iconst 0, 1, []) := by decide +kernel
theorem p157_17 : prog 157 17 = some (.istore_n 3, 1, []) := by decide +kernel
theorem p157_18 : prog 157 18 = some (.iload_n 3, 1, []) := by decide +kernel
theorem p157_19 : prog 157 19 = some (.aload_n 0, 1, []) := by decide +kernel
theorem p157_20 : prog 157 20 = some (.arraylength, 1, []) := by decide +kernel
theorem p157_21 : prog 157 21 = some (.bipush 6, 2, []) := by decide +kernel
theorem p157_23 : prog 157 23 = some (.isub, 1, []) := by decide +kernel
theorem p157_24 : prog 157 24 = some (.if_icmp .gt 811, 3, [835]) := by decide +kernel
theorem p157_27 : prog 157 27 = some (.aload_n 0, 1, []) := by decide +kernel
theorem p157_28 : prog 157 28 = some (.iload_n 3, 1, []) := by decide +kernel
theorem p157_29 : prog 157 29 = some (.iaload, 1, []) := by decide +kernel
theorem p157_30 : prog 157 30 = some (.bipush 31, 2, []) := by decide +kernel
theorem p157_32 : prog 157 32 = some (.iand, 1, []) := by decide +kernel
theorem p157_33 : prog 157 33 = some (.tableswitch 796 0 16 #[83, 146, 179, 258, 321, 390, 403, 426, 469, 482, 525, 538, 571, 622, 671, 684, 727], 83, [829, 116, 179, 212, 291, 354, 423, 436, 459, 502, 515, 558, 571, 604, 655, 704, 717, 760]) := by decide +kernel
theorem p157_116 : prog 157 116 = some (.aload_n 1, 1, []) := by decide +kernel
theorem p157_117 : prog 157 117 = some (.aload_n 0, 1, []) := by decide +kernel
theorem p157_118 : prog 157 118 = some (.iload_n 3, 1, []) := by decide +kernel
theorem p157_119 : prog 157 119 = some (.iconst 1, 1, []) := by decide +kernel
theorem p157_120 : prog 157 120 = some (.iadd, 1, []) := by decide +kernel
theorem p157_121 : prog 157 121 = some (.iaload, 1, []) := by decide +kernel
theorem p157_122 : prog 157 122 = some (.aload_n 0, 1, []) := by decide +kernel
theorem p157_123 : prog 157 123 = some (.iload_n 3, 1, []) := by decide +kernel
theorem p157_124 : prog 157 124 = some (.iconst 2, 1, []) := by decide +kernel
theorem p157_125 : prog 157 125 = some (.iadd, 1, []) := by decide +kernel
theorem p157_126 : prog 157 126 = some (.iaload, 1, []) := by decide +kernel
theorem p157_127 : prog 157 127 = some (.aload_n 0, 1, []) := by decide +kernel
theorem p157_128 : prog 157 128 = some (.iload_n 3, 1, []) := by decide +kernel
theorem p157_129 : prog 157 129 = some (.iconst 3, 1, []) := by decide +kernel
theorem p157_130 : prog 157 130 = some (.iadd, 1, []) := by decide +kernel
theorem p157_131 : prog 157 131 = some (.iaload, 1, []) := by decide +kernel
theorem p157_132 : prog 157 132 = some (.aload_n 0, 1, []) := by decide +kernel
theorem p157_133 : prog 157 133 = some (.iload_n 3, 1, []) := by decide +kernel
theorem p157_134 : prog 157 134 = some (.iconst 4, 1, []) := by decide +kernel
theorem p157_135 : prog 157 135 = some (.iadd, 1, []) := by decide +kernel
theorem p157_136 : prog 157 136 = some (.iaload, 1, []) := by decide +kernel
theorem p157_137 : prog 157 137 = some (.aload_n 0, 1, []) := by decide +kernel
theorem p157_138 : prog 157 138 = some (.iload_n 3, 1, []) := by decide +kernel
theorem p157_139 : prog 157 139 = some (.iconst 5, 1, []) := by decide +kernel
theorem p157_140 : prog 157 140 = some (.iadd, 1, []) := by decide +kernel
theorem p157_141 : prog 157 141 = some (.iaload, 1, []) := by decide +kernel
theorem p157_142 : prog 157 142 = some (.invokevirtual 13, 3, [0, 1, 6, 8]) := by decide +kernel
theorem p157_145 : prog 157 145 = some (.aload_n 2, 1, []) := by decide +kernel
theorem p157_146 : prog 157 146 = some (.aload_n 0, 1, []) := by decide +kernel
theorem p157_147 : prog 157 147 = some (.iload_n 3, 1, []) := by decide +kernel
theorem p157_148 : prog 157 148 = some (.iconst 1, 1, []) := by decide +kernel
theorem p157_149 : prog 157 149 = some (.iadd, 1, []) := by decide +kernel
theorem p157_150 : prog 157 150 = some (.iaload, 1, []) := by decide +kernel
theorem p157_151 : prog 157 151 = some (.aload_n 0, 1, []) := by decide +kernel
theorem p157_152 : prog 157 152 = some (.iload_n 3, 1, []) := by decide +kernel
theorem p157_153 : prog 157 153 = some (.iconst 2, 1, []) := by decide +kernel
theorem p157_154 : prog 157 154 = some (.iadd, 1, []) := by decide +kernel
theorem p157_155 : prog 157 155 = some (.iaload, 1, []) := by decide +kernel
theorem p157_156 : prog 157 156 = some (.aload_n 0, 1, []) := by decide +kernel
theorem p157_157 : prog 157 157 = some (.iload_n 3, 1, []) := by decide +kernel
theorem p157_158 : prog 157 158 = some (.iconst 3, 1, []) := by decide +kernel
theorem p157_159 : prog 157 159 = some (.iadd, 1, []) := by decide +kernel
theorem p157_160 : prog 157 160 = some (.iaload, 1, []) := by decide +kernel
theorem p157_161 : prog 157 161 = some (.aload_n 0, 1, []) := by decide +kernel
theorem p157_162 : prog 157 162 = some (.iload_n 3, 1, []) := by decide +kernel
theorem p157_163 : prog 157 163 = some (.iconst 4, 1, []) := by decide +kernel
theorem p157_164 : prog 157 164 = some (.iadd, 1, []) := by decide +kernel
theorem p157_165 : prog 157 165 = some (.iaload, 1, []) := by decide +kernel
theorem p157_166 : prog 157 166 = some (.aload_n 0, 1, []) := by decide +kernel
theorem p157_167 : prog 157 167 = some (.iload_n 3, 1, []) := by decide +kernel
theorem p157_168 : prog 157 168 = some (.iconst 5, 1, []) := by decide +kernel
theorem p157_169 : prog 157 169 = some (.iadd, 1, []) := by decide +kernel
theorem p157_170 : prog 157 170 = some (.iaload, 1, []) := by decide +kernel
theorem p157_171 : prog 157 171 = some (.invokevirtual 17, 3, [0, 34, 6, 9]) := by decide +kernel
theorem p157_174 : prog 157 174 = some (.if_icmp .eq 655, 3, [829]) := by decide +kernel
theorem p157_177 : prog 157 177 = some (.iconst 0, 1, []) := by decide +kernel
theorem p157_178 : prog 157 178 = some (.ireturn, 1, [1]) := by decide +kernel
theorem p157_179 : prog 157 179 = some (.aload_n 1, 1, []) := by decide +kernel
theorem p157_180 : prog 157 180 = some (.aload_n 0, 1, []) := by decide +kernel
theorem p157_181 : prog 157 181 = some (.iload_n 3, 1, []) := by decide +kernel
theorem p157_182 : prog 157 182 = some (.iconst 1, 1, []) := by decide +kernel
theorem p157_183 : prog 157 183 = some (.iadd, 1, []) := by decide +kernel
theorem p157_184 : prog 157 184 = some (.iaload, 1, []) := by decide +kernel
theorem p157_185 : prog 157 185 = some (.aload_n 0, 1, []) := by decide +kernel
theorem p157_186 : prog 157 186 = some (.iload_n 3, 1, []) := by decide +kernel
theorem p157_187 : prog 157 187 = some (.iconst 2, 1, []) := by decide +kernel
theorem p157_188 : prog 157 188 = some (.iadd, 1, []) := by decide +kernel
theorem p157_189 : prog 157 189 = some (.iaload, 1, []) := by decide +kernel
theorem p157_190 : prog 157 190 = some (.invokevirtual 18, 3, [0, 2, 3, 8]) := by decide +kernel
theorem p157_193 : prog 157 193 = some (.aload_n 2, 1, []) := by decide +kernel
theorem p157_194 : prog 157 194 = some (.aload_n 0, 1, []) := by decide +kernel
theorem p157_195 : prog 157 195 = some (.iload_n 3, 1, []) := by decide +kernel
theorem p157_196 : prog 157 196 = some (.iconst 1, 1, []) := by decide +kernel
theorem p157_197 : prog 157 197 = some (.iadd, 1, []) := by decide +kernel
theorem p157_198 : prog 157 198 = some (.iaload, 1, []) := by decide +kernel
theorem p157_199 : prog 157 199 = some (.aload_n 0, 1, []) := by decide +kernel
theorem p157_200 : prog 157 200 = some (.iload_n 3, 1, []) := by decide +kernel
theorem p157_201 : prog 157 201 = some (.iconst 2, 1, []) := by decide +kernel
theorem p157_202 : prog 157 202 = some (.iadd, 1, []) := by decide +kernel
theorem p157_203 : prog 157 203 = some (.iaload, 1, []) := by decide +kernel
theorem p157_204 : prog 157 204 = some (.invokevirtual 22, 3, [0, 35, 3, 9]) := by decide +kernel
theorem p157_207 : prog 157 207 = some (.if_icmp .eq 622, 3, [829]) := by decide +kernel
theorem p157_210 : prog 157 210 = some (.iconst 0, 1, []) := by decide +kernel
theorem p157_211 : prog 157 211 = some (.ireturn, 1, [1]) := by decide +kernel
theorem p157_212 : prog 157 212 = some (.aload_n 1, 1, []) := by decide +kernel
theorem p157_213 : prog 157 213 = some (.aload_n 0, 1, []) := by decide +kernel
theorem p157_214 : prog 157 214 = some (.iload_n 3, 1, []) := by decide +kernel
theorem p157_215 : prog 157 215 = some (.iconst 1, 1, []) := by decide +kernel
theorem p157_216 : prog 157 216 = some (.iadd, 1, []) := by decide +kernel
theorem p157_217 : prog 157 217 = some (.iaload, 1, []) := by decide +kernel
theorem p157_218 : prog 157 218 = some (.aload_n 0, 1, []) := by decide +kernel
theorem p157_219 : prog 157 219 = some (.iload_n 3, 1, []) := by decide +kernel
theorem p157_220 : prog 157 220 = some (.iconst 2, 1, []) := by decide +kernel
theorem p157_221 : prog 157 221 = some (.iadd, 1, []) := by decide +kernel
theorem p157_222 : prog 157 222 = some (.iaload, 1, []) := by decide +kernel
theorem p157_223 : prog 157 223 = some (.aload_n 0, 1, []) := by decide +kernel
theorem p157_224 : prog 157 224 = some (.iload_n 3, 1, []) := by decide +kernel
theorem p157_225 : prog 157 225 = some (.iconst 3, 1, []) := by decide +kernel
theorem p157_226 : prog 157 226 = some (.iadd, 1, []) := by decide +kernel
theorem p157_227 : prog 157 227 = some (.iaload, 1, []) := by decide +kernel
theorem p157_228 : prog 157 228 = some (.ifCond .eq 7, 3, [235]) := by decide +kernel
theorem p157_231 : prog 157 231 = some (.iconst 1, 1, []) := by decide +kernel
theorem p157_232 : prog 157 232 = some (.goto 4, 3, [236]) := by decide +kernel
theorem p157_235 : prog 157 235 = some (.iconst 0, 1, []) := by decide +kernel
theorem p157_236 : prog 157 236 = some (.aload_n 0, 1, []) := by decide +kernel
theorem p157_237 : prog 157 237 = some (.iload_n 3, 1, []) := by decide +kernel
theorem p157_238 : prog 157 238 = some (.iconst 4, 1, []) := by decide +kernel
theorem p157_239 : prog 157 239 = some (.iadd, 1, []) := by decide +kernel
theorem p157_240 : prog 157 240 = some (.iaload, 1, []) := by decide +kernel
theorem p157_241 : prog 157 241 = some (.aload_n 0, 1, []) := by decide +kernel
theorem p157_242 : prog 157 242 = some (.iload_n 3, 1, []) := by decide +kernel
theorem p157_243 : prog 157 243 = some (.iconst 5, 1, []) := by decide +kernel
theorem p157_244 : prog 157 244 = some (.iadd, 1, []) := by decide +kernel
theorem p157_245 : prog 157 245 = some (.iaload, 1, []) := by decide +kernel
theorem p157_246 : prog 157 246 = some (.invokevirtual 23, 3, [0, 3, 6, 8]) := by decide +kernel
theorem p157_249 : prog 157 249 = some (.aload_n 2, 1, []) := by decide +kernel
theorem p157_250 : prog 157 250 = some (.aload_n 0, 1, []) := by decide +kernel
theorem p157_251 : prog 157 251 = some (.iload_n 3, 1, []) := by decide +kernel
theorem p157_252 : prog 157 252 = some (.iconst 1, 1, []) := by decide +kernel
theorem p157_253 : prog 157 253 = some (.iadd, 1, []) := by decide +kernel
theorem p157_254 : prog 157 254 = some (.iaload, 1, []) := by decide +kernel
theorem p157_255 : prog 157 255 = some (.aload_n 0, 1, []) := by decide +kernel
theorem p157_256 : prog 157 256 = some (.iload_n 3, 1, []) := by decide +kernel
theorem p157_257 : prog 157 257 = some (.iconst 2, 1, []) := by decide +kernel
theorem p157_258 : prog 157 258 = some (.iadd, 1, []) := by decide +kernel
theorem p157_259 : prog 157 259 = some (.iaload, 1, []) := by decide +kernel
theorem p157_260 : prog 157 260 = some (.aload_n 0, 1, []) := by decide +kernel
theorem p157_261 : prog 157 261 = some (.iload_n 3, 1, []) := by decide +kernel
theorem p157_262 : prog 157 262 = some (.iconst 3, 1, []) := by decide +kernel
theorem p157_263 : prog 157 263 = some (.iadd, 1, []) := by decide +kernel
theorem p157_264 : prog 157 264 = some (.iaload, 1, []) := by decide +kernel
theorem p157_265 : prog 157 265 = some (.ifCond .eq 7, 3, [272]) := by decide +kernel
theorem p157_268 : prog 157 268 = some (.iconst 1, 1, []) := by decide +kernel
theorem p157_269 : prog 157 269 = some (.goto 4, 3, [273]) := by decide +kernel
theorem p157_272 : prog 157 272 = some (.iconst 0, 1, []) := by decide +kernel
theorem p157_273 : prog 157 273 = some (.aload_n 0, 1, []) := by decide +kernel
theorem p157_274 : prog 157 274 = some (.iload_n 3, 1, []) := by decide +kernel
theorem p157_275 : prog 157 275 = some (.iconst 4, 1, []) := by decide +kernel
theorem p157_276 : prog 157 276 = some (.iadd, 1, []) := by decide +kernel
theorem p157_277 : prog 157 277 = some (.iaload, 1, []) := by decide +kernel
theorem p157_278 : prog 157 278 = some (.aload_n 0, 1, []) := by decide +kernel
theorem p157_279 : prog 157 279 = some (.iload_n 3, 1, []) := by decide +kernel
theorem p157_280 : prog 157 280 = some (.iconst 5, 1, []) := by decide +kernel
theorem p157_281 : prog 157 281 = some (.iadd, 1, []) := by decide +kernel
theorem p157_282 : prog 157 282 = some (.iaload, 1, []) := by decide +kernel
theorem p157_283 : prog 157 283 = some (.invokevirtual 27, 3, [0, 37, 6, 9]) := by decide +kernel
theorem p157_286 : prog 157 286 = some (.if_icmp .eq 543, 3, [829]) := by decide +kernel
theorem p157_289 : prog 157 289 = some (.iconst 0, 1, []) := by decide +kernel
theorem p157_290 : prog 157 290 = some (.ireturn, 1, [1]) := by decide +kernel
theorem p157_291 : prog 157 291 = some (.aload_n 1, 1, []) := by decide +kernel
theorem p157_292 : prog 157 292 = some (.aload_n 0, 1, []) := by decide +kernel
theorem p157_293 : prog 157 293 = some (.iload_n 3, 1, []) := by decide +kernel
theorem p157_294 : prog 157 294 = some (.iconst 1, 1, []) := by decide +kernel
theorem p157_295 : prog 157 295 = some (.iadd, 1, []) := by decide +kernel
theorem p157_296 : prog 157 296 = some (.iaload, 1, []) := by decide +kernel
theorem p157_297 : prog 157 297 = some (.aload_n 0, 1, []) := by decide +kernel
theorem p157_298 : prog 157 298 = some (.iload_n 3, 1, []) := by decide +kernel
theorem p157_299 : prog 157 299 = some (.iconst 2, 1, []) := by decide +kernel
theorem p157_300 : prog 157 300 = some (.iadd, 1, []) := by decide +kernel
theorem p157_301 : prog 157 301 = some (.iaload, 1, []) := by decide +kernel
theorem p157_302 : prog 157 302 = some (.aload_n 0, 1, []) := by decide +kernel
theorem p157_303 : prog 157 303 = some (.iload_n 3, 1, []) := by decide +kernel
theorem p157_304 : prog 157 304 = some (.iconst 3, 1, []) := by decide +kernel
theorem p157_305 : prog 157 305 = some (.iadd, 1, []) := by decide +kernel
theorem p157_306 : prog 157 306 = some (.iaload, 1, []) := by decide +kernel
theorem p157_307 : prog 157 307 = some (.aload_n 0, 1, []) := by decide +kernel
theorem p157_308 : prog 157 308 = some (.iload_n 3, 1, []) := by decide +kernel
theorem p157_309 : prog 157 309 = some (.iconst 4, 1, []) := by decide +kernel
theorem p157_310 : prog 157 310 = some (.iadd, 1, []) := by decide +kernel
theorem p157_311 : prog 157 311 = some (.iaload, 1, []) := by decide +kernel
theorem p157_312 : prog 157 312 = some (.i2d, 1, []) := by decide +kernel
theorem p157_313 : prog 157 313 = some (.ldc2_w 28, 3, [4593671619917905920]) := by decide +kernel
theorem p157_316 : prog 157 316 = some (.dmul, 1, []) := by decide +kernel
theorem p157_317 : prog 157 317 = some (.invokevirtual 30, 3, [0, 4, 5, 8]) := by decide +kernel
theorem p157_320 : prog 157 320 = some (.aload_n 2, 1, []) := by decide +kernel
theorem p157_321 : prog 157 321 = some (.aload_n 0, 1, []) := by decide +kernel
theorem p157_322 : prog 157 322 = some (.iload_n 3, 1, []) := by decide +kernel
theorem p157_323 : prog 157 323 = some (.iconst 1, 1, []) := by decide +kernel
theorem p157_324 : prog 157 324 = some (.iadd, 1, []) := by decide +kernel
theorem p157_325 : prog 157 325 = some (.iaload, 1, []) := by decide +kernel
theorem p157_326 : prog 157 326 = some (.aload_n 0, 1, []) := by decide +kernel
theorem p157_327 : prog 157 327 = some (.iload_n 3, 1, []) := by decide +kernel
theorem p157_328 : prog 157 328 = some (.iconst 2, 1, []) := by decide +kernel
theorem p157_329 : prog 157 329 = some (.iadd, 1, []) := by decide +kernel
theorem p157_330 : prog 157 330 = some (.iaload, 1, []) := by decide +kernel
theorem p157_331 : prog 157 331 = some (.aload_n 0, 1, []) := by decide +kernel
theorem p157_332 : prog 157 332 = some (.iload_n 3, 1, []) := by decide +kernel
theorem p157_333 : prog 157 333 = some (.iconst 3, 1, []) := by decide +kernel
theorem p157_334 : prog 157 334 = some (.iadd, 1, []) := by decide +kernel
theorem p157_335 : prog 157 335 = some (.iaload, 1, []) := by decide +kernel
theorem p157_336 : prog 157 336 = some (.aload_n 0, 1, []) := by decide +kernel
theorem p157_337 : prog 157 337 = some (.iload_n 3, 1, []) := by decide +kernel
theorem p157_338 : prog 157 338 = some (.iconst 4, 1, []) := by decide +kernel
theorem p157_339 : prog 157 339 = some (.iadd, 1, []) := by decide +kernel
theorem p157_340 : prog 157 340 = some (.iaload, 1, []) := by decide +kernel
theorem p157_341 : prog 157 341 = some (.i2d, 1, []) := by decide +kernel
theorem p157_342 : prog 157 342 = some (.ldc2_w 28, 3, [4593671619917905920]) := by decide +kernel
theorem p157_345 : prog 157 345 = some (.dmul, 1, []) := by decide +kernel
theorem p157_346 : prog 157 346 = some (.invokevirtual 34, 3, [0, 38, 5, 9]) := by decide +kernel
theorem p157_349 : prog 157 349 = some (.if_icmp .eq 480, 3, [829]) := by decide +kernel
theorem p157_352 : prog 157 352 = some (.iconst 0, 1, []) := by decide +kernel
theorem p157_353 : prog 157 353 = some (.ireturn, 1, [1]) := by decide +kernel
theorem p157_354 : prog 157 354 = some (.aload_n 1, 1, []) := by decide +kernel
theorem p157_355 : prog 157 355 = some (.aload_n 0, 1, []) := by decide +kernel
theorem p157_356 : prog 157 356 = some (.iload_n 3, 1, []) := by decide +kernel
theorem p157_357 : prog 157 357 = some (.iconst 1, 1, []) := by decide +kernel
theorem p157_358 : prog 157 358 = some (.iadd, 1, []) := by decide +kernel
theorem p157_359 : prog 157 359 = some (.iaload, 1, []) := by decide +kernel
theorem p157_360 : prog 157 360 = some (.aload_n 0, 1, []) := by decide +kernel
theorem p157_361 : prog 157 361 = some (.iload_n 3, 1, []) := by decide +kernel
theorem p157_362 : prog 157 362 = some (.iconst 2, 1, []) := by decide +kernel
theorem p157_363 : prog 157 363 = some (.iadd, 1, []) := by decide +kernel
theorem p157_364 : prog 157 364 = some (.iaload, 1, []) := by decide +kernel
theorem p157_365 : prog 157 365 = some (.aload_n 0, 1, []) := by decide +kernel
theorem p157_366 : prog 157 366 = some (.iload_n 3, 1, []) := by decide +kernel
theorem p157_367 : prog 157 367 = some (.iconst 3, 1, []) := by decide +kernel
theorem p157_368 : prog 157 368 = some (.iadd, 1, []) := by decide +kernel
theorem p157_369 : prog 157 369 = some (.iaload, 1, []) := by decide +kernel
theorem p157_370 : prog 157 370 = some (.ifCond .eq 7, 3, [377]) := by decide +kernel
theorem p157_373 : prog 157 373 = some (.iconst 1, 1, []) := by decide +kernel
theorem p157_374 : prog 157 374 = some (.goto 4, 3, [378]) := by decide +kernel
theorem p157_377 : prog 157 377 = some (.iconst 0, 1, []) := by decide +kernel
theorem p157_378 : prog 157 378 = some (.aload_n 0, 1, []) := by decide +kernel
theorem p157_379 : prog 157 379 = some (.iload_n 3, 1, []) := by decide +kernel
theorem p157_380 : prog 157 380 = some (.iconst 4, 1, []) := by decide +kernel
theorem p157_381 : prog 157 381 = some (.iadd, 1, []) := by decide +kernel
theorem p157_382 : prog 157 382 = some (.iaload, 1, []) := by decide +kernel
theorem p157_383 : prog 157 383 = some (.invokevirtual 35, 3, [0, 5, 5, 8]) := by decide +kernel
theorem p157_386 : prog 157 386 = some (.aload_n 2, 1, []) := by decide +kernel
theorem p157_387 : prog 157 387 = some (.aload_n 0, 1, []) := by decide +kernel
theorem p157_388 : prog 157 388 = some (.iload_n 3, 1, []) := by decide +kernel
theorem p157_389 : prog 157 389 = some (.iconst 1, 1, []) := by decide +kernel
theorem p157_390 : prog 157 390 = some (.iadd, 1, []) := by decide +kernel
theorem p157_391 : prog 157 391 = some (.iaload, 1, []) := by decide +kernel
theorem p157_392 : prog 157 392 = some (.aload_n 0, 1, []) := by decide +kernel
theorem p157_393 : prog 157 393 = some (.iload_n 3, 1, []) := by decide +kernel
theorem p157_394 : prog 157 394 = some (.iconst 2, 1, []) := by decide +kernel
theorem p157_395 : prog 157 395 = some (.iadd, 1, []) := by decide +kernel
theorem p157_396 : prog 157 396 = some (.iaload, 1, []) := by decide +kernel
theorem p157_397 : prog 157 397 = some (.aload_n 0, 1, []) := by decide +kernel
theorem p157_398 : prog 157 398 = some (.iload_n 3, 1, []) := by decide +kernel
theorem p157_399 : prog 157 399 = some (.iconst 3, 1, []) := by decide +kernel
theorem p157_400 : prog 157 400 = some (.iadd, 1, []) := by decide +kernel
theorem p157_401 : prog 157 401 = some (.iaload, 1, []) := by decide +kernel
theorem p157_402 : prog 157 402 = some (.ifCond .eq 7, 3, [409]) := by decide +kernel
theorem p157_405 : prog 157 405 = some (.iconst 1, 1, []) := by decide +kernel
theorem p157_406 : prog 157 406 = some (.goto 4, 3, [410]) := by decide +kernel
theorem p157_409 : prog 157 409 = some (.iconst 0, 1, []) := by decide +kernel
theorem p157_410 : prog 157 410 = some (.aload_n 0, 1, []) := by decide +kernel
theorem p157_411 : prog 157 411 = some (.iload_n 3, 1, []) := by decide +kernel
theorem p157_412 : prog 157 412 = some (.iconst 4, 1, []) := by decide +kernel
theorem p157_413 : prog 157 413 = some (.iadd, 1, []) := by decide +kernel
theorem p157_414 : prog 157 414 = some (.iaload, 1, []) := by decide +kernel
theorem p157_415 : prog 157 415 = some (.invokevirtual 39, 3, [0, 39, 5, 9]) := by decide +kernel
theorem p157_418 : prog 157 418 = some (.if_icmp .eq 411, 3, [829]) := by decide +kernel
theorem p157_421 : prog 157 421 = some (.iconst 0, 1, []) := by decide +kernel
theorem p157_422 : prog 157 422 = some (.ireturn, 1, [1]) := by decide +kernel
theorem p157_423 : prog 157 423 = some (.aload_n 1, 1, []) := by decide +kernel
theorem p157_424 : prog 157 424 = some (.invokevirtual 40, 3, [0, 6, 1, 8]) := by decide +kernel
theorem p157_427 : prog 157 427 = some (.aload_n 2, 1, []) := by decide +kernel
theorem p157_428 : prog 157 428 = some (.invokevirtual 44, 3, [0, 40, 1, 9]) := by decide +kernel
theorem p157_431 : prog 157 431 = some (.if_icmp .eq 398, 3, [829]) := by decide +kernel
theorem p157_434 : prog 157 434 = some (.iconst 0, 1, []) := by decide +kernel
theorem p157_435 : prog 157 435 = some (.ireturn, 1, [1]) := by decide +kernel
theorem p157_436 : prog 157 436 = some (.aload_n 1, 1, []) := by decide +kernel
theorem p157_437 : prog 157 437 = some (.aload_n 0, 1, []) := by decide +kernel
theorem p157_438 : prog 157 438 = some (.iload_n 3, 1, []) := by decide +kernel
theorem p157_439 : prog 157 439 = some (.iconst 1, 1, []) := by decide +kernel
theorem p157_440 : prog 157 440 = some (.iadd, 1, []) := by decide +kernel
theorem p157_441 : prog 157 441 = some (.iaload, 1, []) := by decide +kernel
theorem p157_442 : prog 157 442 = some (.invokevirtual 45, 3, [0, 7, 2, 8]) := by decide +kernel
theorem p157_445 : prog 157 445 = some (.aload_n 2, 1, []) := by decide +kernel
theorem p157_446 : prog 157 446 = some (.aload_n 0, 1, []) := by decide +kernel
theorem p157_447 : prog 157 447 = some (.iload_n 3, 1, []) := by decide +kernel
theorem p157_448 : prog 157 448 = some (.iconst 1, 1, []) := by decide +kernel
theorem p157_449 : prog 157 449 = some (.iadd, 1, []) := by decide +kernel
theorem p157_450 : prog 157 450 = some (.iaload, 1, []) := by decide +kernel
theorem p157_451 : prog 157 451 = some (.invokevirtual 49, 3, [0, 41, 2, 9]) := by decide +kernel
theorem p157_454 : prog 157 454 = some (.if_icmp .eq 375, 3, [829]) := by decide +kernel
theorem p157_457 : prog 157 457 = some (.iconst 0, 1, []) := by decide +kernel
theorem p157_458 : prog 157 458 = some (.ireturn, 1, [1]) := by decide +kernel
theorem p157_459 : prog 157 459 = some (.aload_n 1, 1, []) := by decide +kernel
theorem p157_460 : prog 157 460 = some (.aload_n 0, 1, []) := by decide +kernel
theorem p157_461 : prog 157 461 = some (.iload_n 3, 1, []) := by decide +kernel
theorem p157_462 : prog 157 462 = some (.iconst 1, 1, []) := by decide +kernel
theorem p157_463 : prog 157 463 = some (.iadd, 1, []) := by decide +kernel
theorem p157_464 : prog 157 464 = some (.iaload, 1, []) := by decide +kernel
theorem p157_465 : prog 157 465 = some (.aload_n 0, 1, []) := by decide +kernel
theorem p157_466 : prog 157 466 = some (.iload_n 3, 1, []) := by decide +kernel
theorem p157_467 : prog 157 467 = some (.iconst 2, 1, []) := by decide +kernel
theorem p157_468 : prog 157 468 = some (.iadd, 1, []) := by decide +kernel
theorem p157_469 : prog 157 469 = some (.iaload, 1, []) := by decide +kernel
theorem p157_470 : prog 157 470 = some (.aload_n 0, 1, []) := by decide +kernel
theorem p157_471 : prog 157 471 = some (.iload_n 3, 1, []) := by decide +kernel
theorem p157_472 : prog 157 472 = some (.iconst 3, 1, []) := by decide +kernel
theorem p157_473 : prog 157 473 = some (.iadd, 1, []) := by decide +kernel
theorem p157_474 : prog 157 474 = some (.iaload, 1, []) := by decide +kernel
theorem p157_475 : prog 157 475 = some (.invokevirtual 50, 3, [0, 8, 4, 8]) := by decide +kernel
theorem p157_478 : prog 157 478 = some (.aload_n 2, 1, []) := by decide +kernel
theorem p157_479 : prog 157 479 = some (.aload_n 0, 1, []) := by decide +kernel
theorem p157_480 : prog 157 480 = some (.iload_n 3, 1, []) := by decide +kernel
theorem p157_481 : prog 157 481 = some (.iconst 1, 1, []) := by decide +kernel
theorem p157_482 : prog 157 482 = some (.iadd, 1, []) := by decide +kernel
theorem p157_483 : prog 157 483 = some (.iaload, 1, []) := by decide +kernel
theorem p157_484 : prog 157 484 = some (.aload_n 0, 1, []) := by decide +kernel
theorem p157_485 : prog 157 485 = some (.iload_n 3, 1, []) := by decide +kernel
theorem p157_486 : prog 157 486 = some (.iconst 2, 1, []) := by decide +kernel
theorem p157_487 : prog 157 487 = some (.iadd, 1, []) := by decide +kernel
theorem p157_488 : prog 157 488 = some (.iaload, 1, []) := by decide +kernel
theorem p157_489 : prog 157 489 = some (.aload_n 0, 1, []) := by decide +kernel
theorem p157_490 : prog 157 490 = some (.iload_n 3, 1, []) := by decide +kernel
theorem p157_491 : prog 157 491 = some (.iconst 3, 1, []) := by decide +kernel
theorem p157_492 : prog 157 492 = some (.iadd, 1, []) := by decide +kernel
theorem p157_493 : prog 157 493 = some (.iaload, 1, []) := by decide +kernel
theorem p157_494 : prog 157 494 = some (.invokevirtual 54, 3, [0, 42, 4, 9]) := by decide +kernel
theorem p157_497 : prog 157 497 = some (.if_icmp .eq 332, 3, [829]) := by decide +kernel
theorem p157_500 : prog 157 500 = some (.iconst 0, 1, []) := by decide +kernel
theorem p157_501 : prog 157 501 = some (.ireturn, 1, [1]) := by decide +kernel
theorem p157_502 : prog 157 502 = some (.aload_n 1, 1, []) := by decide +kernel
theorem p157_503 : prog 157 503 = some (.invokevirtual 55, 3, [0, 9, 1, 8]) := by decide +kernel
theorem p157_506 : prog 157 506 = some (.aload_n 2, 1, []) := by decide +kernel
theorem p157_507 : prog 157 507 = some (.invokevirtual 58, 3, [0, 43, 1, 9]) := by decide +kernel
theorem p157_510 : prog 157 510 = some (.if_icmp .eq 319, 3, [829]) := by decide +kernel
theorem p157_513 : prog 157 513 = some (.iconst 0, 1, []) := by decide +kernel
theorem p157_514 : prog 157 514 = some (.ireturn, 1, [1]) := by decide +kernel
theorem p157_515 : prog 157 515 = some (.aload_n 1, 1, []) := by decide +kernel
theorem p157_516 : prog 157 516 = some (.aload_n 0, 1, []) := by decide +kernel
theorem p157_517 : prog 157 517 = some (.iload_n 3, 1, []) := by decide +kernel
theorem p157_518 : prog 157 518 = some (.iconst 1, 1, []) := by decide +kernel
theorem p157_519 : prog 157 519 = some (.iadd, 1, []) := by decide +kernel
theorem p157_520 : prog 157 520 = some (.iaload, 1, []) := by decide +kernel
theorem p157_521 : prog 157 521 = some (.aload_n 0, 1, []) := by decide +kernel
theorem p157_522 : prog 157 522 = some (.iload_n 3, 1, []) := by decide +kernel
theorem p157_523 : prog 157 523 = some (.iconst 2, 1, []) := by decide +kernel
theorem p157_524 : prog 157 524 = some (.iadd, 1, []) := by decide +kernel
theorem p157_525 : prog 157 525 = some (.iaload, 1, []) := by decide +kernel
theorem p157_526 : prog 157 526 = some (.aload_n 0, 1, []) := by decide +kernel
theorem p157_527 : prog 157 527 = some (.iload_n 3, 1, []) := by decide +kernel
theorem p157_528 : prog 157 528 = some (.iconst 3, 1, []) := by decide +kernel
theorem p157_529 : prog 157 529 = some (.iadd, 1, []) := by decide +kernel
theorem p157_530 : prog 157 530 = some (.iaload, 1, []) := by decide +kernel
theorem p157_531 : prog 157 531 = some (.invokevirtual 59, 3, [0, 10, 4, 8]) := by decide +kernel
theorem p157_534 : prog 157 534 = some (.aload_n 2, 1, []) := by decide +kernel
theorem p157_535 : prog 157 535 = some (.aload_n 0, 1, []) := by decide +kernel
theorem p157_536 : prog 157 536 = some (.iload_n 3, 1, []) := by decide +kernel
theorem p157_537 : prog 157 537 = some (.iconst 1, 1, []) := by decide +kernel
theorem p157_538 : prog 157 538 = some (.iadd, 1, []) := by decide +kernel
theorem p157_539 : prog 157 539 = some (.iaload, 1, []) := by decide +kernel
theorem p157_540 : prog 157 540 = some (.aload_n 0, 1, []) := by decide +kernel
theorem p157_541 : prog 157 541 = some (.iload_n 3, 1, []) := by decide +kernel
theorem p157_542 : prog 157 542 = some (.iconst 2, 1, []) := by decide +kernel
theorem p157_543 : prog 157 543 = some (.iadd, 1, []) := by decide +kernel
theorem p157_544 : prog 157 544 = some (.iaload, 1, []) := by decide +kernel
theorem p157_545 : prog 157 545 = some (.aload_n 0, 1, []) := by decide +kernel
theorem p157_546 : prog 157 546 = some (.iload_n 3, 1, []) := by decide +kernel
theorem p157_547 : prog 157 547 = some (.iconst 3, 1, []) := by decide +kernel
theorem p157_548 : prog 157 548 = some (.iadd, 1, []) := by decide +kernel
theorem p157_549 : prog 157 549 = some (.iaload, 1, []) := by decide +kernel
theorem p157_550 : prog 157 550 = some (.invokevirtual 63, 3, [0, 44, 4, 9]) := by decide +kernel
theorem p157_553 : prog 157 553 = some (.if_icmp .eq 276, 3, [829]) := by decide +kernel
theorem p157_556 : prog 157 556 = some (.iconst 0, 1, []) := by decide +kernel
theorem p157_557 : prog 157 557 = some (.ireturn, 1, [1]) := by decide +kernel
theorem p157_558 : prog 157 558 = some (.aload_n 1, 1, []) := by decide +kernel
theorem p157_559 : prog 157 559 = some (.invokevirtual 64, 3, [0, 11, 1, 8]) := by decide +kernel
theorem p157_562 : prog 157 562 = some (.aload_n 2, 1, []) := by decide +kernel
theorem p157_563 : prog 157 563 = some (.invokevirtual 67, 3, [0, 60, 1, 9]) := by decide +kernel
theorem p157_566 : prog 157 566 = some (.if_icmp .eq 263, 3, [829]) := by decide +kernel
theorem p157_569 : prog 157 569 = some (.iconst 0, 1, []) := by decide +kernel
theorem p157_570 : prog 157 570 = some (.ireturn, 1, [1]) := by decide +kernel
theorem p157_571 : prog 157 571 = some (.aload_n 1, 1, []) := by decide +kernel
theorem p157_572 : prog 157 572 = some (.aload_n 0, 1, []) := by decide +kernel
theorem p157_573 : prog 157 573 = some (.iload_n 3, 1, []) := by decide +kernel
theorem p157_574 : prog 157 574 = some (.iconst 1, 1, []) := by decide +kernel
theorem p157_575 : prog 157 575 = some (.iadd, 1, []) := by decide +kernel
theorem p157_576 : prog 157 576 = some (.iaload, 1, []) := by decide +kernel
theorem p157_577 : prog 157 577 = some (.aload_n 0, 1, []) := by decide +kernel
theorem p157_578 : prog 157 578 = some (.iload_n 3, 1, []) := by decide +kernel
theorem p157_579 : prog 157 579 = some (.iconst 2, 1, []) := by decide +kernel
theorem p157_580 : prog 157 580 = some (.iadd, 1, []) := by decide +kernel
theorem p157_581 : prog 157 581 = some (.iaload, 1, []) := by decide +kernel
theorem p157_582 : prog 157 582 = some (.invokevirtual 68, 3, [0, 12, 3, 8]) := by decide +kernel
theorem p157_585 : prog 157 585 = some (.aload_n 2, 1, []) := by decide +kernel
theorem p157_586 : prog 157 586 = some (.aload_n 0, 1, []) := by decide +kernel
theorem p157_587 : prog 157 587 = some (.iload_n 3, 1, []) := by decide +kernel
theorem p157_588 : prog 157 588 = some (.iconst 1, 1, []) := by decide +kernel
theorem p157_589 : prog 157 589 = some (.iadd, 1, []) := by decide +kernel
theorem p157_590 : prog 157 590 = some (.iaload, 1, []) := by decide +kernel
theorem p157_591 : prog 157 591 = some (.aload_n 0, 1, []) := by decide +kernel
theorem p157_592 : prog 157 592 = some (.iload_n 3, 1, []) := by decide +kernel
theorem p157_593 : prog 157 593 = some (.iconst 2, 1, []) := by decide +kernel
theorem p157_594 : prog 157 594 = some (.iadd, 1, []) := by decide +kernel
theorem p157_595 : prog 157 595 = some (.iaload, 1, []) := by decide +kernel
theorem p157_596 : prog 157 596 = some (.invokevirtual 72, 3, [0, 61, 3, 9]) := by decide +kernel
theorem p157_599 : prog 157 599 = some (.if_icmp .eq 230, 3, [829]) := by decide +kernel
theorem p157_602 : prog 157 602 = some (.iconst 0, 1, []) := by decide +kernel
theorem p157_603 : prog 157 603 = some (.ireturn, 1, [1]) := by decide +kernel
theorem p157_604 : prog 157 604 = some (.aload_n 1, 1, []) := by decide +kernel
theorem p157_605 : prog 157 605 = some (.aload_n 0, 1, []) := by decide +kernel
theorem p157_606 : prog 157 606 = some (.iload_n 3, 1, []) := by decide +kernel
theorem p157_607 : prog 157 607 = some (.iconst 1, 1, []) := by decide +kernel
theorem p157_608 : prog 157 608 = some (.iadd, 1, []) := by decide +kernel
theorem p157_609 : prog 157 609 = some (.iaload, 1, []) := by decide +kernel
theorem p157_610 : prog 157 610 = some (.invokevirtual 73, 3, [0, 13, 2, 8]) := by decide +kernel
theorem p157_613 : prog 157 613 = some (.dstore 4, 2, []) := by decide +kernel
theorem p157_615 : prog 157 615 = some (.aload_n 2, 1, []) := by decide +kernel
theorem p157_616 : prog 157 616 = some (.aload_n 0, 1, []) := by decide +kernel
theorem p157_617 : prog 157 617 = some (.iload_n 3, 1, []) := by decide +kernel
theorem p157_618 : prog 157 618 = some (.iconst 1, 1, []) := by decide +kernel
theorem p157_619 : prog 157 619 = some (.iadd, 1, []) := by decide +kernel
theorem p157_620 : prog 157 620 = some (.iaload, 1, []) := by decide +kernel
theorem p157_621 : prog 157 621 = some (.invokevirtual 77, 3, [0, 62, 2, 9]) := by decide +kernel
theorem p157_624 : prog 157 624 = some (.dstore 6, 2, []) := by decide +kernel
theorem p157_626 : prog 157 626 = some (.dload 4, 2, []) := by decide +kernel
theorem p157_628 : prog 157 628 = some (.dload 6, 2, []) := by decide +kernel
theorem p157_630 : prog 157 630 = some (.dcmp .l, 1, []) := by decide +kernel
theorem p157_631 : prog 157 631 = some (.ifCond .eq 21, 3, [652]) := by decide +kernel
theorem p157_634 : prog 157 634 = some (.dload 4, 2, []) := by decide +kernel
theorem p157_636 : prog 157 636 = some (.dload 4, 2, []) := by decide +kernel
theorem p157_638 : prog 157 638 = some (.dcmp .l, 1, []) := by decide +kernel
theorem p157_639 : prog 157 639 = some (.ifCond .eq 11, 3, [650]) := by decide +kernel
theorem p157_642 : prog 157 642 = some (.dload 6, 2, []) := by decide +kernel
theorem p157_644 : prog 157 644 = some (.dload 6, 2, []) := by decide +kernel
theorem p157_646 : prog 157 646 = some (.dcmp .l, 1, []) := by decide +kernel
theorem p157_647 : prog 157 647 = some (.ifCond .ne 5, 3, [652]) := by decide +kernel
theorem p157_650 : prog 157 650 = some (.iconst 0, 1, []) := by decide +kernel
theorem p157_651 : prog 157 651 = some (.ireturn, 1, [1]) := by decide +kernel
theorem p157_652 : prog 157 652 = some (.goto 177, 3, [829]) := by decide +kernel
theorem p157_655 : prog 157 655 = some (.aload_n 1, 1, []) := by decide +kernel
theorem p157_656 : prog 157 656 = some (.aload_n 0, 1, []) := by decide +kernel
theorem p157_657 : prog 157 657 = some (.iload_n 3, 1, []) := by decide +kernel
theorem p157_658 : prog 157 658 = some (.iconst 1, 1, []) := by decide +kernel
theorem p157_659 : prog 157 659 = some (.iadd, 1, []) := by decide +kernel
theorem p157_660 : prog 157 660 = some (.iaload, 1, []) := by decide +kernel
theorem p157_661 : prog 157 661 = some (.ifCond .eq 7, 3, [668]) := by decide +kernel
theorem p157_664 : prog 157 664 = some (.iconst 1, 1, []) := by decide +kernel
theorem p157_665 : prog 157 665 = some (.goto 4, 3, [669]) := by decide +kernel
theorem p157_668 : prog 157 668 = some (.iconst 0, 1, []) := by decide +kernel
theorem p157_669 : prog 157 669 = some (.aload_n 0, 1, []) := by decide +kernel
theorem p157_670 : prog 157 670 = some (.iload_n 3, 1, []) := by decide +kernel
theorem p157_671 : prog 157 671 = some (.iconst 2, 1, []) := by decide +kernel
theorem p157_672 : prog 157 672 = some (.iadd, 1, []) := by decide +kernel
theorem p157_673 : prog 157 673 = some (.iaload, 1, []) := by decide +kernel
theorem p157_674 : prog 157 674 = some (.invokevirtual 78, 3, [0, 14, 3, 8]) := by decide +kernel
theorem p157_677 : prog 157 677 = some (.aload_n 2, 1, []) := by decide +kernel
theorem p157_678 : prog 157 678 = some (.aload_n 0, 1, []) := by decide +kernel
theorem p157_679 : prog 157 679 = some (.iload_n 3, 1, []) := by decide +kernel
theorem p157_680 : prog 157 680 = some (.iconst 1, 1, []) := by decide +kernel
theorem p157_681 : prog 157 681 = some (.iadd, 1, []) := by decide +kernel
theorem p157_682 : prog 157 682 = some (.iaload, 1, []) := by decide +kernel
theorem p157_683 : prog 157 683 = some (.ifCond .eq 7, 3, [690]) := by decide +kernel
theorem p157_686 : prog 157 686 = some (.iconst 1, 1, []) := by decide +kernel
theorem p157_687 : prog 157 687 = some (.goto 4, 3, [691]) := by decide +kernel
theorem p157_690 : prog 157 690 = some (.iconst 0, 1, []) := by decide +kernel
theorem p157_691 : prog 157 691 = some (.aload_n 0, 1, []) := by decide +kernel
theorem p157_692 : prog 157 692 = some (.iload_n 3, 1, []) := by decide +kernel
theorem p157_693 : prog 157 693 = some (.iconst 2, 1, []) := by decide +kernel
theorem p157_694 : prog 157 694 = some (.iadd, 1, []) := by decide +kernel
theorem p157_695 : prog 157 695 = some (.iaload, 1, []) := by decide +kernel
theorem p157_696 : prog 157 696 = some (.invokevirtual 82, 3, [0, 70, 3, 9]) := by decide +kernel
theorem p157_699 : prog 157 699 = some (.if_icmp .eq 130, 3, [829]) := by decide +kernel
theorem p157_702 : prog 157 702 = some (.iconst 0, 1, []) := by decide +kernel
theorem p157_703 : prog 157 703 = some (.ireturn, 1, [1]) := by decide +kernel
theorem p157_704 : prog 157 704 = some (.aload_n 1, 1, []) := by decide +kernel
theorem p157_705 : prog 157 705 = some (.invokevirtual 83, 3, [0, 15, 1, 8]) := by decide +kernel
theorem p157_708 : prog 157 708 = some (.aload_n 2, 1, []) := by decide +kernel
theorem p157_709 : prog 157 709 = some (.invokevirtual 86, 3, [0, 72, 1, 9]) := by decide +kernel
theorem p157_712 : prog 157 712 = some (.if_icmp .eq 117, 3, [829]) := by decide +kernel
theorem p157_715 : prog 157 715 = some (.iconst 0, 1, []) := by decide +kernel
theorem p157_716 : prog 157 716 = some (.ireturn, 1, [1]) := by decide +kernel
theorem p157_717 : prog 157 717 = some (.aload_n 1, 1, []) := by decide +kernel
theorem p157_718 : prog 157 718 = some (.aload_n 0, 1, []) := by decide +kernel
theorem p157_719 : prog 157 719 = some (.iload_n 3, 1, []) := by decide +kernel
theorem p157_720 : prog 157 720 = some (.iconst 1, 1, []) := by decide +kernel
theorem p157_721 : prog 157 721 = some (.iadd, 1, []) := by decide +kernel
theorem p157_722 : prog 157 722 = some (.iaload, 1, []) := by decide +kernel
theorem p157_723 : prog 157 723 = some (.aload_n 0, 1, []) := by decide +kernel
theorem p157_724 : prog 157 724 = some (.iload_n 3, 1, []) := by decide +kernel
theorem p157_725 : prog 157 725 = some (.iconst 2, 1, []) := by decide +kernel
theorem p157_726 : prog 157 726 = some (.iadd, 1, []) := by decide +kernel
theorem p157_727 : prog 157 727 = some (.iaload, 1, []) := by decide +kernel
theorem p157_728 : prog 157 728 = some (.aload_n 0, 1, []) := by decide +kernel
theorem p157_729 : prog 157 729 = some (.iload_n 3, 1, []) := by decide +kernel
theorem p157_730 : prog 157 730 = some (.iconst 3, 1, []) := by decide +kernel
theorem p157_731 : prog 157 731 = some (.iadd, 1, []) := by decide +kernel
theorem p157_732 : prog 157 732 = some (.iaload, 1, []) := by decide +kernel
theorem p157_733 : prog 157 733 = some (.invokevirtual 87, 3, [0, 16, 4, 8]) := by decide +kernel
theorem p157_736 : prog 157 736 = some (.aload_n 2, 1, []) := by decide +kernel
theorem p157_737 : prog 157 737 = some (.aload_n 0, 1, []) := by decide +kernel
theorem p157_738 : prog 157 738 = some (.iload_n 3, 1, []) := by decide +kernel
theorem p157_739 : prog 157 739 = some (.iconst 1, 1, []) := by decide +kernel
theorem p157_740 : prog 157 740 = some (.iadd, 1, []) := by decide +kernel
theorem p157_741 : prog 157 741 = some (.iaload, 1, []) := by decide +kernel
theorem p157_742 : prog 157 742 = some (.aload_n 0, 1, []) := by decide +kernel
theorem p157_743 : prog 157 743 = some (.iload_n 3, 1, []) := by decide +kernel
theorem p157_744 : prog 157 744 = some (.iconst 2, 1, []) := by decide +kernel
theorem p157_745 : prog 157 745 = some (.iadd, 1, []) := by decide +kernel
theorem p157_746 : prog 157 746 = some (.iaload, 1, []) := by decide +kernel
theorem p157_747 : prog 157 747 = some (.aload_n 0, 1, []) := by decide +kernel
theorem p157_748 : prog 157 748 = some (.iload_n 3, 1, []) := by decide +kernel
theorem p157_749 : prog 157 749 = some (.iconst 3, 1, []) := by decide +kernel
theorem p157_750 : prog 157 750 = some (.iadd, 1, []) := by decide +kernel
theorem p157_751 : prog 157 751 = some (.iaload, 1, []) := by decide +kernel
theorem p157_752 : prog 157 752 = some (.invokevirtual 90, 3, [0, 73, 4, 9]) := by decide +kernel
theorem p157_755 : prog 157 755 = some (.if_icmp .eq 74, 3, [829]) := by decide +kernel
theorem p157_758 : prog 157 758 = some (.iconst 0, 1, []) := by decide +kernel
theorem p157_759 : prog 157 759 = some (.ireturn, 1, [1]) := by decide +kernel
theorem p157_760 : prog 157 760 = some (.aload_n 1, 1, []) := by decide +kernel
theorem p157_761 : prog 157 761 = some (.aload_n 0, 1, []) := by decide +kernel
theorem p157_762 : prog 157 762 = some (.iload_n 3, 1, []) := by decide +kernel
theorem p157_763 : prog 157 763 = some (.iconst 1, 1, []) := by decide +kernel
theorem p157_764 : prog 157 764 = some (.iadd, 1, []) := by decide +kernel
theorem p157_765 : prog 157 765 = some (.iaload, 1, []) := by decide +kernel
theorem p157_766 : prog 157 766 = some (.aload_n 0, 1, []) := by decide +kernel
theorem p157_767 : prog 157 767 = some (.iload_n 3, 1, []) := by decide +kernel
theorem p157_768 : prog 157 768 = some (.iconst 2, 1, []) := by decide +kernel
theorem p157_769 : prog 157 769 = some (.iadd, 1, []) := by decide +kernel
theorem p157_770 : prog 157 770 = some (.iaload, 1, []) := by decide +kernel
theorem p157_771 : prog 157 771 = some (.aload_n 0, 1, []) := by decide +kernel
theorem p157_772 : prog 157 772 = some (.iload_n 3, 1, []) := by decide +kernel
theorem p157_773 : prog 157 773 = some (.iconst 3, 1, []) := by decide +kernel
theorem p157_774 : prog 157 774 = some (.iadd, 1, []) := by decide +kernel
theorem p157_775 : prog 157 775 = some (.iaload, 1, []) := by decide +kernel
theorem p157_776 : prog 157 776 = some (.ifCond .eq 7, 3, [783]) := by decide +kernel
theorem p157_779 : prog 157 779 = some (.iconst 1, 1, []) := by decide +kernel
theorem p157_780 : prog 157 780 = some (.goto 4, 3, [784]) := by decide +kernel
theorem p157_783 : prog 157 783 = some (.iconst 0, 1, []) := by decide +kernel
theorem p157_784 : prog 157 784 = some (.aload_n 0, 1, []) := by decide +kernel
theorem p157_785 : prog 157 785 = some (.iload_n 3, 1, []) := by decide +kernel
theorem p157_786 : prog 157 786 = some (.iconst 4, 1, []) := by decide +kernel
theorem p157_787 : prog 157 787 = some (.iadd, 1, []) := by decide +kernel
theorem p157_788 : prog 157 788 = some (.iaload, 1, []) := by decide +kernel
theorem p157_789 : prog 157 789 = some (.invokevirtual 91, 3, [0, 17, 5, 8]) := by decide +kernel
theorem p157_792 : prog 157 792 = some (.aload_n 2, 1, []) := by decide +kernel
theorem p157_793 : prog 157 793 = some (.aload_n 0, 1, []) := by decide +kernel
theorem p157_794 : prog 157 794 = some (.iload_n 3, 1, []) := by decide +kernel
theorem p157_795 : prog 157 795 = some (.iconst 1, 1, []) := by decide +kernel
theorem p157_796 : prog 157 796 = some (.iadd, 1, []) := by decide +kernel
theorem p157_797 : prog 157 797 = some (.iaload, 1, []) := by decide +kernel
theorem p157_798 : prog 157 798 = some (.aload_n 0, 1, []) := by decide +kernel
theorem p157_799 : prog 157 799 = some (.iload_n 3, 1, []) := by decide +kernel
theorem p157_800 : prog 157 800 = some (.iconst 2, 1, []) := by decide +kernel
theorem p157_801 : prog 157 801 = some (.iadd, 1, []) := by decide +kernel
theorem p157_802 : prog 157 802 = some (.iaload, 1, []) := by decide +kernel
theorem p157_803 : prog 157 803 = some (.aload_n 0, 1, []) := by decide +kernel
theorem p157_804 : prog 157 804 = some (.iload_n 3, 1, []) := by decide +kernel
theorem p157_805 : prog 157 805 = some (.iconst 3, 1, []) := by decide +kernel
theorem p157_806 : prog 157 806 = some (.iadd, 1, []) := by decide +kernel
theorem p157_807 : prog 157 807 = some (.iaload, 1, []) := by decide +kernel
theorem p157_808 : prog 157 808 = some (.ifCond .eq 7, 3, [815]) := by decide +kernel
theorem p157_811 : prog 157 811 = some (.iconst 1, 1, []) := by decide +kernel
theorem p157_812 : prog 157 812 = some (.goto 4, 3, [816]) := by decide +kernel
theorem p157_815 : prog 157 815 = some (.iconst 0, 1, []) := by decide +kernel
theorem p157_816 : prog 157 816 = some (.aload_n 0, 1, []) := by decide +kernel
theorem p157_817 : prog 157 817 = some (.iload_n 3, 1, []) := by decide +kernel
theorem p157_818 : prog 157 818 = some (.iconst 4, 1, []) := by decide +kernel
theorem p157_819 : prog 157 819 = some (.iadd, 1, []) := by decide +kernel
theorem p157_820 : prog 157 820 = some (.iaload, 1, []) := by decide +kernel
theorem p157_821 : prog 157 821 = some (.invokevirtual 95, 3, [0, 74, 5, 9]) := by decide +kernel
theorem p157_824 : prog 157 824 = some (.if_icmp .eq 5, 3, [829]) := by decide +kernel
theorem p157_827 : prog 157 827 = some (.iconst 0, 1, []) := by decide +kernel
theorem p157_828 : prog 157 828 = some (.ireturn, 1, [1]) := by decide +kernel
theorem p157_829 : prog 157 829 = some (.iinc 3 6, 3, []) := by decide +kernel
theorem p157_832 : prog 157 832 = some (.goto (-814), 3, [18]) := by decide +kernel
theorem p157_835 : prog 157 835 = some (.iconst 1, 1, []) := by decide +kernel
theorem p157_836 : prog 157 836 = some (.ireturn, 1, [1]) := by decide +kernel
