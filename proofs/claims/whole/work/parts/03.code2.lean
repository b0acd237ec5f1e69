/-! the instructions, by program -/
theorem d_W_becomeProduct_160 : decode b_W_becomeProduct 160 = .ok (.iastore, 1) := by decide +kernel
theorem d_W_becomeProduct_161 : decode b_W_becomeProduct 161 = .ok (.iinc 4 1, 3) := by decide +kernel
theorem d_W_becomeProduct_164 : decode b_W_becomeProduct 164 = .ok (.goto (-110), 3) := by decide +kernel
theorem d_W_becomeProduct_167 : decode b_W_becomeProduct 167 = .ok (.aload_n 0, 1) := by decide +kernel
theorem d_W_becomeProduct_168 : decode b_W_becomeProduct 168 = .ok (.iload_n 3, 1) := by decide +kernel
theorem d_W_becomeProduct_169 : decode b_W_becomeProduct 169 = .ok (.invokevirtual 48, 3) := by decide +kernel
theorem d_W_becomeProduct_172 : decode b_W_becomeProduct 172 = .ok (.return_, 1) := by decide +kernel
theorem d_B_multiply_0 : decode b_B_multiply 0 = .ok (.aload_n 0, 1) := by decide +kernel
theorem d_B_multiply_1 : decode b_B_multiply 1 = .ok (.getfield 16, 3) := by decide +kernel
theorem d_B_multiply_4 : decode b_B_multiply 4 = .ok (.aload_n 1, 1) := by decide +kernel
theorem d_B_multiply_5 : decode b_B_multiply 5 = .ok (.getfield 69, 3) := by decide +kernel
theorem d_B_multiply_8 : decode b_B_multiply 8 = .ok (.aload_n 2, 1) := by decide +kernel
theorem d_B_multiply_9 : decode b_B_multiply 9 = .ok (.getfield 69, 3) := by decide +kernel
theorem d_B_multiply_12 : decode b_B_multiply 12 = .ok (.invokevirtual 109, 3) := by decide +kernel
theorem d_B_multiply_15 : decode b_B_multiply 15 = .ok (.aload_n 0, 1) := by decide +kernel
theorem d_B_multiply_16 : decode b_B_multiply 16 = .ok (.getfield 20, 3) := by decide +kernel
theorem d_B_multiply_19 : decode b_B_multiply 19 = .ok (.aload_n 1, 1) := by decide +kernel
theorem d_B_multiply_20 : decode b_B_multiply 20 = .ok (.getfield 72, 3) := by decide +kernel
theorem d_B_multiply_23 : decode b_B_multiply 23 = .ok (.aload_n 2, 1) := by decide +kernel
theorem d_B_multiply_24 : decode b_B_multiply 24 = .ok (.getfield 72, 3) := by decide +kernel
theorem d_B_multiply_27 : decode b_B_multiply 27 = .ok (.invokevirtual 109, 3) := by decide +kernel
theorem d_B_multiply_30 : decode b_B_multiply 30 = .ok (.aload_n 0, 1) := by decide +kernel
theorem d_B_multiply_31 : decode b_B_multiply 31 = .ok (.aload_n 1, 1) := by decide +kernel
theorem d_B_multiply_32 : decode b_B_multiply 32 = .ok (.getfield 76, 3) := by decide +kernel
theorem d_B_multiply_35 : decode b_B_multiply 35 = .ok (.aload_n 2, 1) := by decide +kernel
theorem d_B_multiply_36 : decode b_B_multiply 36 = .ok (.getfield 76, 3) := by decide +kernel
theorem d_B_multiply_39 : decode b_B_multiply 39 = .ok (.if_icmp .eq 7, 3) := by decide +kernel
theorem d_B_multiply_42 : decode b_B_multiply 42 = .ok (.iconst 1, 1) := by decide +kernel
theorem d_B_multiply_43 : decode b_B_multiply 43 = .ok (.goto 4, 3) := by decide +kernel
theorem d_B_multiply_46 : decode b_B_multiply 46 = .ok (.iconst 0, 1) := by decide +kernel
theorem d_B_multiply_47 : decode b_B_multiply 47 = .ok (.putfield 39, 3) := by decide +kernel
theorem d_B_multiply_50 : decode b_B_multiply 50 = .ok (.return_, 1) := by decide +kernel
theorem d_B_divide_0 : decode b_B_divide 0 = .ok (.aload_n 0, 1) := by decide +kernel
theorem d_B_divide_1 : decode b_B_divide 1 = .ok (.aload_n 1, 1) := by decide +kernel
theorem d_B_divide_2 : decode b_B_divide 2 = .ok (.aload_n 2, 1) := by decide +kernel
theorem d_B_divide_3 : decode b_B_divide 3 = .ok (.invokevirtual 115, 3) := by decide +kernel
theorem d_B_divide_6 : decode b_B_divide 6 = .ok (.aload_n 0, 1) := by decide +kernel
theorem d_B_divide_7 : decode b_B_divide 7 = .ok (.aload_n 0, 1) := by decide +kernel
theorem d_B_divide_8 : decode b_B_divide 8 = .ok (.getfield 23, 3) := by decide +kernel
theorem d_B_divide_11 : decode b_B_divide 11 = .ok (.aload_n 0, 1) := by decide +kernel
theorem d_B_divide_12 : decode b_B_divide 12 = .ok (.getfield 26, 3) := by decide +kernel
theorem d_B_divide_15 : decode b_B_divide 15 = .ok (.aload_n 1, 1) := by decide +kernel
theorem d_B_divide_16 : decode b_B_divide 16 = .ok (.getfield 76, 3) := by decide +kernel
theorem d_B_divide_19 : decode b_B_divide 19 = .ok (.aload_n 2, 1) := by decide +kernel
theorem d_B_divide_20 : decode b_B_divide 20 = .ok (.getfield 76, 3) := by decide +kernel
theorem d_B_divide_23 : decode b_B_divide 23 = .ok (.if_icmp .eq 7, 3) := by decide +kernel
theorem d_B_divide_26 : decode b_B_divide 26 = .ok (.iconst 1, 1) := by decide +kernel
theorem d_B_divide_27 : decode b_B_divide 27 = .ok (.goto 4, 3) := by decide +kernel
theorem d_B_divide_30 : decode b_B_divide 30 = .ok (.iconst 0, 1) := by decide +kernel
theorem d_B_divide_31 : decode b_B_divide 31 = .ok (.invokevirtual 105, 3) := by decide +kernel
theorem d_B_divide_34 : decode b_B_divide 34 = .ok (.return_, 1) := by decide +kernel
theorem d_B_takeParts_0 : decode b_B_takeParts 0 = .ok (.aload_n 0, 1) := by decide +kernel
theorem d_B_takeParts_1 : decode b_B_takeParts 1 = .ok (.getfield 16, 3) := by decide +kernel
theorem d_B_takeParts_4 : decode b_B_takeParts 4 = .ok (.aload_n 1, 1) := by decide +kernel
theorem d_B_takeParts_5 : decode b_B_takeParts 5 = .ok (.invokevirtual 47, 3) := by decide +kernel
theorem d_B_takeParts_8 : decode b_B_takeParts 8 = .ok (.aload_n 0, 1) := by decide +kernel
theorem d_B_takeParts_9 : decode b_B_takeParts 9 = .ok (.getfield 20, 3) := by decide +kernel
theorem d_B_takeParts_12 : decode b_B_takeParts 12 = .ok (.aload_n 2, 1) := by decide +kernel
theorem d_B_takeParts_13 : decode b_B_takeParts 13 = .ok (.invokevirtual 47, 3) := by decide +kernel
theorem d_B_takeParts_16 : decode b_B_takeParts 16 = .ok (.aload_n 0, 1) := by decide +kernel
theorem d_B_takeParts_17 : decode b_B_takeParts 17 = .ok (.iload_n 3, 1) := by decide +kernel
theorem d_B_takeParts_18 : decode b_B_takeParts 18 = .ok (.putfield 39, 3) := by decide +kernel
theorem d_B_takeParts_21 : decode b_B_takeParts 21 = .ok (.return_, 1) := by decide +kernel
theorem d_B_compareFractions_0 : decode b_B_compareFractions 0 = .ok (.aload_n 1, 1) := by decide +kernel
theorem d_B_compareFractions_1 : decode b_B_compareFractions 1 = .ok (.invokevirtual 112, 3) := by decide +kernel
theorem d_B_compareFractions_4 : decode b_B_compareFractions 4 = .ok (.istore_n 3, 1) := by decide +kernel
theorem d_B_compareFractions_5 : decode b_B_compareFractions 5 = .ok (.aload_n 2, 1) := by decide +kernel
theorem d_B_compareFractions_6 : decode b_B_compareFractions 6 = .ok (.invokevirtual 112, 3) := by decide +kernel
theorem d_B_compareFractions_9 : decode b_B_compareFractions 9 = .ok (.istore 4, 2) := by decide +kernel
theorem d_B_compareFractions_11 : decode b_B_compareFractions 11 = .ok (.iload_n 3, 1) := by decide +kernel
theorem d_B_compareFractions_12 : decode b_B_compareFractions 12 = .ok (.iload 4, 2) := by decide +kernel
theorem d_B_compareFractions_14 : decode b_B_compareFractions 14 = .ok (.if_icmp .eq 15, 3) := by decide +kernel
theorem d_B_compareFractions_17 : decode b_B_compareFractions 17 = .ok (.iload_n 3, 1) := by decide +kernel
theorem d_B_compareFractions_18 : decode b_B_compareFractions 18 = .ok (.iload 4, 2) := by decide +kernel
theorem d_B_compareFractions_20 : decode b_B_compareFractions 20 = .ok (.if_icmp .ge 7, 3) := by decide +kernel
theorem d_B_compareFractions_23 : decode b_B_compareFractions 23 = .ok (.iconst (-1), 1) := by decide +kernel
theorem d_B_compareFractions_24 : decode b_B_compareFractions 24 = .ok (.goto 4, 3) := by decide +kernel
theorem d_B_compareFractions_27 : decode b_B_compareFractions 27 = .ok (.iconst 1, 1) := by decide +kernel
theorem d_B_compareFractions_28 : decode b_B_compareFractions 28 = .ok (.ireturn, 1) := by decide +kernel
theorem d_B_compareFractions_29 : decode b_B_compareFractions 29 = .ok (.aload_n 0, 1) := by decide +kernel
theorem d_B_compareFractions_30 : decode b_B_compareFractions 30 = .ok (.aload_n 1, 1) := by decide +kernel
theorem d_B_compareFractions_31 : decode b_B_compareFractions 31 = .ok (.aload_n 2, 1) := by decide +kernel
theorem d_B_compareFractions_32 : decode b_B_compareFractions 32 = .ok (.invokevirtual 115, 3) := by decide +kernel
theorem d_B_compareFractions_35 : decode b_B_compareFractions 35 = .ok (.aload_n 0, 1) := by decide +kernel
theorem d_B_compareFractions_36 : decode b_B_compareFractions 36 = .ok (.getfield 23, 3) := by decide +kernel
theorem d_B_compareFractions_39 : decode b_B_compareFractions 39 = .ok (.aload_n 0, 1) := by decide +kernel
theorem d_B_compareFractions_40 : decode b_B_compareFractions 40 = .ok (.getfield 26, 3) := by decide +kernel
theorem d_B_compareFractions_43 : decode b_B_compareFractions 43 = .ok (.invokestatic 119, 3) := by decide +kernel
theorem d_B_compareFractions_46 : decode b_B_compareFractions 46 = .ok (.istore 5, 2) := by decide +kernel
theorem d_B_compareFractions_48 : decode b_B_compareFractions 48 = .ok (.iload_n 3, 1) := by decide +kernel
theorem d_B_compareFractions_49 : decode b_B_compareFractions 49 = .ok (.ifCond .ge 9, 3) := by decide +kernel
theorem d_B_compareFractions_52 : decode b_B_compareFractions 52 = .ok (.iload 5, 2) := by decide +kernel
theorem d_B_compareFractions_54 : decode b_B_compareFractions 54 = .ok (.ineg, 1) := by decide +kernel
theorem d_B_compareFractions_55 : decode b_B_compareFractions 55 = .ok (.goto 5, 3) := by decide +kernel
theorem d_B_compareFractions_58 : decode b_B_compareFractions 58 = .ok (.iload 5, 2) := by decide +kernel
theorem d_B_compareFractions_60 : decode b_B_compareFractions 60 = .ok (.ireturn, 1) := by decide +kernel
theorem d_B_take_0 : decode b_B_take 0 = .ok (.aload_n 0, 1) := by decide +kernel
theorem d_B_take_1 : decode b_B_take 1 = .ok (.aload_n 1, 1) := by decide +kernel
theorem d_B_take_2 : decode b_B_take 2 = .ok (.getfield 69, 3) := by decide +kernel
theorem d_B_take_5 : decode b_B_take 5 = .ok (.aload_n 1, 1) := by decide +kernel
theorem d_B_take_6 : decode b_B_take 6 = .ok (.getfield 72, 3) := by decide +kernel
theorem d_B_take_9 : decode b_B_take 9 = .ok (.aload_n 1, 1) := by decide +kernel
theorem d_B_take_10 : decode b_B_take 10 = .ok (.getfield 76, 3) := by decide +kernel
theorem d_B_take_13 : decode b_B_take 13 = .ok (.invokevirtual 105, 3) := by decide +kernel
theorem d_B_take_16 : decode b_B_take 16 = .ok (.return_, 1) := by decide +kernel
theorem d_B_divideWhole_0 : decode b_B_divideWhole 0 = .ok (.aload_n 0, 1) := by decide +kernel
theorem d_B_divideWhole_1 : decode b_B_divideWhole 1 = .ok (.aload_n 1, 1) := by decide +kernel
theorem d_B_divideWhole_2 : decode b_B_divideWhole 2 = .ok (.aload_n 2, 1) := by decide +kernel
theorem d_B_divideWhole_3 : decode b_B_divideWhole 3 = .ok (.invokevirtual 115, 3) := by decide +kernel
theorem d_B_divideWhole_6 : decode b_B_divideWhole 6 = .ok (.aload_n 0, 1) := by decide +kernel
theorem d_B_divideWhole_7 : decode b_B_divideWhole 7 = .ok (.aload_n 1, 1) := by decide +kernel
theorem d_B_divideWhole_8 : decode b_B_divideWhole 8 = .ok (.getfield 76, 3) := by decide +kernel
theorem d_B_divideWhole_11 : decode b_B_divideWhole 11 = .ok (.aload_n 2, 1) := by decide +kernel
theorem d_B_divideWhole_12 : decode b_B_divideWhole 12 = .ok (.getfield 76, 3) := by decide +kernel
theorem d_B_divideWhole_15 : decode b_B_divideWhole 15 = .ok (.if_icmp .eq 7, 3) := by decide +kernel
theorem d_B_divideWhole_18 : decode b_B_divideWhole 18 = .ok (.iconst 1, 1) := by decide +kernel
theorem d_B_divideWhole_19 : decode b_B_divideWhole 19 = .ok (.goto 4, 3) := by decide +kernel
theorem d_B_divideWhole_22 : decode b_B_divideWhole 22 = .ok (.iconst 0, 1) := by decide +kernel
theorem d_B_divideWhole_23 : decode b_B_divideWhole 23 = .ok (.putfield 39, 3) := by decide +kernel
theorem d_B_divideWhole_26 : decode b_B_divideWhole 26 = .ok (.aload_n 0, 1) := by decide +kernel
theorem d_B_divideWhole_27 : decode b_B_divideWhole 27 = .ok (.aload_n 0, 1) := by decide +kernel
theorem d_B_divideWhole_28 : decode b_B_divideWhole 28 = .ok (.getfield 39, 3) := by decide +kernel
theorem d_B_divideWhole_31 : decode b_B_divideWhole 31 = .ok (.invokevirtual 129, 3) := by decide +kernel
theorem d_B_divideWhole_34 : decode b_B_divideWhole 34 = .ok (.return_, 1) := by decide +kernel
theorem d_B_roundRatio_0 : decode b_B_roundRatio 0 = .ok (.aload_n 0, 1) := by decide +kernel
theorem d_B_roundRatio_1 : decode b_B_roundRatio 1 = .ok (.getfield 23, 3) := by decide +kernel
theorem d_B_roundRatio_4 : decode b_B_roundRatio 4 = .ok (.aload_n 0, 1) := by decide +kernel
theorem d_B_roundRatio_5 : decode b_B_roundRatio 5 = .ok (.getfield 26, 3) := by decide +kernel
theorem d_B_roundRatio_8 : decode b_B_roundRatio 8 = .ok (.aload_n 0, 1) := by decide +kernel
theorem d_B_roundRatio_9 : decode b_B_roundRatio 9 = .ok (.getfield 16, 3) := by decide +kernel
theorem d_B_roundRatio_12 : decode b_B_roundRatio 12 = .ok (.invokevirtual 63, 3) := by decide +kernel
theorem d_B_roundRatio_15 : decode b_B_roundRatio 15 = .ok (.iload_n 1, 1) := by decide +kernel
theorem d_B_roundRatio_16 : decode b_B_roundRatio 16 = .ok (.ifCond .eq 22, 3) := by decide +kernel
theorem d_B_roundRatio_19 : decode b_B_roundRatio 19 = .ok (.aload_n 0, 1) := by decide +kernel
theorem d_B_roundRatio_20 : decode b_B_roundRatio 20 = .ok (.getfield 23, 3) := by decide +kernel
theorem d_B_roundRatio_23 : decode b_B_roundRatio 23 = .ok (.invokevirtual 73, 3) := by decide +kernel
theorem d_B_roundRatio_26 : decode b_B_roundRatio 26 = .ok (.ifCond .ne 12, 3) := by decide +kernel
theorem d_B_roundRatio_29 : decode b_B_roundRatio 29 = .ok (.aload_n 0, 1) := by decide +kernel
theorem d_B_roundRatio_30 : decode b_B_roundRatio 30 = .ok (.getfield 16, 3) := by decide +kernel
theorem d_B_roundRatio_33 : decode b_B_roundRatio 33 = .ok (.iconst 1, 1) := by decide +kernel
theorem d_B_roundRatio_34 : decode b_B_roundRatio 34 = .ok (.iconst 1, 1) := by decide +kernel
theorem d_B_roundRatio_35 : decode b_B_roundRatio 35 = .ok (.invokevirtual 133, 3) := by decide +kernel
theorem d_B_roundRatio_38 : decode b_B_roundRatio 38 = .ok (.aload_n 0, 1) := by decide +kernel
theorem d_B_roundRatio_39 : decode b_B_roundRatio 39 = .ok (.getfield 20, 3) := by decide +kernel
theorem d_B_roundRatio_42 : decode b_B_roundRatio 42 = .ok (.lconst 1, 1) := by decide +kernel
theorem d_B_roundRatio_43 : decode b_B_roundRatio 43 = .ok (.invokevirtual 83, 3) := by decide +kernel
theorem d_B_roundRatio_46 : decode b_B_roundRatio 46 = .ok (.return_, 1) := by decide +kernel
theorem d_W_timesPlus_0 : decode b_W_timesPlus 0 = .ok (.iload_n 2, 1) := by decide +kernel
theorem d_W_timesPlus_1 : decode b_W_timesPlus 1 = .ok (.i2l, 1) := by decide +kernel
theorem d_W_timesPlus_2 : decode b_W_timesPlus 2 = .ok (.lstore_n 3, 1) := by decide +kernel
theorem d_W_timesPlus_3 : decode b_W_timesPlus 3 = .ok (.iconst 0, 1) := by decide +kernel
theorem d_W_timesPlus_4 : decode b_W_timesPlus 4 = .ok (.istore 5, 2) := by decide +kernel
theorem d_W_timesPlus_6 : decode b_W_timesPlus 6 = .ok (.iload 5, 2) := by decide +kernel
theorem d_W_timesPlus_8 : decode b_W_timesPlus 8 = .ok (.aload_n 0, 1) := by decide +kernel
theorem d_W_timesPlus_9 : decode b_W_timesPlus 9 = .ok (.getfield 21, 3) := by decide +kernel
theorem d_W_timesPlus_12 : decode b_W_timesPlus 12 = .ok (.if_icmp .ge 44, 3) := by decide +kernel
theorem d_W_timesPlus_15 : decode b_W_timesPlus 15 = .ok (.iload_n 1, 1) := by decide +kernel
theorem d_W_timesPlus_16 : decode b_W_timesPlus 16 = .ok (.i2l, 1) := by decide +kernel
theorem d_W_timesPlus_17 : decode b_W_timesPlus 17 = .ok (.aload_n 0, 1) := by decide +kernel
theorem d_W_timesPlus_18 : decode b_W_timesPlus 18 = .ok (.getfield 17, 3) := by decide +kernel
theorem d_W_timesPlus_21 : decode b_W_timesPlus 21 = .ok (.iload 5, 2) := by decide +kernel
theorem d_W_timesPlus_23 : decode b_W_timesPlus 23 = .ok (.iaload, 1) := by decide +kernel
theorem d_W_timesPlus_24 : decode b_W_timesPlus 24 = .ok (.i2l, 1) := by decide +kernel
theorem d_W_timesPlus_25 : decode b_W_timesPlus 25 = .ok (.lmul, 1) := by decide +kernel
theorem d_W_timesPlus_26 : decode b_W_timesPlus 26 = .ok (.lload_n 3, 1) := by decide +kernel
theorem d_W_timesPlus_27 : decode b_W_timesPlus 27 = .ok (.ladd, 1) := by decide +kernel
theorem d_W_timesPlus_28 : decode b_W_timesPlus 28 = .ok (.lstore 6, 2) := by decide +kernel
theorem d_W_timesPlus_30 : decode b_W_timesPlus 30 = .ok (.aload_n 0, 1) := by decide +kernel
theorem d_W_timesPlus_31 : decode b_W_timesPlus 31 = .ok (.getfield 17, 3) := by decide +kernel
theorem d_W_timesPlus_34 : decode b_W_timesPlus 34 = .ok (.iload 5, 2) := by decide +kernel
theorem d_W_timesPlus_36 : decode b_W_timesPlus 36 = .ok (.lload 6, 2) := by decide +kernel
theorem d_W_timesPlus_38 : decode b_W_timesPlus 38 = .ok (.ldc2_w 43, 3) := by decide +kernel
theorem d_W_timesPlus_41 : decode b_W_timesPlus 41 = .ok (.land, 1) := by decide +kernel
theorem d_W_timesPlus_42 : decode b_W_timesPlus 42 = .ok (.l2i, 1) := by decide +kernel
theorem d_W_timesPlus_43 : decode b_W_timesPlus 43 = .ok (.iastore, 1) := by decide +kernel
theorem d_W_timesPlus_44 : decode b_W_timesPlus 44 = .ok (.lload 6, 2) := by decide +kernel
theorem d_W_timesPlus_46 : decode b_W_timesPlus 46 = .ok (.bipush 31, 2) := by decide +kernel
theorem d_W_timesPlus_48 : decode b_W_timesPlus 48 = .ok (.lushr, 1) := by decide +kernel
theorem d_W_timesPlus_49 : decode b_W_timesPlus 49 = .ok (.lstore_n 3, 1) := by decide +kernel
theorem d_W_timesPlus_50 : decode b_W_timesPlus 50 = .ok (.iinc 5 1, 3) := by decide +kernel
theorem d_W_timesPlus_53 : decode b_W_timesPlus 53 = .ok (.goto (-47), 3) := by decide +kernel
theorem d_W_timesPlus_56 : decode b_W_timesPlus 56 = .ok (.lload_n 3, 1) := by decide +kernel
theorem d_W_timesPlus_57 : decode b_W_timesPlus 57 = .ok (.lconst 0, 1) := by decide +kernel
theorem d_W_timesPlus_58 : decode b_W_timesPlus 58 = .ok (.lcmp, 1) := by decide +kernel
theorem d_W_timesPlus_59 : decode b_W_timesPlus 59 = .ok (.ifCond .eq 36, 3) := by decide +kernel
theorem d_W_timesPlus_62 : decode b_W_timesPlus 62 = .ok (.aload_n 0, 1) := by decide +kernel
theorem d_W_timesPlus_63 : decode b_W_timesPlus 63 = .ok (.getfield 21, 3) := by decide +kernel
theorem d_W_timesPlus_66 : decode b_W_timesPlus 66 = .ok (.aload_n 0, 1) := by decide +kernel
theorem d_W_timesPlus_67 : decode b_W_timesPlus 67 = .ok (.getfield 17, 3) := by decide +kernel
theorem d_W_timesPlus_70 : decode b_W_timesPlus 70 = .ok (.arraylength, 1) := by decide +kernel
theorem d_W_timesPlus_71 : decode b_W_timesPlus 71 = .ok (.if_icmp .ge 24, 3) := by decide +kernel
theorem d_W_timesPlus_74 : decode b_W_timesPlus 74 = .ok (.aload_n 0, 1) := by decide +kernel
theorem d_W_timesPlus_75 : decode b_W_timesPlus 75 = .ok (.getfield 17, 3) := by decide +kernel
theorem d_W_timesPlus_78 : decode b_W_timesPlus 78 = .ok (.aload_n 0, 1) := by decide +kernel
theorem d_W_timesPlus_79 : decode b_W_timesPlus 79 = .ok (.getfield 21, 3) := by decide +kernel
theorem d_W_timesPlus_82 : decode b_W_timesPlus 82 = .ok (.lload_n 3, 1) := by decide +kernel
theorem d_W_timesPlus_83 : decode b_W_timesPlus 83 = .ok (.l2i, 1) := by decide +kernel
theorem d_W_timesPlus_84 : decode b_W_timesPlus 84 = .ok (.iastore, 1) := by decide +kernel
theorem d_W_timesPlus_85 : decode b_W_timesPlus 85 = .ok (.aload_n 0, 1) := by decide +kernel
theorem d_W_timesPlus_86 : decode b_W_timesPlus 86 = .ok (.dup, 1) := by decide +kernel
theorem d_W_timesPlus_87 : decode b_W_timesPlus 87 = .ok (.getfield 21, 3) := by decide +kernel
theorem d_W_timesPlus_90 : decode b_W_timesPlus 90 = .ok (.iconst 1, 1) := by decide +kernel
theorem d_W_timesPlus_91 : decode b_W_timesPlus 91 = .ok (.iadd, 1) := by decide +kernel
theorem d_W_timesPlus_92 : decode b_W_timesPlus 92 = .ok (.putfield 21, 3) := by decide +kernel
theorem d_W_timesPlus_95 : decode b_W_timesPlus 95 = .ok (.return_, 1) := by decide +kernel
theorem d_B_takeRest_0 : decode b_B_takeRest 0 = .ok (.aload_n 0, 1) := by decide +kernel
theorem d_B_takeRest_1 : decode b_B_takeRest 1 = .ok (.aload_n 1, 1) := by decide +kernel
theorem d_B_takeRest_2 : decode b_B_takeRest 2 = .ok (.aload_n 2, 1) := by decide +kernel
theorem d_B_takeRest_3 : decode b_B_takeRest 3 = .ok (.invokevirtual 115, 3) := by decide +kernel
theorem d_B_takeRest_6 : decode b_B_takeRest 6 = .ok (.aload_n 0, 1) := by decide +kernel
theorem d_B_takeRest_7 : decode b_B_takeRest 7 = .ok (.getfield 20, 3) := by decide +kernel
theorem d_B_takeRest_10 : decode b_B_takeRest 10 = .ok (.aload_n 1, 1) := by decide +kernel
theorem d_B_takeRest_11 : decode b_B_takeRest 11 = .ok (.getfield 72, 3) := by decide +kernel
theorem d_B_takeRest_14 : decode b_B_takeRest 14 = .ok (.aload_n 2, 1) := by decide +kernel
theorem d_B_takeRest_15 : decode b_B_takeRest 15 = .ok (.getfield 72, 3) := by decide +kernel
theorem d_B_takeRest_18 : decode b_B_takeRest 18 = .ok (.invokevirtual 109, 3) := by decide +kernel
theorem d_B_takeRest_21 : decode b_B_takeRest 21 = .ok (.aload_n 0, 1) := by decide +kernel
theorem d_B_takeRest_22 : decode b_B_takeRest 22 = .ok (.aload_n 2, 1) := by decide +kernel
theorem d_B_takeRest_23 : decode b_B_takeRest 23 = .ok (.getfield 76, 3) := by decide +kernel
theorem d_B_takeRest_26 : decode b_B_takeRest 26 = .ok (.putfield 39, 3) := by decide +kernel
theorem d_B_takeRest_29 : decode b_B_takeRest 29 = .ok (.aload_n 0, 1) := by decide +kernel
theorem d_B_takeRest_30 : decode b_B_takeRest 30 = .ok (.getfield 23, 3) := by decide +kernel
theorem d_B_takeRest_33 : decode b_B_takeRest 33 = .ok (.aload_n 0, 1) := by decide +kernel
theorem d_B_takeRest_34 : decode b_B_takeRest 34 = .ok (.getfield 26, 3) := by decide +kernel
theorem d_B_takeRest_37 : decode b_B_takeRest 37 = .ok (.aload_n 0, 1) := by decide +kernel
theorem d_B_takeRest_38 : decode b_B_takeRest 38 = .ok (.getfield 29, 3) := by decide +kernel
theorem d_B_takeRest_41 : decode b_B_takeRest 41 = .ok (.invokevirtual 63, 3) := by decide +kernel
theorem d_B_takeRest_44 : decode b_B_takeRest 44 = .ok (.aload_n 1, 1) := by decide +kernel
theorem d_B_takeRest_45 : decode b_B_takeRest 45 = .ok (.getfield 76, 3) := by decide +kernel
theorem d_B_takeRest_48 : decode b_B_takeRest 48 = .ok (.aload_n 2, 1) := by decide +kernel
theorem d_B_takeRest_49 : decode b_B_takeRest 49 = .ok (.getfield 76, 3) := by decide +kernel
theorem d_B_takeRest_52 : decode b_B_takeRest 52 = .ok (.if_icmp .eq 13, 3) := by decide +kernel
theorem d_B_takeRest_55 : decode b_B_takeRest 55 = .ok (.aload_n 0, 1) := by decide +kernel
theorem d_B_takeRest_56 : decode b_B_takeRest 56 = .ok (.getfield 23, 3) := by decide +kernel
theorem d_B_takeRest_59 : decode b_B_takeRest 59 = .ok (.invokevirtual 73, 3) := by decide +kernel
theorem d_B_takeRest_62 : decode b_B_takeRest 62 = .ok (.ifCond .eq 17, 3) := by decide +kernel
theorem d_B_takeRest_65 : decode b_B_takeRest 65 = .ok (.aload_n 0, 1) := by decide +kernel
theorem d_B_takeRest_66 : decode b_B_takeRest 66 = .ok (.getfield 16, 3) := by decide +kernel
theorem d_B_takeRest_69 : decode b_B_takeRest 69 = .ok (.aload_n 0, 1) := by decide +kernel
theorem d_B_takeRest_70 : decode b_B_takeRest 70 = .ok (.getfield 23, 3) := by decide +kernel
theorem d_B_takeRest_73 : decode b_B_takeRest 73 = .ok (.invokevirtual 47, 3) := by decide +kernel
theorem d_B_takeRest_76 : decode b_B_takeRest 76 = .ok (.goto 22, 3) := by decide +kernel
theorem d_B_takeRest_79 : decode b_B_takeRest 79 = .ok (.aload_n 0, 1) := by decide +kernel
theorem d_B_takeRest_80 : decode b_B_takeRest 80 = .ok (.getfield 16, 3) := by decide +kernel
theorem d_B_takeRest_83 : decode b_B_takeRest 83 = .ok (.lconst 1, 1) := by decide +kernel
theorem d_B_takeRest_84 : decode b_B_takeRest 84 = .ok (.aload_n 0, 1) := by decide +kernel
theorem d_B_takeRest_85 : decode b_B_takeRest 85 = .ok (.getfield 26, 3) := by decide +kernel
theorem d_B_takeRest_88 : decode b_B_takeRest 88 = .ok (.ldc2_w 127, 3) := by decide +kernel
theorem d_B_takeRest_91 : decode b_B_takeRest 91 = .ok (.aload_n 0, 1) := by decide +kernel
theorem d_B_takeRest_92 : decode b_B_takeRest 92 = .ok (.getfield 23, 3) := by decide +kernel
theorem d_B_takeRest_95 : decode b_B_takeRest 95 = .ok (.invokevirtual 123, 3) := by decide +kernel
theorem d_B_takeRest_98 : decode b_B_takeRest 98 = .ok (.return_, 1) := by decide +kernel
theorem d_B_takeCommonDivisor_0 : decode b_B_takeCommonDivisor 0 = .ok (.aload_n 0, 1) := by decide +kernel
theorem d_B_takeCommonDivisor_1 : decode b_B_takeCommonDivisor 1 = .ok (.getfield 23, 3) := by decide +kernel
theorem d_B_takeCommonDivisor_4 : decode b_B_takeCommonDivisor 4 = .ok (.aload_n 1, 1) := by decide +kernel
theorem d_B_takeCommonDivisor_5 : decode b_B_takeCommonDivisor 5 = .ok (.getfield 69, 3) := by decide +kernel
theorem d_B_takeCommonDivisor_8 : decode b_B_takeCommonDivisor 8 = .ok (.invokevirtual 47, 3) := by decide +kernel
theorem d_B_takeCommonDivisor_11 : decode b_B_takeCommonDivisor 11 = .ok (.aload_n 0, 1) := by decide +kernel
theorem d_B_takeCommonDivisor_12 : decode b_B_takeCommonDivisor 12 = .ok (.getfield 26, 3) := by decide +kernel
theorem d_B_takeCommonDivisor_15 : decode b_B_takeCommonDivisor 15 = .ok (.aload_n 2, 1) := by decide +kernel
theorem d_B_takeCommonDivisor_16 : decode b_B_takeCommonDivisor 16 = .ok (.getfield 69, 3) := by decide +kernel
theorem d_B_takeCommonDivisor_19 : decode b_B_takeCommonDivisor 19 = .ok (.invokevirtual 47, 3) := by decide +kernel
theorem d_B_takeCommonDivisor_22 : decode b_B_takeCommonDivisor 22 = .ok (.aload_n 0, 1) := by decide +kernel
theorem d_B_takeCommonDivisor_23 : decode b_B_takeCommonDivisor 23 = .ok (.aload_n 0, 1) := by decide +kernel
theorem d_B_takeCommonDivisor_24 : decode b_B_takeCommonDivisor 24 = .ok (.getfield 35, 3) := by decide +kernel
theorem d_B_takeCommonDivisor_27 : decode b_B_takeCommonDivisor 27 = .ok (.aload_n 0, 1) := by decide +kernel
theorem d_B_takeCommonDivisor_28 : decode b_B_takeCommonDivisor 28 = .ok (.getfield 23, 3) := by decide +kernel
theorem d_B_takeCommonDivisor_31 : decode b_B_takeCommonDivisor 31 = .ok (.aload_n 0, 1) := by decide +kernel
theorem d_B_takeCommonDivisor_32 : decode b_B_takeCommonDivisor 32 = .ok (.getfield 26, 3) := by decide +kernel
theorem d_B_takeCommonDivisor_35 : decode b_B_takeCommonDivisor 35 = .ok (.invokevirtual 51, 3) := by decide +kernel
theorem d_B_takeCommonDivisor_38 : decode b_B_takeCommonDivisor 38 = .ok (.iconst 0, 1) := by decide +kernel
theorem d_B_takeCommonDivisor_39 : decode b_B_takeCommonDivisor 39 = .ok (.invokevirtual 137, 3) := by decide +kernel
theorem d_B_takeCommonDivisor_42 : decode b_B_takeCommonDivisor 42 = .ok (.return_, 1) := by decide +kernel
theorem d_B_takeWhole_0 : decode b_B_takeWhole 0 = .ok (.aload_n 0, 1) := by decide +kernel
theorem d_B_takeWhole_1 : decode b_B_takeWhole 1 = .ok (.getfield 16, 3) := by decide +kernel
theorem d_B_takeWhole_4 : decode b_B_takeWhole 4 = .ok (.aload_n 1, 1) := by decide +kernel
theorem d_B_takeWhole_5 : decode b_B_takeWhole 5 = .ok (.invokevirtual 47, 3) := by decide +kernel
theorem d_B_takeWhole_8 : decode b_B_takeWhole 8 = .ok (.aload_n 0, 1) := by decide +kernel
theorem d_B_takeWhole_9 : decode b_B_takeWhole 9 = .ok (.getfield 20, 3) := by decide +kernel
theorem d_B_takeWhole_12 : decode b_B_takeWhole 12 = .ok (.lconst 1, 1) := by decide +kernel
theorem d_B_takeWhole_13 : decode b_B_takeWhole 13 = .ok (.invokevirtual 83, 3) := by decide +kernel
theorem d_B_takeWhole_16 : decode b_B_takeWhole 16 = .ok (.aload_n 0, 1) := by decide +kernel
theorem d_B_takeWhole_17 : decode b_B_takeWhole 17 = .ok (.iload_n 2, 1) := by decide +kernel
theorem d_B_takeWhole_18 : decode b_B_takeWhole 18 = .ok (.putfield 39, 3) := by decide +kernel
theorem d_B_takeWhole_21 : decode b_B_takeWhole 21 = .ok (.return_, 1) := by decide +kernel
theorem d_L_change_0 : decode b_L_change 0 = .ok (.aload 4, 2) := by decide +kernel
theorem d_L_change_2 : decode b_L_change 2 = .ok (.iconst 0, 1) := by decide +kernel
theorem d_L_change_3 : decode b_L_change 3 = .ok (.aload_n 0, 1) := by decide +kernel
theorem d_L_change_4 : decode b_L_change 4 = .ok (.iload_n 1, 1) := by decide +kernel
theorem d_L_change_5 : decode b_L_change 5 = .ok (.iload_n 2, 1) := by decide +kernel
theorem d_L_change_6 : decode b_L_change 6 = .ok (.iload_n 3, 1) := by decide +kernel
theorem d_L_change_7 : decode b_L_change 7 = .ok (.invokevirtual 19, 3) := by decide +kernel
theorem d_L_change_10 : decode b_L_change 10 = .ok (.i2l, 1) := by decide +kernel
theorem d_L_change_11 : decode b_L_change 11 = .ok (.lastore, 1) := by decide +kernel
theorem d_L_change_12 : decode b_L_change 12 = .ok (.goto 7, 3) := by decide +kernel
theorem d_L_change_15 : decode b_L_change 15 = .ok (.astore 5, 2) := by decide +kernel
theorem d_L_change_17 : decode b_L_change 17 = .ok (.iconst 1, 1) := by decide +kernel
theorem d_L_change_18 : decode b_L_change 18 = .ok (.ireturn, 1) := by decide +kernel
theorem d_L_change_19 : decode b_L_change 19 = .ok (.iconst 0, 1) := by decide +kernel
theorem d_L_change_20 : decode b_L_change 20 = .ok (.ireturn, 1) := by decide +kernel
theorem d_K_change_0 : decode b_K_change 0 = .ok (.aload_n 0, 1) := by decide +kernel
theorem d_K_change_1 : decode b_K_change 1 = .ok (.iload_n 1, 1) := by decide +kernel
theorem d_K_change_2 : decode b_K_change 2 = .ok (.invokevirtual 34, 3) := by decide +kernel
theorem d_K_change_5 : decode b_K_change 5 = .ok (.astore 4, 2) := by decide +kernel
theorem d_K_change_7 : decode b_K_change 7 = .ok (.aload_n 0, 1) := by decide +kernel
theorem d_K_change_8 : decode b_K_change 8 = .ok (.iload_n 3, 1) := by decide +kernel
theorem d_K_change_9 : decode b_K_change 9 = .ok (.invokevirtual 34, 3) := by decide +kernel
theorem d_K_change_12 : decode b_K_change 12 = .ok (.astore 5, 2) := by decide +kernel
theorem d_K_change_14 : decode b_K_change 14 = .ok (.iload_n 2, 1) := by decide +kernel
theorem d_K_change_15 : decode b_K_change 15 = .ok (.ifCond .lt 9, 3) := by decide +kernel
theorem d_K_change_18 : decode b_K_change 18 = .ok (.iload_n 2, 1) := by decide +kernel
theorem d_K_change_19 : decode b_K_change 19 = .ok (.bipush 6, 2) := by decide +kernel
theorem d_K_change_21 : decode b_K_change 21 = .ok (.if_icmp .le 13, 3) := by decide +kernel
theorem d_K_change_24 : decode b_K_change 24 = .ok (.new 38, 3) := by decide +kernel
theorem d_K_change_27 : decode b_K_change 27 = .ok (.dup, 1) := by decide +kernel
theorem d_K_change_28 : decode b_K_change 28 = .ok (.ldc 53, 2) := by decide +kernel
theorem d_K_change_30 : decode b_K_change 30 = .ok (.invokespecial 42, 3) := by decide +kernel
theorem d_K_change_33 : decode b_K_change 33 = .ok (.athrow, 1) := by decide +kernel
theorem d_K_change_34 : decode b_K_change 34 = .ok (.iload_n 2, 1) := by decide +kernel
theorem d_K_change_35 : decode b_K_change 35 = .ok (.iconst 2, 1) := by decide +kernel
theorem d_K_change_36 : decode b_K_change 36 = .ok (.if_icmp .ne 14, 3) := by decide +kernel
theorem d_K_change_39 : decode b_K_change 39 = .ok (.aload 5, 2) := by decide +kernel
theorem d_K_change_41 : decode b_K_change 41 = .ok (.invokevirtual 61, 3) := by decide +kernel
theorem d_K_change_44 : decode b_K_change 44 = .ok (.ifCond .ne 6, 3) := by decide +kernel
theorem d_K_change_47 : decode b_K_change 47 = .ok (.bipush (-2), 2) := by decide +kernel
theorem d_K_change_49 : decode b_K_change 49 = .ok (.ireturn, 1) := by decide +kernel
theorem d_K_change_50 : decode b_K_change 50 = .ok (.iload_n 2, 1) := by decide +kernel
theorem d_K_change_51 : decode b_K_change 51 = .ok (.tableswitch 178 0 5 #[37, 70, 91, 116, 133, 158], 37) := by decide +kernel
theorem d_K_change_88 : decode b_K_change 88 = .ok (.aload_n 0, 1) := by decide +kernel
theorem d_K_change_89 : decode b_K_change 89 = .ok (.getfield 19, 3) := by decide +kernel
theorem d_K_change_92 : decode b_K_change 92 = .ok (.aload 5, 2) := by decide +kernel
theorem d_K_change_94 : decode b_K_change 94 = .ok (.getfield 100, 3) := by decide +kernel
theorem d_K_change_97 : decode b_K_change 97 = .ok (.aload 5, 2) := by decide +kernel
theorem d_K_change_99 : decode b_K_change 99 = .ok (.getfield 104, 3) := by decide +kernel
theorem d_K_change_102 : decode b_K_change 102 = .ok (.aload 5, 2) := by decide +kernel
theorem d_K_change_104 : decode b_K_change 104 = .ok (.getfield 65, 3) := by decide +kernel
theorem d_K_change_107 : decode b_K_change 107 = .ok (.ifCond .ne 7, 3) := by decide +kernel
theorem d_K_change_110 : decode b_K_change 110 = .ok (.iconst 1, 1) := by decide +kernel
theorem d_K_change_111 : decode b_K_change 111 = .ok (.goto 4, 3) := by decide +kernel
theorem d_K_change_114 : decode b_K_change 114 = .ok (.iconst 0, 1) := by decide +kernel
theorem d_K_change_115 : decode b_K_change 115 = .ok (.invokevirtual 107, 3) := by decide +kernel
theorem d_K_change_118 : decode b_K_change 118 = .ok (.goto 124, 3) := by decide +kernel
theorem d_K_change_121 : decode b_K_change 121 = .ok (.aload_n 0, 1) := by decide +kernel
theorem d_K_change_122 : decode b_K_change 122 = .ok (.getfield 19, 3) := by decide +kernel
theorem d_K_change_125 : decode b_K_change 125 = .ok (.aload 5, 2) := by decide +kernel
theorem d_K_change_127 : decode b_K_change 127 = .ok (.getfield 100, 3) := by decide +kernel
theorem d_K_change_130 : decode b_K_change 130 = .ok (.aload 5, 2) := by decide +kernel
theorem d_K_change_132 : decode b_K_change 132 = .ok (.getfield 104, 3) := by decide +kernel
theorem d_K_change_135 : decode b_K_change 135 = .ok (.iconst 0, 1) := by decide +kernel
theorem d_K_change_136 : decode b_K_change 136 = .ok (.invokevirtual 107, 3) := by decide +kernel
theorem d_K_change_139 : decode b_K_change 139 = .ok (.goto 103, 3) := by decide +kernel
theorem d_K_change_142 : decode b_K_change 142 = .ok (.aload_n 0, 1) := by decide +kernel
theorem d_K_change_143 : decode b_K_change 143 = .ok (.getfield 19, 3) := by decide +kernel
theorem d_K_change_146 : decode b_K_change 146 = .ok (.aload 5, 2) := by decide +kernel
theorem d_K_change_148 : decode b_K_change 148 = .ok (.getfield 104, 3) := by decide +kernel
theorem d_K_change_151 : decode b_K_change 151 = .ok (.aload 5, 2) := by decide +kernel
theorem d_K_change_153 : decode b_K_change 153 = .ok (.getfield 100, 3) := by decide +kernel
theorem d_K_change_156 : decode b_K_change 156 = .ok (.aload 5, 2) := by decide +kernel
theorem d_K_change_158 : decode b_K_change 158 = .ok (.getfield 65, 3) := by decide +kernel
theorem d_K_change_161 : decode b_K_change 161 = .ok (.invokevirtual 107, 3) := by decide +kernel
theorem d_K_change_164 : decode b_K_change 164 = .ok (.goto 78, 3) := by decide +kernel
theorem d_K_change_167 : decode b_K_change 167 = .ok (.aload_n 0, 1) := by decide +kernel
theorem d_K_change_168 : decode b_K_change 168 = .ok (.getfield 19, 3) := by decide +kernel
theorem d_K_change_171 : decode b_K_change 171 = .ok (.aload 5, 2) := by decide +kernel
theorem d_K_change_173 : decode b_K_change 173 = .ok (.aload 5, 2) := by decide +kernel
theorem d_K_change_175 : decode b_K_change 175 = .ok (.getfield 65, 3) := by decide +kernel
theorem d_K_change_178 : decode b_K_change 178 = .ok (.invokevirtual 111, 3) := by decide +kernel
theorem d_K_change_181 : decode b_K_change 181 = .ok (.goto 61, 3) := by decide +kernel
theorem d_K_change_184 : decode b_K_change 184 = .ok (.aload_n 0, 1) := by decide +kernel
theorem d_K_change_185 : decode b_K_change 185 = .ok (.getfield 19, 3) := by decide +kernel
theorem d_K_change_188 : decode b_K_change 188 = .ok (.aload 5, 2) := by decide +kernel
theorem d_K_change_190 : decode b_K_change 190 = .ok (.aload 5, 2) := by decide +kernel
theorem d_K_change_192 : decode b_K_change 192 = .ok (.getfield 65, 3) := by decide +kernel
theorem d_K_change_195 : decode b_K_change 195 = .ok (.ifCond .ne 7, 3) := by decide +kernel
theorem d_K_change_198 : decode b_K_change 198 = .ok (.iconst 1, 1) := by decide +kernel
theorem d_K_change_199 : decode b_K_change 199 = .ok (.goto 4, 3) := by decide +kernel
theorem d_K_change_202 : decode b_K_change 202 = .ok (.iconst 0, 1) := by decide +kernel
theorem d_K_change_203 : decode b_K_change 203 = .ok (.invokevirtual 111, 3) := by decide +kernel
theorem d_K_change_206 : decode b_K_change 206 = .ok (.goto 36, 3) := by decide +kernel
theorem d_K_change_209 : decode b_K_change 209 = .ok (.aload_n 0, 1) := by decide +kernel
theorem d_K_change_210 : decode b_K_change 210 = .ok (.getfield 19, 3) := by decide +kernel
theorem d_K_change_213 : decode b_K_change 213 = .ok (.aload 5, 2) := by decide +kernel
theorem d_K_change_215 : decode b_K_change 215 = .ok (.getfield 100, 3) := by decide +kernel
theorem d_K_change_218 : decode b_K_change 218 = .ok (.aload 5, 2) := by decide +kernel
theorem d_K_change_220 : decode b_K_change 220 = .ok (.getfield 65, 3) := by decide +kernel
theorem d_K_change_223 : decode b_K_change 223 = .ok (.invokevirtual 115, 3) := by decide +kernel
theorem d_K_change_226 : decode b_K_change 226 = .ok (.goto 16, 3) := by decide +kernel
theorem d_K_change_229 : decode b_K_change 229 = .ok (.aload_n 0, 1) := by decide +kernel
theorem d_K_change_230 : decode b_K_change 230 = .ok (.getfield 19, 3) := by decide +kernel
theorem d_K_change_233 : decode b_K_change 233 = .ok (.aload 5, 2) := by decide +kernel
theorem d_K_change_235 : decode b_K_change 235 = .ok (.getfield 104, 3) := by decide +kernel
theorem d_K_change_238 : decode b_K_change 238 = .ok (.iconst 0, 1) := by decide +kernel
theorem d_K_change_239 : decode b_K_change 239 = .ok (.invokevirtual 115, 3) := by decide +kernel
theorem d_K_change_242 : decode b_K_change 242 = .ok (.aload_n 0, 1) := by decide +kernel
theorem d_K_change_243 : decode b_K_change 243 = .ok (.getfield 19, 3) := by decide +kernel
theorem d_K_change_246 : decode b_K_change 246 = .ok (.aload 4, 2) := by decide +kernel
theorem d_K_change_248 : decode b_K_change 248 = .ok (.invokevirtual 88, 3) := by decide +kernel
theorem d_K_change_251 : decode b_K_change 251 = .ok (.ireturn, 1) := by decide +kernel
theorem d_B_round_0 : decode b_B_round 0 = .ok (.aload_n 0, 1) := by decide +kernel
theorem d_B_round_1 : decode b_B_round 1 = .ok (.getfield 23, 3) := by decide +kernel
theorem d_B_round_4 : decode b_B_round 4 = .ok (.aload_n 1, 1) := by decide +kernel
theorem d_B_round_5 : decode b_B_round 5 = .ok (.getfield 69, 3) := by decide +kernel
theorem d_B_round_8 : decode b_B_round 8 = .ok (.invokevirtual 47, 3) := by decide +kernel
theorem d_B_round_11 : decode b_B_round 11 = .ok (.aload_n 0, 1) := by decide +kernel
theorem d_B_round_12 : decode b_B_round 12 = .ok (.getfield 26, 3) := by decide +kernel
theorem d_B_round_15 : decode b_B_round 15 = .ok (.aload_n 1, 1) := by decide +kernel
theorem d_B_round_16 : decode b_B_round 16 = .ok (.getfield 72, 3) := by decide +kernel
theorem d_B_round_19 : decode b_B_round 19 = .ok (.invokevirtual 47, 3) := by decide +kernel
theorem d_B_round_22 : decode b_B_round 22 = .ok (.aload_n 0, 1) := by decide +kernel
theorem d_B_round_23 : decode b_B_round 23 = .ok (.aload_n 1, 1) := by decide +kernel
theorem d_B_round_24 : decode b_B_round 24 = .ok (.getfield 76, 3) := by decide +kernel
theorem d_B_round_27 : decode b_B_round 27 = .ok (.putfield 39, 3) := by decide +kernel
theorem d_B_round_30 : decode b_B_round 30 = .ok (.aload_n 0, 1) := by decide +kernel
theorem d_B_round_31 : decode b_B_round 31 = .ok (.iload_n 2, 1) := by decide +kernel
theorem d_B_round_32 : decode b_B_round 32 = .ok (.invokevirtual 129, 3) := by decide +kernel
theorem d_B_round_35 : decode b_B_round 35 = .ok (.return_, 1) := by decide +kernel
theorem d_L_power_0 : decode b_L_power 0 = .ok (.aload 4, 2) := by decide +kernel
theorem d_L_power_2 : decode b_L_power 2 = .ok (.iconst 0, 1) := by decide +kernel
theorem d_L_power_3 : decode b_L_power 3 = .ok (.aload_n 0, 1) := by decide +kernel
theorem d_L_power_4 : decode b_L_power 4 = .ok (.iload_n 1, 1) := by decide +kernel
theorem d_L_power_5 : decode b_L_power 5 = .ok (.iload_n 2, 1) := by decide +kernel
theorem d_L_power_6 : decode b_L_power 6 = .ok (.iload_n 3, 1) := by decide +kernel
theorem d_L_power_7 : decode b_L_power 7 = .ok (.invokevirtual 23, 3) := by decide +kernel
theorem d_L_power_10 : decode b_L_power 10 = .ok (.i2l, 1) := by decide +kernel
theorem d_L_power_11 : decode b_L_power 11 = .ok (.lastore, 1) := by decide +kernel
theorem d_L_power_12 : decode b_L_power 12 = .ok (.goto 7, 3) := by decide +kernel
theorem d_L_power_15 : decode b_L_power 15 = .ok (.astore 5, 2) := by decide +kernel
theorem d_L_power_17 : decode b_L_power 17 = .ok (.iconst 1, 1) := by decide +kernel
theorem d_L_power_18 : decode b_L_power 18 = .ok (.ireturn, 1) := by decide +kernel
theorem d_L_power_19 : decode b_L_power 19 = .ok (.iconst 0, 1) := by decide +kernel
theorem d_L_power_20 : decode b_L_power 20 = .ok (.ireturn, 1) := by decide +kernel
theorem d_K_power_0 : decode b_K_power 0 = .ok (.aload_n 0, 1) := by decide +kernel
theorem d_K_power_1 : decode b_K_power 1 = .ok (.iload_n 1, 1) := by decide +kernel
theorem d_K_power_2 : decode b_K_power 2 = .ok (.invokevirtual 34, 3) := by decide +kernel
theorem d_K_power_5 : decode b_K_power 5 = .ok (.astore 4, 2) := by decide +kernel
theorem d_K_power_7 : decode b_K_power 7 = .ok (.aload_n 0, 1) := by decide +kernel
theorem d_K_power_8 : decode b_K_power 8 = .ok (.iload_n 2, 1) := by decide +kernel
theorem d_K_power_9 : decode b_K_power 9 = .ok (.invokevirtual 34, 3) := by decide +kernel
theorem d_K_power_12 : decode b_K_power 12 = .ok (.astore 5, 2) := by decide +kernel
theorem d_K_power_14 : decode b_K_power 14 = .ok (.iload_n 3, 1) := by decide +kernel
theorem d_K_power_15 : decode b_K_power 15 = .ok (.sipush (-2048), 3) := by decide +kernel
theorem d_K_power_18 : decode b_K_power 18 = .ok (.if_icmp .lt 10, 3) := by decide +kernel
theorem d_K_power_21 : decode b_K_power 21 = .ok (.iload_n 3, 1) := by decide +kernel
theorem d_K_power_22 : decode b_K_power 22 = .ok (.sipush 2048, 3) := by decide +kernel
theorem d_K_power_25 : decode b_K_power 25 = .ok (.if_icmp .le 13, 3) := by decide +kernel
theorem d_K_power_28 : decode b_K_power 28 = .ok (.new 38, 3) := by decide +kernel
theorem d_K_power_31 : decode b_K_power 31 = .ok (.dup, 1) := by decide +kernel
theorem d_K_power_32 : decode b_K_power 32 = .ok (.ldc 119, 2) := by decide +kernel
theorem d_K_power_34 : decode b_K_power 34 = .ok (.invokespecial 42, 3) := by decide +kernel
theorem d_K_power_37 : decode b_K_power 37 = .ok (.athrow, 1) := by decide +kernel
theorem d_K_power_38 : decode b_K_power 38 = .ok (.iload_n 3, 1) := by decide +kernel
theorem d_K_power_39 : decode b_K_power 39 = .ok (.ifCond .ge 14, 3) := by decide +kernel
theorem d_K_power_42 : decode b_K_power 42 = .ok (.aload 5, 2) := by decide +kernel
theorem d_K_power_44 : decode b_K_power 44 = .ok (.invokevirtual 61, 3) := by decide +kernel
theorem d_K_power_47 : decode b_K_power 47 = .ok (.ifCond .ne 6, 3) := by decide +kernel
theorem d_K_power_50 : decode b_K_power 50 = .ok (.bipush (-2), 2) := by decide +kernel
theorem d_K_power_52 : decode b_K_power 52 = .ok (.ireturn, 1) := by decide +kernel
theorem d_K_power_53 : decode b_K_power 53 = .ok (.aload_n 0, 1) := by decide +kernel
theorem d_K_power_54 : decode b_K_power 54 = .ok (.getfield 19, 3) := by decide +kernel
theorem d_K_power_57 : decode b_K_power 57 = .ok (.aload 5, 2) := by decide +kernel
theorem d_K_power_59 : decode b_K_power 59 = .ok (.iload_n 3, 1) := by decide +kernel
theorem d_K_power_60 : decode b_K_power 60 = .ok (.invokevirtual 121, 3) := by decide +kernel
theorem d_K_power_63 : decode b_K_power 63 = .ok (.aload_n 0, 1) := by decide +kernel
theorem d_K_power_64 : decode b_K_power 64 = .ok (.getfield 19, 3) := by decide +kernel
theorem d_K_power_67 : decode b_K_power 67 = .ok (.aload 4, 2) := by decide +kernel
theorem d_K_power_69 : decode b_K_power 69 = .ok (.invokevirtual 88, 3) := by decide +kernel
theorem d_K_power_72 : decode b_K_power 72 = .ok (.ireturn, 1) := by decide +kernel
theorem d_B_raise_0 : decode b_B_raise 0 = .ok (.iload_n 2, 1) := by decide +kernel
theorem d_B_raise_1 : decode b_B_raise 1 = .ok (.invokestatic 141, 3) := by decide +kernel
theorem d_B_raise_4 : decode b_B_raise 4 = .ok (.istore_n 3, 1) := by decide +kernel
theorem d_B_raise_5 : decode b_B_raise 5 = .ok (.aload_n 0, 1) := by decide +kernel
theorem d_B_raise_6 : decode b_B_raise 6 = .ok (.aload_n 1, 1) := by decide +kernel
theorem d_B_raise_7 : decode b_B_raise 7 = .ok (.getfield 76, 3) := by decide +kernel
theorem d_B_raise_10 : decode b_B_raise 10 = .ok (.ifCond .eq 14, 3) := by decide +kernel
theorem d_B_raise_13 : decode b_B_raise 13 = .ok (.iload_n 3, 1) := by decide +kernel
theorem d_B_raise_14 : decode b_B_raise 14 = .ok (.iconst 2, 1) := by decide +kernel
theorem d_B_raise_15 : decode b_B_raise 15 = .ok (.irem, 1) := by decide +kernel
theorem d_B_raise_16 : decode b_B_raise 16 = .ok (.iconst 1, 1) := by decide +kernel
theorem d_B_raise_17 : decode b_B_raise 17 = .ok (.if_icmp .ne 7, 3) := by decide +kernel
theorem d_B_raise_20 : decode b_B_raise 20 = .ok (.iconst 1, 1) := by decide +kernel
theorem d_B_raise_21 : decode b_B_raise 21 = .ok (.goto 4, 3) := by decide +kernel
theorem d_B_raise_24 : decode b_B_raise 24 = .ok (.iconst 0, 1) := by decide +kernel
theorem d_B_raise_25 : decode b_B_raise 25 = .ok (.putfield 39, 3) := by decide +kernel
theorem d_B_raise_28 : decode b_B_raise 28 = .ok (.aload_n 0, 1) := by decide +kernel
theorem d_B_raise_29 : decode b_B_raise 29 = .ok (.aload_n 0, 1) := by decide +kernel
theorem d_B_raise_30 : decode b_B_raise 30 = .ok (.getfield 16, 3) := by decide +kernel
theorem d_B_raise_33 : decode b_B_raise 33 = .ok (.iload_n 2, 1) := by decide +kernel
theorem d_B_raise_34 : decode b_B_raise 34 = .ok (.ifCond .ge 10, 3) := by decide +kernel
theorem d_B_raise_37 : decode b_B_raise 37 = .ok (.aload_n 1, 1) := by decide +kernel
theorem d_B_raise_38 : decode b_B_raise 38 = .ok (.getfield 72, 3) := by decide +kernel
theorem d_B_raise_41 : decode b_B_raise 41 = .ok (.goto 7, 3) := by decide +kernel
theorem d_B_raise_44 : decode b_B_raise 44 = .ok (.aload_n 1, 1) := by decide +kernel
theorem d_B_raise_45 : decode b_B_raise 45 = .ok (.getfield 69, 3) := by decide +kernel
theorem d_B_raise_48 : decode b_B_raise 48 = .ok (.iload_n 3, 1) := by decide +kernel
theorem d_B_raise_49 : decode b_B_raise 49 = .ok (.invokevirtual 143, 3) := by decide +kernel
theorem d_B_raise_52 : decode b_B_raise 52 = .ok (.aload_n 0, 1) := by decide +kernel
theorem d_B_raise_53 : decode b_B_raise 53 = .ok (.aload_n 0, 1) := by decide +kernel
theorem d_B_raise_54 : decode b_B_raise 54 = .ok (.getfield 20, 3) := by decide +kernel
theorem d_B_raise_57 : decode b_B_raise 57 = .ok (.iload_n 2, 1) := by decide +kernel
theorem d_B_raise_58 : decode b_B_raise 58 = .ok (.ifCond .ge 10, 3) := by decide +kernel
theorem d_B_raise_61 : decode b_B_raise 61 = .ok (.aload_n 1, 1) := by decide +kernel
theorem d_B_raise_62 : decode b_B_raise 62 = .ok (.getfield 69, 3) := by decide +kernel
theorem d_B_raise_65 : decode b_B_raise 65 = .ok (.goto 7, 3) := by decide +kernel
theorem d_B_raise_68 : decode b_B_raise 68 = .ok (.aload_n 1, 1) := by decide +kernel
theorem d_B_raise_69 : decode b_B_raise 69 = .ok (.getfield 72, 3) := by decide +kernel
theorem d_B_raise_72 : decode b_B_raise 72 = .ok (.iload_n 3, 1) := by decide +kernel
theorem d_B_raise_73 : decode b_B_raise 73 = .ok (.invokevirtual 143, 3) := by decide +kernel
theorem d_B_raise_76 : decode b_B_raise 76 = .ok (.return_, 1) := by decide +kernel
theorem d_JM_abs2_0 : decode b_JM_abs2 0 = .ok (.iload_n 0, 1) := by decide +kernel
theorem d_JM_abs2_1 : decode b_JM_abs2 1 = .ok (.ifCond .ge 8, 3) := by decide +kernel
theorem d_JM_abs2_4 : decode b_JM_abs2 4 = .ok (.iload_n 0, 1) := by decide +kernel
theorem d_JM_abs2_5 : decode b_JM_abs2 5 = .ok (.ineg, 1) := by decide +kernel
theorem d_JM_abs2_6 : decode b_JM_abs2 6 = .ok (.goto 4, 3) := by decide +kernel
theorem d_JM_abs2_9 : decode b_JM_abs2 9 = .ok (.iload_n 0, 1) := by decide +kernel
theorem d_JM_abs2_10 : decode b_JM_abs2 10 = .ok (.ireturn, 1) := by decide +kernel
theorem d_B_raiseWhole_0 : decode b_B_raiseWhole 0 = .ok (.aload_n 1, 1) := by decide +kernel
theorem d_B_raiseWhole_1 : decode b_B_raiseWhole 1 = .ok (.lconst 1, 1) := by decide +kernel
theorem d_B_raiseWhole_2 : decode b_B_raiseWhole 2 = .ok (.invokevirtual 83, 3) := by decide +kernel
theorem d_B_raiseWhole_5 : decode b_B_raiseWhole 5 = .ok (.bipush 11, 2) := by decide +kernel
theorem d_B_raiseWhole_7 : decode b_B_raiseWhole 7 = .ok (.istore 4, 2) := by decide +kernel
theorem d_B_raiseWhole_9 : decode b_B_raiseWhole 9 = .ok (.iload 4, 2) := by decide +kernel
theorem d_B_raiseWhole_11 : decode b_B_raiseWhole 11 = .ok (.ifCond .lt 45, 3) := by decide +kernel
theorem d_B_raiseWhole_14 : decode b_B_raiseWhole 14 = .ok (.aload_n 1, 1) := by decide +kernel
theorem d_B_raiseWhole_15 : decode b_B_raiseWhole 15 = .ok (.invokevirtual 66, 3) := by decide +kernel
theorem d_B_raiseWhole_18 : decode b_B_raiseWhole 18 = .ok (.ifCond .eq 38, 3) := by decide +kernel
theorem d_B_raiseWhole_21 : decode b_B_raiseWhole 21 = .ok (.aload_n 0, 1) := by decide +kernel
theorem d_B_raiseWhole_22 : decode b_B_raiseWhole 22 = .ok (.aload_n 1, 1) := by decide +kernel
theorem d_B_raiseWhole_23 : decode b_B_raiseWhole 23 = .ok (.aload_n 1, 1) := by decide +kernel
theorem d_B_raiseWhole_24 : decode b_B_raiseWhole 24 = .ok (.invokevirtual 147, 3) := by decide +kernel
theorem d_B_raiseWhole_27 : decode b_B_raiseWhole 27 = .ok (.iload_n 3, 1) := by decide +kernel
theorem d_B_raiseWhole_28 : decode b_B_raiseWhole 28 = .ok (.iload 4, 2) := by decide +kernel
theorem d_B_raiseWhole_30 : decode b_B_raiseWhole 30 = .ok (.ishr, 1) := by decide +kernel
theorem d_B_raiseWhole_31 : decode b_B_raiseWhole 31 = .ok (.iconst 1, 1) := by decide +kernel
theorem d_B_raiseWhole_32 : decode b_B_raiseWhole 32 = .ok (.iand, 1) := by decide +kernel
theorem d_B_raiseWhole_33 : decode b_B_raiseWhole 33 = .ok (.iconst 1, 1) := by decide +kernel
theorem d_B_raiseWhole_34 : decode b_B_raiseWhole 34 = .ok (.if_icmp .ne 16, 3) := by decide +kernel
theorem d_B_raiseWhole_37 : decode b_B_raiseWhole 37 = .ok (.aload_n 1, 1) := by decide +kernel
theorem d_B_raiseWhole_38 : decode b_B_raiseWhole 38 = .ok (.invokevirtual 66, 3) := by decide +kernel
theorem d_B_raiseWhole_41 : decode b_B_raiseWhole 41 = .ok (.ifCond .eq 9, 3) := by decide +kernel
theorem d_B_raiseWhole_44 : decode b_B_raiseWhole 44 = .ok (.aload_n 0, 1) := by decide +kernel
theorem d_B_raiseWhole_45 : decode b_B_raiseWhole 45 = .ok (.aload_n 1, 1) := by decide +kernel
theorem d_B_raiseWhole_46 : decode b_B_raiseWhole 46 = .ok (.aload_n 2, 1) := by decide +kernel
theorem d_B_raiseWhole_47 : decode b_B_raiseWhole 47 = .ok (.invokevirtual 147, 3) := by decide +kernel
theorem d_B_raiseWhole_50 : decode b_B_raiseWhole 50 = .ok (.iinc 4 (-1), 3) := by decide +kernel
theorem d_B_raiseWhole_53 : decode b_B_raiseWhole 53 = .ok (.goto (-44), 3) := by decide +kernel
theorem d_B_raiseWhole_56 : decode b_B_raiseWhole 56 = .ok (.return_, 1) := by decide +kernel
theorem d_B_multiplyWhole_0 : decode b_B_multiplyWhole 0 = .ok (.aload_n 0, 1) := by decide +kernel
theorem d_B_multiplyWhole_1 : decode b_B_multiplyWhole 1 = .ok (.getfield 29, 3) := by decide +kernel
theorem d_B_multiplyWhole_4 : decode b_B_multiplyWhole 4 = .ok (.aload_n 1, 1) := by decide +kernel
theorem d_B_multiplyWhole_5 : decode b_B_multiplyWhole 5 = .ok (.aload_n 2, 1) := by decide +kernel
theorem d_B_multiplyWhole_6 : decode b_B_multiplyWhole 6 = .ok (.invokevirtual 109, 3) := by decide +kernel
theorem d_B_multiplyWhole_9 : decode b_B_multiplyWhole 9 = .ok (.aload_n 1, 1) := by decide +kernel
theorem d_B_multiplyWhole_10 : decode b_B_multiplyWhole 10 = .ok (.aload_n 0, 1) := by decide +kernel
theorem d_B_multiplyWhole_11 : decode b_B_multiplyWhole 11 = .ok (.getfield 29, 3) := by decide +kernel
theorem d_B_multiplyWhole_14 : decode b_B_multiplyWhole 14 = .ok (.invokevirtual 47, 3) := by decide +kernel
theorem d_B_multiplyWhole_17 : decode b_B_multiplyWhole 17 = .ok (.return_, 1) := by decide +kernel
theorem d_L_order_0 : decode b_L_order 0 = .ok (.aload_n 3, 1) := by decide +kernel
theorem d_L_order_1 : decode b_L_order 1 = .ok (.iconst 0, 1) := by decide +kernel
theorem d_L_order_2 : decode b_L_order 2 = .ok (.aload_n 0, 1) := by decide +kernel
theorem d_L_order_3 : decode b_L_order 3 = .ok (.iload_n 1, 1) := by decide +kernel
theorem d_L_order_4 : decode b_L_order 4 = .ok (.iload_n 2, 1) := by decide +kernel
theorem d_L_order_5 : decode b_L_order 5 = .ok (.invokevirtual 26, 3) := by decide +kernel
theorem d_L_order_8 : decode b_L_order 8 = .ok (.i2l, 1) := by decide +kernel
theorem d_L_order_9 : decode b_L_order 9 = .ok (.lastore, 1) := by decide +kernel
theorem d_L_order_10 : decode b_L_order 10 = .ok (.goto 7, 3) := by decide +kernel
theorem d_L_order_13 : decode b_L_order 13 = .ok (.astore 4, 2) := by decide +kernel
theorem d_L_order_15 : decode b_L_order 15 = .ok (.iconst 1, 1) := by decide +kernel
theorem d_L_order_16 : decode b_L_order 16 = .ok (.ireturn, 1) := by decide +kernel
theorem d_L_order_17 : decode b_L_order 17 = .ok (.iconst 0, 1) := by decide +kernel
theorem d_L_order_18 : decode b_L_order 18 = .ok (.ireturn, 1) := by decide +kernel
theorem d_K_order_0 : decode b_K_order 0 = .ok (.aload_n 0, 1) := by decide +kernel
theorem d_K_order_1 : decode b_K_order 1 = .ok (.iload_n 1, 1) := by decide +kernel
theorem d_K_order_2 : decode b_K_order 2 = .ok (.invokevirtual 34, 3) := by decide +kernel
theorem d_K_order_5 : decode b_K_order 5 = .ok (.astore_n 3, 1) := by decide +kernel
theorem d_K_order_6 : decode b_K_order 6 = .ok (.aload_n 0, 1) := by decide +kernel
theorem d_K_order_7 : decode b_K_order 7 = .ok (.iload_n 2, 1) := by decide +kernel
theorem d_K_order_8 : decode b_K_order 8 = .ok (.invokevirtual 34, 3) := by decide +kernel
theorem d_K_order_11 : decode b_K_order 11 = .ok (.astore 4, 2) := by decide +kernel
theorem d_K_order_13 : decode b_K_order 13 = .ok (.aload_n 0, 1) := by decide +kernel
theorem d_K_order_14 : decode b_K_order 14 = .ok (.getfield 19, 3) := by decide +kernel
theorem d_K_order_17 : decode b_K_order 17 = .ok (.aload_n 3, 1) := by decide +kernel
theorem d_K_order_18 : decode b_K_order 18 = .ok (.aload 4, 2) := by decide +kernel
theorem d_K_order_20 : decode b_K_order 20 = .ok (.invokevirtual 80, 3) := by decide +kernel
theorem d_K_order_23 : decode b_K_order 23 = .ok (.ireturn, 1) := by decide +kernel
theorem d_L_sign_0 : decode b_L_sign 0 = .ok (.aload_n 2, 1) := by decide +kernel
theorem d_L_sign_1 : decode b_L_sign 1 = .ok (.iconst 0, 1) := by decide +kernel
theorem d_L_sign_2 : decode b_L_sign 2 = .ok (.aload_n 0, 1) := by decide +kernel
theorem d_L_sign_3 : decode b_L_sign 3 = .ok (.iload_n 1, 1) := by decide +kernel
theorem d_L_sign_4 : decode b_L_sign 4 = .ok (.invokevirtual 30, 3) := by decide +kernel
theorem d_L_sign_7 : decode b_L_sign 7 = .ok (.i2l, 1) := by decide +kernel
theorem d_L_sign_8 : decode b_L_sign 8 = .ok (.lastore, 1) := by decide +kernel
theorem d_L_sign_9 : decode b_L_sign 9 = .ok (.goto 6, 3) := by decide +kernel
theorem d_L_sign_12 : decode b_L_sign 12 = .ok (.astore_n 3, 1) := by decide +kernel
theorem d_L_sign_13 : decode b_L_sign 13 = .ok (.iconst 1, 1) := by decide +kernel
theorem d_L_sign_14 : decode b_L_sign 14 = .ok (.ireturn, 1) := by decide +kernel
theorem d_L_sign_15 : decode b_L_sign 15 = .ok (.iconst 0, 1) := by decide +kernel
theorem d_L_sign_16 : decode b_L_sign 16 = .ok (.ireturn, 1) := by decide +kernel
theorem d_K_sign_0 : decode b_K_sign 0 = .ok (.aload_n 0, 1) := by decide +kernel
theorem d_K_sign_1 : decode b_K_sign 1 = .ok (.iload_n 1, 1) := by decide +kernel
theorem d_K_sign_2 : decode b_K_sign 2 = .ok (.invokevirtual 34, 3) := by decide +kernel
theorem d_K_sign_5 : decode b_K_sign 5 = .ok (.invokevirtual 61, 3) := by decide +kernel
theorem d_K_sign_8 : decode b_K_sign 8 = .ok (.ireturn, 1) := by decide +kernel
theorem d_L_places_0 : decode b_L_places 0 = .ok (.aload_n 3, 1) := by decide +kernel
theorem d_L_places_1 : decode b_L_places 1 = .ok (.iconst 0, 1) := by decide +kernel
theorem d_L_places_2 : decode b_L_places 2 = .ok (.aload_n 0, 1) := by decide +kernel
theorem d_L_places_3 : decode b_L_places 3 = .ok (.iload_n 1, 1) := by decide +kernel
theorem d_L_places_4 : decode b_L_places 4 = .ok (.iload_n 2, 1) := by decide +kernel
theorem d_L_places_5 : decode b_L_places 5 = .ok (.invokevirtual 34, 3) := by decide +kernel
theorem d_L_places_8 : decode b_L_places 8 = .ok (.i2l, 1) := by decide +kernel
theorem d_L_places_9 : decode b_L_places 9 = .ok (.lastore, 1) := by decide +kernel
theorem d_L_places_10 : decode b_L_places 10 = .ok (.goto 7, 3) := by decide +kernel
theorem d_L_places_13 : decode b_L_places 13 = .ok (.astore 4, 2) := by decide +kernel
theorem d_L_places_15 : decode b_L_places 15 = .ok (.iconst 1, 1) := by decide +kernel
theorem d_L_places_16 : decode b_L_places 16 = .ok (.ireturn, 1) := by decide +kernel
theorem d_L_places_17 : decode b_L_places 17 = .ok (.iconst 0, 1) := by decide +kernel
theorem d_L_places_18 : decode b_L_places 18 = .ok (.ireturn, 1) := by decide +kernel
theorem d_K_places_0 : decode b_K_places 0 = .ok (.aload_n 0, 1) := by decide +kernel
theorem d_K_places_1 : decode b_K_places 1 = .ok (.iload_n 1, 1) := by decide +kernel
theorem d_K_places_2 : decode b_K_places 2 = .ok (.iload_n 2, 1) := by decide +kernel
theorem d_K_places_3 : decode b_K_places 3 = .ok (.invokevirtual 125, 3) := by decide +kernel
theorem d_K_places_6 : decode b_K_places 6 = .ok (.invokevirtual 129, 3) := by decide +kernel
theorem d_K_places_9 : decode b_K_places 9 = .ok (.ireturn, 1) := by decide +kernel
theorem d_K_half_0 : decode b_K_half 0 = .ok (.aload_n 0, 1) := by decide +kernel
theorem d_K_half_1 : decode b_K_half 1 = .ok (.iload_n 1, 1) := by decide +kernel
theorem d_K_half_2 : decode b_K_half 2 = .ok (.invokevirtual 34, 3) := by decide +kernel
theorem d_K_half_5 : decode b_K_half 5 = .ok (.astore_n 3, 1) := by decide +kernel
theorem d_K_half_6 : decode b_K_half 6 = .ok (.iload_n 2, 1) := by decide +kernel
theorem d_K_half_7 : decode b_K_half 7 = .ok (.ifCond .eq 18, 3) := by decide +kernel
theorem d_K_half_10 : decode b_K_half 10 = .ok (.iload_n 2, 1) := by decide +kernel
theorem d_K_half_11 : decode b_K_half 11 = .ok (.iconst 1, 1) := by decide +kernel
theorem d_K_half_12 : decode b_K_half 12 = .ok (.if_icmp .eq 13, 3) := by decide +kernel
theorem d_K_half_15 : decode b_K_half 15 = .ok (.new 38, 3) := by decide +kernel
theorem d_K_half_18 : decode b_K_half 18 = .ok (.dup, 1) := by decide +kernel
theorem d_K_half_19 : decode b_K_half 19 = .ok (.ldc 175, 2) := by decide +kernel
theorem d_K_half_21 : decode b_K_half 21 = .ok (.invokespecial 42, 3) := by decide +kernel
theorem d_K_half_24 : decode b_K_half 24 = .ok (.athrow, 1) := by decide +kernel
theorem d_K_half_25 : decode b_K_half 25 = .ok (.iload_n 2, 1) := by decide +kernel
theorem d_K_half_26 : decode b_K_half 26 = .ok (.ifCond .ne 10, 3) := by decide +kernel
theorem d_K_half_29 : decode b_K_half 29 = .ok (.aload_n 3, 1) := by decide +kernel
theorem d_K_half_30 : decode b_K_half 30 = .ok (.getfield 100, 3) := by decide +kernel
theorem d_K_half_33 : decode b_K_half 33 = .ok (.goto 7, 3) := by decide +kernel
theorem d_K_half_36 : decode b_K_half 36 = .ok (.aload_n 3, 1) := by decide +kernel
theorem d_K_half_37 : decode b_K_half 37 = .ok (.getfield 104, 3) := by decide +kernel
theorem d_K_half_40 : decode b_K_half 40 = .ok (.areturn, 1) := by decide +kernel
theorem d_L_part_0 : decode b_L_part 0 = .ok (.aload 4, 2) := by decide +kernel
theorem d_L_part_2 : decode b_L_part 2 = .ok (.iconst 0, 1) := by decide +kernel
theorem d_L_part_3 : decode b_L_part 3 = .ok (.aload_n 0, 1) := by decide +kernel
theorem d_L_part_4 : decode b_L_part 4 = .ok (.iload_n 1, 1) := by decide +kernel
theorem d_L_part_5 : decode b_L_part 5 = .ok (.iload_n 2, 1) := by decide +kernel
theorem d_L_part_6 : decode b_L_part 6 = .ok (.iload_n 3, 1) := by decide +kernel
theorem d_L_part_7 : decode b_L_part 7 = .ok (.invokevirtual 37, 3) := by decide +kernel
theorem d_L_part_10 : decode b_L_part 10 = .ok (.lastore, 1) := by decide +kernel
theorem d_L_part_11 : decode b_L_part 11 = .ok (.goto 7, 3) := by decide +kernel
theorem d_L_part_14 : decode b_L_part 14 = .ok (.astore 5, 2) := by decide +kernel
theorem d_L_part_16 : decode b_L_part 16 = .ok (.iconst 1, 1) := by decide +kernel
theorem d_L_part_17 : decode b_L_part 17 = .ok (.ireturn, 1) := by decide +kernel
theorem d_L_part_18 : decode b_L_part 18 = .ok (.iconst 0, 1) := by decide +kernel
theorem d_L_part_19 : decode b_L_part 19 = .ok (.ireturn, 1) := by decide +kernel
theorem d_K_part_0 : decode b_K_part 0 = .ok (.aload_n 0, 1) := by decide +kernel
theorem d_K_part_1 : decode b_K_part 1 = .ok (.iload_n 1, 1) := by decide +kernel
theorem d_K_part_2 : decode b_K_part 2 = .ok (.iload_n 2, 1) := by decide +kernel
theorem d_K_part_3 : decode b_K_part 3 = .ok (.invokevirtual 125, 3) := by decide +kernel
theorem d_K_part_6 : decode b_K_part 6 = .ok (.iload_n 3, 1) := by decide +kernel
theorem d_K_part_7 : decode b_K_part 7 = .ok (.invokevirtual 134, 3) := by decide +kernel
theorem d_K_part_10 : decode b_K_part 10 = .ok (.lreturn, 1) := by decide +kernel
theorem d_W_word_0 : decode b_W_word 0 = .ok (.iload_n 1, 1) := by decide +kernel
theorem d_W_word_1 : decode b_W_word 1 = .ok (.ifCond .lt 11, 3) := by decide +kernel
theorem d_W_word_4 : decode b_W_word 4 = .ok (.iload_n 1, 1) := by decide +kernel
theorem d_W_word_5 : decode b_W_word 5 = .ok (.aload_n 0, 1) := by decide +kernel
theorem d_W_word_6 : decode b_W_word 6 = .ok (.getfield 21, 3) := by decide +kernel
theorem d_W_word_9 : decode b_W_word 9 = .ok (.if_icmp .lt 5, 3) := by decide +kernel
theorem d_W_word_12 : decode b_W_word 12 = .ok (.lconst 0, 1) := by decide +kernel
theorem d_W_word_13 : decode b_W_word 13 = .ok (.lreturn, 1) := by decide +kernel
theorem d_W_word_14 : decode b_W_word 14 = .ok (.iload_n 1, 1) := by decide +kernel
theorem d_W_word_15 : decode b_W_word 15 = .ok (.bipush 32, 2) := by decide +kernel
theorem d_W_word_17 : decode b_W_word 17 = .ok (.imul, 1) := by decide +kernel
theorem d_W_word_18 : decode b_W_word 18 = .ok (.bipush 31, 2) := by decide +kernel
theorem d_W_word_20 : decode b_W_word 20 = .ok (.idiv, 1) := by decide +kernel
theorem d_W_word_21 : decode b_W_word 21 = .ok (.istore_n 2, 1) := by decide +kernel
theorem d_W_word_22 : decode b_W_word 22 = .ok (.iload_n 1, 1) := by decide +kernel
theorem d_W_word_23 : decode b_W_word 23 = .ok (.bipush 32, 2) := by decide +kernel
theorem d_W_word_25 : decode b_W_word 25 = .ok (.imul, 1) := by decide +kernel
theorem d_W_word_26 : decode b_W_word 26 = .ok (.bipush 31, 2) := by decide +kernel
theorem d_W_word_28 : decode b_W_word 28 = .ok (.irem, 1) := by decide +kernel
theorem d_W_word_29 : decode b_W_word 29 = .ok (.istore_n 3, 1) := by decide +kernel
theorem d_W_word_30 : decode b_W_word 30 = .ok (.aload_n 0, 1) := by decide +kernel
theorem d_W_word_31 : decode b_W_word 31 = .ok (.iload_n 2, 1) := by decide +kernel
theorem d_W_word_32 : decode b_W_word 32 = .ok (.invokevirtual 38, 3) := by decide +kernel
theorem d_W_word_35 : decode b_W_word 35 = .ok (.iload_n 3, 1) := by decide +kernel
theorem d_W_word_36 : decode b_W_word 36 = .ok (.iushr, 1) := by decide +kernel
theorem d_W_word_37 : decode b_W_word 37 = .ok (.i2l, 1) := by decide +kernel
theorem d_W_word_38 : decode b_W_word 38 = .ok (.lstore 4, 2) := by decide +kernel
theorem d_W_word_40 : decode b_W_word 40 = .ok (.aload_n 0, 1) := by decide +kernel
theorem d_W_word_41 : decode b_W_word 41 = .ok (.iload_n 2, 1) := by decide +kernel
theorem d_W_word_42 : decode b_W_word 42 = .ok (.iconst 1, 1) := by decide +kernel
theorem d_W_word_43 : decode b_W_word 43 = .ok (.iadd, 1) := by decide +kernel
theorem d_W_word_44 : decode b_W_word 44 = .ok (.invokevirtual 38, 3) := by decide +kernel
theorem d_W_word_47 : decode b_W_word 47 = .ok (.i2l, 1) := by decide +kernel
theorem d_W_word_48 : decode b_W_word 48 = .ok (.bipush 31, 2) := by decide +kernel
theorem d_W_word_50 : decode b_W_word 50 = .ok (.iload_n 3, 1) := by decide +kernel
theorem d_W_word_51 : decode b_W_word 51 = .ok (.isub, 1) := by decide +kernel
theorem d_W_word_52 : decode b_W_word 52 = .ok (.lshl, 1) := by decide +kernel
theorem d_W_word_53 : decode b_W_word 53 = .ok (.lstore 6, 2) := by decide +kernel
theorem d_W_word_55 : decode b_W_word 55 = .ok (.lload 4, 2) := by decide +kernel
theorem d_W_word_57 : decode b_W_word 57 = .ok (.lload 6, 2) := by decide +kernel
theorem d_W_word_59 : decode b_W_word 59 = .ok (.lor, 1) := by decide +kernel
theorem d_W_word_60 : decode b_W_word 60 = .ok (.ldc2_w 41, 3) := by decide +kernel
theorem d_W_word_63 : decode b_W_word 63 = .ok (.land, 1) := by decide +kernel
theorem d_W_word_64 : decode b_W_word 64 = .ok (.lreturn, 1) := by decide +kernel
theorem d_L_write_0 : decode b_L_write 0 = .ok (.aload_n 2, 1) := by decide +kernel
theorem d_L_write_1 : decode b_L_write 1 = .ok (.iconst 0, 1) := by decide +kernel
theorem d_L_write_2 : decode b_L_write 2 = .ok (.aload_n 0, 1) := by decide +kernel
theorem d_L_write_3 : decode b_L_write 3 = .ok (.iload_n 1, 1) := by decide +kernel
theorem d_L_write_4 : decode b_L_write 4 = .ok (.invokevirtual 41, 3) := by decide +kernel
theorem d_L_write_7 : decode b_L_write 7 = .ok (.i2l, 1) := by decide +kernel
theorem d_L_write_8 : decode b_L_write 8 = .ok (.lastore, 1) := by decide +kernel
theorem d_L_write_9 : decode b_L_write 9 = .ok (.goto 6, 3) := by decide +kernel
theorem d_L_write_12 : decode b_L_write 12 = .ok (.astore_n 3, 1) := by decide +kernel
theorem d_L_write_13 : decode b_L_write 13 = .ok (.iconst 1, 1) := by decide +kernel
theorem d_L_write_14 : decode b_L_write 14 = .ok (.ireturn, 1) := by decide +kernel
theorem d_L_write_15 : decode b_L_write 15 = .ok (.iconst 0, 1) := by decide +kernel
theorem d_L_write_16 : decode b_L_write 16 = .ok (.ireturn, 1) := by decide +kernel
theorem d_K_write_0 : decode b_K_write 0 = .ok (.aload_n 0, 1) := by decide +kernel
theorem d_K_write_1 : decode b_K_write 1 = .ok (.iload_n 1, 1) := by decide +kernel
theorem d_K_write_2 : decode b_K_write 2 = .ok (.invokevirtual 34, 3) := by decide +kernel
theorem d_K_write_5 : decode b_K_write 5 = .ok (.astore_n 2, 1) := by decide +kernel
theorem d_K_write_6 : decode b_K_write 6 = .ok (.aload_n 0, 1) := by decide +kernel
theorem d_K_write_7 : decode b_K_write 7 = .ok (.getfield 26, 3) := by decide +kernel
theorem d_K_write_10 : decode b_K_write 10 = .ok (.iconst 0, 1) := by decide +kernel
theorem d_K_write_11 : decode b_K_write 11 = .ok (.putfield 138, 3) := by decide +kernel
theorem d_K_write_14 : decode b_K_write 14 = .ok (.aload_n 2, 1) := by decide +kernel
theorem d_K_write_15 : decode b_K_write 15 = .ok (.getfield 65, 3) := by decide +kernel
theorem d_K_write_18 : decode b_K_write 18 = .ok (.ifCond .eq 12, 3) := by decide +kernel
theorem d_K_write_21 : decode b_K_write 21 = .ok (.aload_n 0, 1) := by decide +kernel
theorem d_K_write_22 : decode b_K_write 22 = .ok (.getfield 26, 3) := by decide +kernel
theorem d_K_write_25 : decode b_K_write 25 = .ok (.bipush 45, 2) := by decide +kernel
theorem d_K_write_27 : decode b_K_write 27 = .ok (.invokevirtual 141, 3) := by decide +kernel
theorem d_K_write_30 : decode b_K_write 30 = .ok (.aload_n 0, 1) := by decide +kernel
theorem d_K_write_31 : decode b_K_write 31 = .ok (.getfield 26, 3) := by decide +kernel
theorem d_K_write_34 : decode b_K_write 34 = .ok (.aload_n 0, 1) := by decide +kernel
theorem d_K_write_35 : decode b_K_write 35 = .ok (.getfield 19, 3) := by decide +kernel
theorem d_K_write_38 : decode b_K_write 38 = .ok (.aload_n 2, 1) := by decide +kernel
theorem d_K_write_39 : decode b_K_write 39 = .ok (.getfield 100, 3) := by decide +kernel
theorem d_K_write_42 : decode b_K_write 42 = .ok (.invokevirtual 145, 3) := by decide +kernel
theorem d_K_write_45 : decode b_K_write 45 = .ok (.invokevirtual 149, 3) := by decide +kernel
theorem d_K_write_48 : decode b_K_write 48 = .ok (.aload_n 2, 1) := by decide +kernel
theorem d_K_write_49 : decode b_K_write 49 = .ok (.invokevirtual 55, 3) := by decide +kernel
theorem d_K_write_52 : decode b_K_write 52 = .ok (.ifCond .ne 30, 3) := by decide +kernel
theorem d_K_write_55 : decode b_K_write 55 = .ok (.aload_n 0, 1) := by decide +kernel
theorem d_K_write_56 : decode b_K_write 56 = .ok (.getfield 26, 3) := by decide +kernel
theorem d_K_write_59 : decode b_K_write 59 = .ok (.bipush 47, 2) := by decide +kernel
theorem d_K_write_61 : decode b_K_write 61 = .ok (.invokevirtual 141, 3) := by decide +kernel
theorem d_K_write_64 : decode b_K_write 64 = .ok (.aload_n 0, 1) := by decide +kernel
theorem d_K_write_65 : decode b_K_write 65 = .ok (.getfield 26, 3) := by decide +kernel
theorem d_K_write_68 : decode b_K_write 68 = .ok (.aload_n 0, 1) := by decide +kernel
theorem d_K_write_69 : decode b_K_write 69 = .ok (.getfield 19, 3) := by decide +kernel
theorem d_K_write_72 : decode b_K_write 72 = .ok (.aload_n 2, 1) := by decide +kernel
theorem d_K_write_73 : decode b_K_write 73 = .ok (.getfield 104, 3) := by decide +kernel
theorem d_K_write_76 : decode b_K_write 76 = .ok (.invokevirtual 145, 3) := by decide +kernel
theorem d_K_write_79 : decode b_K_write 79 = .ok (.invokevirtual 149, 3) := by decide +kernel
theorem d_K_write_82 : decode b_K_write 82 = .ok (.aload_n 0, 1) := by decide +kernel
theorem d_K_write_83 : decode b_K_write 83 = .ok (.getfield 26, 3) := by decide +kernel
theorem d_K_write_86 : decode b_K_write 86 = .ok (.getfield 138, 3) := by decide +kernel
theorem d_K_write_89 : decode b_K_write 89 = .ok (.ireturn, 1) := by decide +kernel
theorem d_B_copyOf_0 : decode b_B_copyOf 0 = .ok (.aload_n 0, 1) := by decide +kernel
theorem d_B_copyOf_1 : decode b_B_copyOf 1 = .ok (.getfield 29, 3) := by decide +kernel
theorem d_B_copyOf_4 : decode b_B_copyOf 4 = .ok (.aload_n 1, 1) := by decide +kernel
theorem d_B_copyOf_5 : decode b_B_copyOf 5 = .ok (.invokevirtual 47, 3) := by decide +kernel
theorem d_B_copyOf_8 : decode b_B_copyOf 8 = .ok (.aload_n 0, 1) := by decide +kernel
theorem d_B_copyOf_9 : decode b_B_copyOf 9 = .ok (.getfield 29, 3) := by decide +kernel
theorem d_B_copyOf_12 : decode b_B_copyOf 12 = .ok (.areturn, 1) := by decide +kernel
theorem d_T_putDecimal_0 : decode b_T_putDecimal 0 = .ok (.aload_n 0, 1) := by decide +kernel
theorem d_T_putDecimal_1 : decode b_T_putDecimal 1 = .ok (.getfield 15, 3) := by decide +kernel
theorem d_T_putDecimal_4 : decode b_T_putDecimal 4 = .ok (.istore_n 2, 1) := by decide +kernel
theorem d_T_putDecimal_5 : decode b_T_putDecimal 5 = .ok (.iconst 0, 1) := by decide +kernel
theorem d_T_putDecimal_6 : decode b_T_putDecimal 6 = .ok (.istore_n 3, 1) := by decide +kernel
theorem d_T_putDecimal_7 : decode b_T_putDecimal 7 = .ok (.iload_n 3, 1) := by decide +kernel
theorem d_T_putDecimal_8 : decode b_T_putDecimal 8 = .ok (.sipush 1400, 3) := by decide +kernel
theorem d_T_putDecimal_11 : decode b_T_putDecimal 11 = .ok (.if_icmp .ge 26, 3) := by decide +kernel
theorem d_T_putDecimal_14 : decode b_T_putDecimal 14 = .ok (.aload_n 1, 1) := by decide +kernel
theorem d_T_putDecimal_15 : decode b_T_putDecimal 15 = .ok (.invokevirtual 19, 3) := by decide +kernel
theorem d_T_putDecimal_18 : decode b_T_putDecimal 18 = .ok (.ifCond .ne 19, 3) := by decide +kernel
theorem d_T_putDecimal_21 : decode b_T_putDecimal 21 = .ok (.aload_n 0, 1) := by decide +kernel
theorem d_T_putDecimal_22 : decode b_T_putDecimal 22 = .ok (.aload_n 1, 1) := by decide +kernel
theorem d_T_putDecimal_23 : decode b_T_putDecimal 23 = .ok (.ldc 25, 2) := by decide +kernel
theorem d_T_putDecimal_25 : decode b_T_putDecimal 25 = .ok (.invokevirtual 26, 3) := by decide +kernel
theorem d_T_putDecimal_28 : decode b_T_putDecimal 28 = .ok (.invokevirtual 30, 3) := by decide +kernel
theorem d_T_putDecimal_31 : decode b_T_putDecimal 31 = .ok (.iinc 3 1, 3) := by decide +kernel
theorem d_T_putDecimal_34 : decode b_T_putDecimal 34 = .ok (.goto (-27), 3) := by decide +kernel
theorem d_T_putDecimal_37 : decode b_T_putDecimal 37 = .ok (.aload_n 0, 1) := by decide +kernel
theorem d_T_putDecimal_38 : decode b_T_putDecimal 38 = .ok (.getfield 15, 3) := by decide +kernel
theorem d_T_putDecimal_41 : decode b_T_putDecimal 41 = .ok (.iload_n 2, 1) := by decide +kernel
theorem d_T_putDecimal_42 : decode b_T_putDecimal 42 = .ok (.if_icmp .le 32, 3) := by decide +kernel
theorem d_T_putDecimal_45 : decode b_T_putDecimal 45 = .ok (.aload_n 0, 1) := by decide +kernel
theorem d_T_putDecimal_46 : decode b_T_putDecimal 46 = .ok (.getfield 9, 3) := by decide +kernel
theorem d_T_putDecimal_49 : decode b_T_putDecimal 49 = .ok (.aload_n 0, 1) := by decide +kernel
theorem d_T_putDecimal_50 : decode b_T_putDecimal 50 = .ok (.getfield 15, 3) := by decide +kernel
theorem d_T_putDecimal_53 : decode b_T_putDecimal 53 = .ok (.iconst 1, 1) := by decide +kernel
theorem d_T_putDecimal_54 : decode b_T_putDecimal 54 = .ok (.isub, 1) := by decide +kernel
theorem d_T_putDecimal_55 : decode b_T_putDecimal 55 = .ok (.caload, 1) := by decide +kernel
