/-! the instructions, by program -/
theorem d_T_putDecimal_56 : decode b_T_putDecimal 56 = .ok (.bipush 48, 2) := by decide +kernel
theorem d_T_putDecimal_58 : decode b_T_putDecimal 58 = .ok (.if_icmp .ne 16, 3) := by decide +kernel
theorem d_T_putDecimal_61 : decode b_T_putDecimal 61 = .ok (.aload_n 0, 1) := by decide +kernel
theorem d_T_putDecimal_62 : decode b_T_putDecimal 62 = .ok (.dup, 1) := by decide +kernel
theorem d_T_putDecimal_63 : decode b_T_putDecimal 63 = .ok (.getfield 15, 3) := by decide +kernel
theorem d_T_putDecimal_66 : decode b_T_putDecimal 66 = .ok (.iconst 1, 1) := by decide +kernel
theorem d_T_putDecimal_67 : decode b_T_putDecimal 67 = .ok (.isub, 1) := by decide +kernel
theorem d_T_putDecimal_68 : decode b_T_putDecimal 68 = .ok (.putfield 15, 3) := by decide +kernel
theorem d_T_putDecimal_71 : decode b_T_putDecimal 71 = .ok (.goto (-34), 3) := by decide +kernel
theorem d_T_putDecimal_74 : decode b_T_putDecimal 74 = .ok (.aload_n 0, 1) := by decide +kernel
theorem d_T_putDecimal_75 : decode b_T_putDecimal 75 = .ok (.getfield 15, 3) := by decide +kernel
theorem d_T_putDecimal_78 : decode b_T_putDecimal 78 = .ok (.iload_n 2, 1) := by decide +kernel
theorem d_T_putDecimal_79 : decode b_T_putDecimal 79 = .ok (.if_icmp .ne 9, 3) := by decide +kernel
theorem d_T_putDecimal_82 : decode b_T_putDecimal 82 = .ok (.aload_n 0, 1) := by decide +kernel
theorem d_T_putDecimal_83 : decode b_T_putDecimal 83 = .ok (.bipush 48, 2) := by decide +kernel
theorem d_T_putDecimal_85 : decode b_T_putDecimal 85 = .ok (.invokevirtual 34, 3) := by decide +kernel
theorem d_T_putDecimal_88 : decode b_T_putDecimal 88 = .ok (.aload_n 0, 1) := by decide +kernel
theorem d_T_putDecimal_89 : decode b_T_putDecimal 89 = .ok (.iload_n 2, 1) := by decide +kernel
theorem d_T_putDecimal_90 : decode b_T_putDecimal 90 = .ok (.aload_n 0, 1) := by decide +kernel
theorem d_T_putDecimal_91 : decode b_T_putDecimal 91 = .ok (.getfield 15, 3) := by decide +kernel
theorem d_T_putDecimal_94 : decode b_T_putDecimal 94 = .ok (.iconst 1, 1) := by decide +kernel
theorem d_T_putDecimal_95 : decode b_T_putDecimal 95 = .ok (.isub, 1) := by decide +kernel
theorem d_T_putDecimal_96 : decode b_T_putDecimal 96 = .ok (.invokevirtual 38, 3) := by decide +kernel
theorem d_T_putDecimal_99 : decode b_T_putDecimal 99 = .ok (.return_, 1) := by decide +kernel
theorem d_W_divideSmall_0 : decode b_W_divideSmall 0 = .ok (.iload_n 1, 1) := by decide +kernel
theorem d_W_divideSmall_1 : decode b_W_divideSmall 1 = .ok (.ifCond .gt 5, 3) := by decide +kernel
theorem d_W_divideSmall_4 : decode b_W_divideSmall 4 = .ok (.iconst 0, 1) := by decide +kernel
theorem d_W_divideSmall_5 : decode b_W_divideSmall 5 = .ok (.ireturn, 1) := by decide +kernel
theorem d_W_divideSmall_6 : decode b_W_divideSmall 6 = .ok (.lconst 0, 1) := by decide +kernel
theorem d_W_divideSmall_7 : decode b_W_divideSmall 7 = .ok (.lstore_n 2, 1) := by decide +kernel
theorem d_W_divideSmall_8 : decode b_W_divideSmall 8 = .ok (.aload_n 0, 1) := by decide +kernel
theorem d_W_divideSmall_9 : decode b_W_divideSmall 9 = .ok (.getfield 21, 3) := by decide +kernel
theorem d_W_divideSmall_12 : decode b_W_divideSmall 12 = .ok (.iconst 1, 1) := by decide +kernel
theorem d_W_divideSmall_13 : decode b_W_divideSmall 13 = .ok (.isub, 1) := by decide +kernel
theorem d_W_divideSmall_14 : decode b_W_divideSmall 14 = .ok (.istore 4, 2) := by decide +kernel
theorem d_W_divideSmall_16 : decode b_W_divideSmall 16 = .ok (.iload 4, 2) := by decide +kernel
theorem d_W_divideSmall_18 : decode b_W_divideSmall 18 = .ok (.ifCond .lt 43, 3) := by decide +kernel
theorem d_W_divideSmall_21 : decode b_W_divideSmall 21 = .ok (.lload_n 2, 1) := by decide +kernel
theorem d_W_divideSmall_22 : decode b_W_divideSmall 22 = .ok (.bipush 31, 2) := by decide +kernel
theorem d_W_divideSmall_24 : decode b_W_divideSmall 24 = .ok (.lshl, 1) := by decide +kernel
theorem d_W_divideSmall_25 : decode b_W_divideSmall 25 = .ok (.aload_n 0, 1) := by decide +kernel
theorem d_W_divideSmall_26 : decode b_W_divideSmall 26 = .ok (.getfield 17, 3) := by decide +kernel
theorem d_W_divideSmall_29 : decode b_W_divideSmall 29 = .ok (.iload 4, 2) := by decide +kernel
theorem d_W_divideSmall_31 : decode b_W_divideSmall 31 = .ok (.iaload, 1) := by decide +kernel
theorem d_W_divideSmall_32 : decode b_W_divideSmall 32 = .ok (.i2l, 1) := by decide +kernel
theorem d_W_divideSmall_33 : decode b_W_divideSmall 33 = .ok (.lor, 1) := by decide +kernel
theorem d_W_divideSmall_34 : decode b_W_divideSmall 34 = .ok (.lstore 5, 2) := by decide +kernel
theorem d_W_divideSmall_36 : decode b_W_divideSmall 36 = .ok (.aload_n 0, 1) := by decide +kernel
theorem d_W_divideSmall_37 : decode b_W_divideSmall 37 = .ok (.getfield 17, 3) := by decide +kernel
theorem d_W_divideSmall_40 : decode b_W_divideSmall 40 = .ok (.iload 4, 2) := by decide +kernel
theorem d_W_divideSmall_42 : decode b_W_divideSmall 42 = .ok (.lload 5, 2) := by decide +kernel
theorem d_W_divideSmall_44 : decode b_W_divideSmall 44 = .ok (.iload_n 1, 1) := by decide +kernel
theorem d_W_divideSmall_45 : decode b_W_divideSmall 45 = .ok (.i2l, 1) := by decide +kernel
theorem d_W_divideSmall_46 : decode b_W_divideSmall 46 = .ok (.ldiv, 1) := by decide +kernel
theorem d_W_divideSmall_47 : decode b_W_divideSmall 47 = .ok (.l2i, 1) := by decide +kernel
theorem d_W_divideSmall_48 : decode b_W_divideSmall 48 = .ok (.iastore, 1) := by decide +kernel
theorem d_W_divideSmall_49 : decode b_W_divideSmall 49 = .ok (.lload 5, 2) := by decide +kernel
theorem d_W_divideSmall_51 : decode b_W_divideSmall 51 = .ok (.iload_n 1, 1) := by decide +kernel
theorem d_W_divideSmall_52 : decode b_W_divideSmall 52 = .ok (.i2l, 1) := by decide +kernel
theorem d_W_divideSmall_53 : decode b_W_divideSmall 53 = .ok (.lrem, 1) := by decide +kernel
theorem d_W_divideSmall_54 : decode b_W_divideSmall 54 = .ok (.lstore_n 2, 1) := by decide +kernel
theorem d_W_divideSmall_55 : decode b_W_divideSmall 55 = .ok (.iinc 4 (-1), 3) := by decide +kernel
theorem d_W_divideSmall_58 : decode b_W_divideSmall 58 = .ok (.goto (-42), 3) := by decide +kernel
theorem d_W_divideSmall_61 : decode b_W_divideSmall 61 = .ok (.aload_n 0, 1) := by decide +kernel
theorem d_W_divideSmall_62 : decode b_W_divideSmall 62 = .ok (.aload_n 0, 1) := by decide +kernel
theorem d_W_divideSmall_63 : decode b_W_divideSmall 63 = .ok (.getfield 21, 3) := by decide +kernel
theorem d_W_divideSmall_66 : decode b_W_divideSmall 66 = .ok (.invokevirtual 48, 3) := by decide +kernel
theorem d_W_divideSmall_69 : decode b_W_divideSmall 69 = .ok (.lload_n 2, 1) := by decide +kernel
theorem d_W_divideSmall_70 : decode b_W_divideSmall 70 = .ok (.l2i, 1) := by decide +kernel
theorem d_W_divideSmall_71 : decode b_W_divideSmall 71 = .ok (.ireturn, 1) := by decide +kernel
theorem d_T_putNineBackwards_0 : decode b_T_putNineBackwards 0 = .ok (.iload_n 1, 1) := by decide +kernel
theorem d_T_putNineBackwards_1 : decode b_T_putNineBackwards 1 = .ok (.istore_n 2, 1) := by decide +kernel
theorem d_T_putNineBackwards_2 : decode b_T_putNineBackwards 2 = .ok (.iconst 0, 1) := by decide +kernel
theorem d_T_putNineBackwards_3 : decode b_T_putNineBackwards 3 = .ok (.istore_n 3, 1) := by decide +kernel
theorem d_T_putNineBackwards_4 : decode b_T_putNineBackwards 4 = .ok (.iload_n 3, 1) := by decide +kernel
theorem d_T_putNineBackwards_5 : decode b_T_putNineBackwards 5 = .ok (.bipush 9, 2) := by decide +kernel
theorem d_T_putNineBackwards_7 : decode b_T_putNineBackwards 7 = .ok (.if_icmp .ge 26, 3) := by decide +kernel
theorem d_T_putNineBackwards_10 : decode b_T_putNineBackwards 10 = .ok (.aload_n 0, 1) := by decide +kernel
theorem d_T_putNineBackwards_11 : decode b_T_putNineBackwards 11 = .ok (.bipush 48, 2) := by decide +kernel
theorem d_T_putNineBackwards_13 : decode b_T_putNineBackwards 13 = .ok (.iload_n 2, 1) := by decide +kernel
theorem d_T_putNineBackwards_14 : decode b_T_putNineBackwards 14 = .ok (.bipush 10, 2) := by decide +kernel
theorem d_T_putNineBackwards_16 : decode b_T_putNineBackwards 16 = .ok (.irem, 1) := by decide +kernel
theorem d_T_putNineBackwards_17 : decode b_T_putNineBackwards 17 = .ok (.iadd, 1) := by decide +kernel
theorem d_T_putNineBackwards_18 : decode b_T_putNineBackwards 18 = .ok (.i2c, 1) := by decide +kernel
theorem d_T_putNineBackwards_19 : decode b_T_putNineBackwards 19 = .ok (.invokevirtual 34, 3) := by decide +kernel
theorem d_T_putNineBackwards_22 : decode b_T_putNineBackwards 22 = .ok (.iload_n 2, 1) := by decide +kernel
theorem d_T_putNineBackwards_23 : decode b_T_putNineBackwards 23 = .ok (.bipush 10, 2) := by decide +kernel
theorem d_T_putNineBackwards_25 : decode b_T_putNineBackwards 25 = .ok (.idiv, 1) := by decide +kernel
theorem d_T_putNineBackwards_26 : decode b_T_putNineBackwards 26 = .ok (.istore_n 2, 1) := by decide +kernel
theorem d_T_putNineBackwards_27 : decode b_T_putNineBackwards 27 = .ok (.iinc 3 1, 3) := by decide +kernel
theorem d_T_putNineBackwards_30 : decode b_T_putNineBackwards 30 = .ok (.goto (-26), 3) := by decide +kernel
theorem d_T_putNineBackwards_33 : decode b_T_putNineBackwards 33 = .ok (.return_, 1) := by decide +kernel
theorem d_T_turnRound_0 : decode b_T_turnRound 0 = .ok (.iload_n 1, 1) := by decide +kernel
theorem d_T_turnRound_1 : decode b_T_turnRound 1 = .ok (.ifCond .lt 12, 3) := by decide +kernel
theorem d_T_turnRound_4 : decode b_T_turnRound 4 = .ok (.iload_n 2, 1) := by decide +kernel
theorem d_T_turnRound_5 : decode b_T_turnRound 5 = .ok (.aload_n 0, 1) := by decide +kernel
theorem d_T_turnRound_6 : decode b_T_turnRound 6 = .ok (.getfield 9, 3) := by decide +kernel
theorem d_T_turnRound_9 : decode b_T_turnRound 9 = .ok (.arraylength, 1) := by decide +kernel
theorem d_T_turnRound_10 : decode b_T_turnRound 10 = .ok (.if_icmp .lt 4, 3) := by decide +kernel
theorem d_T_turnRound_13 : decode b_T_turnRound 13 = .ok (.return_, 1) := by decide +kernel
theorem d_T_turnRound_14 : decode b_T_turnRound 14 = .ok (.iload_n 1, 1) := by decide +kernel
theorem d_T_turnRound_15 : decode b_T_turnRound 15 = .ok (.istore_n 3, 1) := by decide +kernel
theorem d_T_turnRound_16 : decode b_T_turnRound 16 = .ok (.iload_n 2, 1) := by decide +kernel
theorem d_T_turnRound_17 : decode b_T_turnRound 17 = .ok (.istore 4, 2) := by decide +kernel
theorem d_T_turnRound_19 : decode b_T_turnRound 19 = .ok (.iload_n 3, 1) := by decide +kernel
theorem d_T_turnRound_20 : decode b_T_turnRound 20 = .ok (.iload 4, 2) := by decide +kernel
theorem d_T_turnRound_22 : decode b_T_turnRound 22 = .ok (.if_icmp .ge 42, 3) := by decide +kernel
theorem d_T_turnRound_25 : decode b_T_turnRound 25 = .ok (.aload_n 0, 1) := by decide +kernel
theorem d_T_turnRound_26 : decode b_T_turnRound 26 = .ok (.getfield 9, 3) := by decide +kernel
theorem d_T_turnRound_29 : decode b_T_turnRound 29 = .ok (.iload_n 3, 1) := by decide +kernel
theorem d_T_turnRound_30 : decode b_T_turnRound 30 = .ok (.caload, 1) := by decide +kernel
theorem d_T_turnRound_31 : decode b_T_turnRound 31 = .ok (.istore 5, 2) := by decide +kernel
theorem d_T_turnRound_33 : decode b_T_turnRound 33 = .ok (.aload_n 0, 1) := by decide +kernel
theorem d_T_turnRound_34 : decode b_T_turnRound 34 = .ok (.getfield 9, 3) := by decide +kernel
theorem d_T_turnRound_37 : decode b_T_turnRound 37 = .ok (.iload_n 3, 1) := by decide +kernel
theorem d_T_turnRound_38 : decode b_T_turnRound 38 = .ok (.aload_n 0, 1) := by decide +kernel
theorem d_T_turnRound_39 : decode b_T_turnRound 39 = .ok (.getfield 9, 3) := by decide +kernel
theorem d_T_turnRound_42 : decode b_T_turnRound 42 = .ok (.iload 4, 2) := by decide +kernel
theorem d_T_turnRound_44 : decode b_T_turnRound 44 = .ok (.caload, 1) := by decide +kernel
theorem d_T_turnRound_45 : decode b_T_turnRound 45 = .ok (.castore, 1) := by decide +kernel
theorem d_T_turnRound_46 : decode b_T_turnRound 46 = .ok (.aload_n 0, 1) := by decide +kernel
theorem d_T_turnRound_47 : decode b_T_turnRound 47 = .ok (.getfield 9, 3) := by decide +kernel
theorem d_T_turnRound_50 : decode b_T_turnRound 50 = .ok (.iload 4, 2) := by decide +kernel
theorem d_T_turnRound_52 : decode b_T_turnRound 52 = .ok (.iload 5, 2) := by decide +kernel
theorem d_T_turnRound_54 : decode b_T_turnRound 54 = .ok (.castore, 1) := by decide +kernel
theorem d_T_turnRound_55 : decode b_T_turnRound 55 = .ok (.iinc 3 1, 3) := by decide +kernel
theorem d_T_turnRound_58 : decode b_T_turnRound 58 = .ok (.iinc 4 (-1), 3) := by decide +kernel
theorem d_T_turnRound_61 : decode b_T_turnRound 61 = .ok (.goto (-42), 3) := by decide +kernel
theorem d_T_turnRound_64 : decode b_T_turnRound 64 = .ok (.return_, 1) := by decide +kernel
theorem d_L_read_0 : decode b_L_read 0 = .ok (.aload_n 2, 1) := by decide +kernel
theorem d_L_read_1 : decode b_L_read 1 = .ok (.iconst 0, 1) := by decide +kernel
theorem d_L_read_2 : decode b_L_read 2 = .ok (.aload_n 0, 1) := by decide +kernel
theorem d_L_read_3 : decode b_L_read 3 = .ok (.iload_n 1, 1) := by decide +kernel
theorem d_L_read_4 : decode b_L_read 4 = .ok (.invokevirtual 44, 3) := by decide +kernel
theorem d_L_read_7 : decode b_L_read 7 = .ok (.i2l, 1) := by decide +kernel
theorem d_L_read_8 : decode b_L_read 8 = .ok (.lastore, 1) := by decide +kernel
theorem d_L_read_9 : decode b_L_read 9 = .ok (.goto 9, 3) := by decide +kernel
theorem d_L_read_12 : decode b_L_read 12 = .ok (.astore_n 3, 1) := by decide +kernel
theorem d_L_read_13 : decode b_L_read 13 = .ok (.iconst 1, 1) := by decide +kernel
theorem d_L_read_14 : decode b_L_read 14 = .ok (.ireturn, 1) := by decide +kernel
theorem d_L_read_15 : decode b_L_read 15 = .ok (.astore_n 3, 1) := by decide +kernel
theorem d_L_read_16 : decode b_L_read 16 = .ok (.iconst 2, 1) := by decide +kernel
theorem d_L_read_17 : decode b_L_read 17 = .ok (.ireturn, 1) := by decide +kernel
theorem d_L_read_18 : decode b_L_read 18 = .ok (.iconst 0, 1) := by decide +kernel
theorem d_L_read_19 : decode b_L_read 19 = .ok (.ireturn, 1) := by decide +kernel
theorem d_K_read_0 : decode b_K_read 0 = .ok (.aload_n 0, 1) := by decide +kernel
theorem d_K_read_1 : decode b_K_read 1 = .ok (.iload_n 1, 1) := by decide +kernel
theorem d_K_read_2 : decode b_K_read 2 = .ok (.invokevirtual 34, 3) := by decide +kernel
theorem d_K_read_5 : decode b_K_read 5 = .ok (.astore_n 2, 1) := by decide +kernel
theorem d_K_read_6 : decode b_K_read 6 = .ok (.aload_n 0, 1) := by decide +kernel
theorem d_K_read_7 : decode b_K_read 7 = .ok (.getfield 26, 3) := by decide +kernel
theorem d_K_read_10 : decode b_K_read 10 = .ok (.invokevirtual 161, 3) := by decide +kernel
theorem d_K_read_13 : decode b_K_read 13 = .ok (.istore_n 3, 1) := by decide +kernel
theorem d_K_read_14 : decode b_K_read 14 = .ok (.iload_n 3, 1) := by decide +kernel
theorem d_K_read_15 : decode b_K_read 15 = .ok (.iconst (-1), 1) := by decide +kernel
theorem d_K_read_16 : decode b_K_read 16 = .ok (.if_icmp .eq 18, 3) := by decide +kernel
theorem d_K_read_19 : decode b_K_read 19 = .ok (.aload_n 0, 1) := by decide +kernel
theorem d_K_read_20 : decode b_K_read 20 = .ok (.iload_n 3, 1) := by decide +kernel
theorem d_K_read_21 : decode b_K_read 21 = .ok (.putfield 30, 3) := by decide +kernel
theorem d_K_read_24 : decode b_K_read 24 = .ok (.new 164, 3) := by decide +kernel
theorem d_K_read_27 : decode b_K_read 27 = .ok (.dup, 1) := by decide +kernel
theorem d_K_read_28 : decode b_K_read 28 = .ok (.ldc 166, 2) := by decide +kernel
theorem d_K_read_30 : decode b_K_read 30 = .ok (.invokespecial 168, 3) := by decide +kernel
theorem d_K_read_33 : decode b_K_read 33 = .ok (.athrow, 1) := by decide +kernel
theorem d_K_read_34 : decode b_K_read 34 = .ok (.aload_n 0, 1) := by decide +kernel
theorem d_K_read_35 : decode b_K_read 35 = .ok (.getfield 19, 3) := by decide +kernel
theorem d_K_read_38 : decode b_K_read 38 = .ok (.aload_n 0, 1) := by decide +kernel
theorem d_K_read_39 : decode b_K_read 39 = .ok (.getfield 26, 3) := by decide +kernel
theorem d_K_read_42 : decode b_K_read 42 = .ok (.invokevirtual 169, 3) := by decide +kernel
theorem d_K_read_45 : decode b_K_read 45 = .ok (.ifCond .ne 5, 3) := by decide +kernel
theorem d_K_read_48 : decode b_K_read 48 = .ok (.iconst (-1), 1) := by decide +kernel
theorem d_K_read_49 : decode b_K_read 49 = .ok (.ireturn, 1) := by decide +kernel
theorem d_K_read_50 : decode b_K_read 50 = .ok (.aload_n 0, 1) := by decide +kernel
theorem d_K_read_51 : decode b_K_read 51 = .ok (.getfield 26, 3) := by decide +kernel
theorem d_K_read_54 : decode b_K_read 54 = .ok (.iconst 0, 1) := by decide +kernel
theorem d_K_read_55 : decode b_K_read 55 = .ok (.putfield 138, 3) := by decide +kernel
theorem d_K_read_58 : decode b_K_read 58 = .ok (.aload_n 0, 1) := by decide +kernel
theorem d_K_read_59 : decode b_K_read 59 = .ok (.getfield 19, 3) := by decide +kernel
theorem d_K_read_62 : decode b_K_read 62 = .ok (.aload_n 2, 1) := by decide +kernel
theorem d_K_read_63 : decode b_K_read 63 = .ok (.invokevirtual 49, 3) := by decide +kernel
theorem d_K_read_66 : decode b_K_read 66 = .ok (.ireturn, 1) := by decide +kernel
theorem d_T_wrongAt_0 : decode b_T_wrongAt 0 = .ok (.aload_n 0, 1) := by decide +kernel
theorem d_T_wrongAt_1 : decode b_T_wrongAt 1 = .ok (.invokevirtual 49, 3) := by decide +kernel
theorem d_T_wrongAt_4 : decode b_T_wrongAt 4 = .ok (.istore_n 1, 1) := by decide +kernel
theorem d_T_wrongAt_5 : decode b_T_wrongAt 5 = .ok (.aload_n 0, 1) := by decide +kernel
theorem d_T_wrongAt_6 : decode b_T_wrongAt 6 = .ok (.iload_n 1, 1) := by decide +kernel
theorem d_T_wrongAt_7 : decode b_T_wrongAt 7 = .ok (.invokevirtual 53, 3) := by decide +kernel
theorem d_T_wrongAt_10 : decode b_T_wrongAt 10 = .ok (.istore_n 2, 1) := by decide +kernel
theorem d_T_wrongAt_11 : decode b_T_wrongAt 11 = .ok (.iload_n 2, 1) := by decide +kernel
theorem d_T_wrongAt_12 : decode b_T_wrongAt 12 = .ok (.iload_n 1, 1) := by decide +kernel
theorem d_T_wrongAt_13 : decode b_T_wrongAt 13 = .ok (.if_icmp .le 13, 3) := by decide +kernel
theorem d_T_wrongAt_16 : decode b_T_wrongAt 16 = .ok (.iload_n 2, 1) := by decide +kernel
theorem d_T_wrongAt_17 : decode b_T_wrongAt 17 = .ok (.aload_n 0, 1) := by decide +kernel
theorem d_T_wrongAt_18 : decode b_T_wrongAt 18 = .ok (.getfield 15, 3) := by decide +kernel
theorem d_T_wrongAt_21 : decode b_T_wrongAt 21 = .ok (.if_icmp .ne 5, 3) := by decide +kernel
theorem d_T_wrongAt_24 : decode b_T_wrongAt 24 = .ok (.iconst (-1), 1) := by decide +kernel
theorem d_T_wrongAt_25 : decode b_T_wrongAt 25 = .ok (.ireturn, 1) := by decide +kernel
theorem d_T_wrongAt_26 : decode b_T_wrongAt 26 = .ok (.iload_n 2, 1) := by decide +kernel
theorem d_T_wrongAt_27 : decode b_T_wrongAt 27 = .ok (.iload_n 1, 1) := by decide +kernel
theorem d_T_wrongAt_28 : decode b_T_wrongAt 28 = .ok (.if_icmp .eq 13, 3) := by decide +kernel
theorem d_T_wrongAt_31 : decode b_T_wrongAt 31 = .ok (.aload_n 0, 1) := by decide +kernel
theorem d_T_wrongAt_32 : decode b_T_wrongAt 32 = .ok (.iload_n 2, 1) := by decide +kernel
theorem d_T_wrongAt_33 : decode b_T_wrongAt 33 = .ok (.invokevirtual 42, 3) := by decide +kernel
theorem d_T_wrongAt_36 : decode b_T_wrongAt 36 = .ok (.bipush 47, 2) := by decide +kernel
theorem d_T_wrongAt_38 : decode b_T_wrongAt 38 = .ok (.if_icmp .eq 5, 3) := by decide +kernel
theorem d_T_wrongAt_41 : decode b_T_wrongAt 41 = .ok (.iload_n 2, 1) := by decide +kernel
theorem d_T_wrongAt_42 : decode b_T_wrongAt 42 = .ok (.ireturn, 1) := by decide +kernel
theorem d_T_wrongAt_43 : decode b_T_wrongAt 43 = .ok (.aload_n 0, 1) := by decide +kernel
theorem d_T_wrongAt_44 : decode b_T_wrongAt 44 = .ok (.iload_n 2, 1) := by decide +kernel
theorem d_T_wrongAt_45 : decode b_T_wrongAt 45 = .ok (.iconst 1, 1) := by decide +kernel
theorem d_T_wrongAt_46 : decode b_T_wrongAt 46 = .ok (.iadd, 1) := by decide +kernel
theorem d_T_wrongAt_47 : decode b_T_wrongAt 47 = .ok (.invokevirtual 53, 3) := by decide +kernel
theorem d_T_wrongAt_50 : decode b_T_wrongAt 50 = .ok (.istore_n 3, 1) := by decide +kernel
theorem d_T_wrongAt_51 : decode b_T_wrongAt 51 = .ok (.iload_n 3, 1) := by decide +kernel
theorem d_T_wrongAt_52 : decode b_T_wrongAt 52 = .ok (.aload_n 0, 1) := by decide +kernel
theorem d_T_wrongAt_53 : decode b_T_wrongAt 53 = .ok (.getfield 15, 3) := by decide +kernel
theorem d_T_wrongAt_56 : decode b_T_wrongAt 56 = .ok (.if_icmp .ne 18, 3) := by decide +kernel
theorem d_T_wrongAt_59 : decode b_T_wrongAt 59 = .ok (.aload_n 0, 1) := by decide +kernel
theorem d_T_wrongAt_60 : decode b_T_wrongAt 60 = .ok (.iload_n 2, 1) := by decide +kernel
theorem d_T_wrongAt_61 : decode b_T_wrongAt 61 = .ok (.iconst 1, 1) := by decide +kernel
theorem d_T_wrongAt_62 : decode b_T_wrongAt 62 = .ok (.iadd, 1) := by decide +kernel
theorem d_T_wrongAt_63 : decode b_T_wrongAt 63 = .ok (.iload_n 3, 1) := by decide +kernel
theorem d_T_wrongAt_64 : decode b_T_wrongAt 64 = .ok (.invokevirtual 56, 3) := by decide +kernel
theorem d_T_wrongAt_67 : decode b_T_wrongAt 67 = .ok (.ifCond .ne 7, 3) := by decide +kernel
theorem d_T_wrongAt_70 : decode b_T_wrongAt 70 = .ok (.iconst 1, 1) := by decide +kernel
theorem d_T_wrongAt_71 : decode b_T_wrongAt 71 = .ok (.goto 4, 3) := by decide +kernel
theorem d_T_wrongAt_74 : decode b_T_wrongAt 74 = .ok (.iconst 0, 1) := by decide +kernel
theorem d_T_wrongAt_75 : decode b_T_wrongAt 75 = .ok (.istore 4, 2) := by decide +kernel
theorem d_T_wrongAt_77 : decode b_T_wrongAt 77 = .ok (.iload 4, 2) := by decide +kernel
theorem d_T_wrongAt_79 : decode b_T_wrongAt 79 = .ok (.ifCond .eq 7, 3) := by decide +kernel
theorem d_T_wrongAt_82 : decode b_T_wrongAt 82 = .ok (.iconst (-1), 1) := by decide +kernel
theorem d_T_wrongAt_83 : decode b_T_wrongAt 83 = .ok (.goto 4, 3) := by decide +kernel
theorem d_T_wrongAt_86 : decode b_T_wrongAt 86 = .ok (.iload_n 3, 1) := by decide +kernel
theorem d_T_wrongAt_87 : decode b_T_wrongAt 87 = .ok (.ireturn, 1) := by decide +kernel
theorem d_T_firstDigit_0 : decode b_T_firstDigit 0 = .ok (.aload_n 0, 1) := by decide +kernel
theorem d_T_firstDigit_1 : decode b_T_firstDigit 1 = .ok (.iconst 0, 1) := by decide +kernel
theorem d_T_firstDigit_2 : decode b_T_firstDigit 2 = .ok (.invokevirtual 42, 3) := by decide +kernel
theorem d_T_firstDigit_5 : decode b_T_firstDigit 5 = .ok (.bipush 45, 2) := by decide +kernel
theorem d_T_firstDigit_7 : decode b_T_firstDigit 7 = .ok (.if_icmp .ne 7, 3) := by decide +kernel
theorem d_T_firstDigit_10 : decode b_T_firstDigit 10 = .ok (.iconst 1, 1) := by decide +kernel
theorem d_T_firstDigit_11 : decode b_T_firstDigit 11 = .ok (.goto 4, 3) := by decide +kernel
theorem d_T_firstDigit_14 : decode b_T_firstDigit 14 = .ok (.iconst 0, 1) := by decide +kernel
theorem d_T_firstDigit_15 : decode b_T_firstDigit 15 = .ok (.ireturn, 1) := by decide +kernel
theorem d_T_digitsEnd_0 : decode b_T_digitsEnd 0 = .ok (.iload_n 1, 1) := by decide +kernel
theorem d_T_digitsEnd_1 : decode b_T_digitsEnd 1 = .ok (.istore_n 2, 1) := by decide +kernel
theorem d_T_digitsEnd_2 : decode b_T_digitsEnd 2 = .ok (.iload_n 2, 1) := by decide +kernel
theorem d_T_digitsEnd_3 : decode b_T_digitsEnd 3 = .ok (.aload_n 0, 1) := by decide +kernel
theorem d_T_digitsEnd_4 : decode b_T_digitsEnd 4 = .ok (.getfield 15, 3) := by decide +kernel
theorem d_T_digitsEnd_7 : decode b_T_digitsEnd 7 = .ok (.if_icmp .ge 20, 3) := by decide +kernel
theorem d_T_digitsEnd_10 : decode b_T_digitsEnd 10 = .ok (.aload_n 0, 1) := by decide +kernel
theorem d_T_digitsEnd_11 : decode b_T_digitsEnd 11 = .ok (.iload_n 2, 1) := by decide +kernel
theorem d_T_digitsEnd_12 : decode b_T_digitsEnd 12 = .ok (.invokevirtual 42, 3) := by decide +kernel
theorem d_T_digitsEnd_15 : decode b_T_digitsEnd 15 = .ok (.invokestatic 45, 3) := by decide +kernel
theorem d_T_digitsEnd_18 : decode b_T_digitsEnd 18 = .ok (.ifCond .eq 9, 3) := by decide +kernel
theorem d_T_digitsEnd_21 : decode b_T_digitsEnd 21 = .ok (.iinc 2 1, 3) := by decide +kernel
theorem d_T_digitsEnd_24 : decode b_T_digitsEnd 24 = .ok (.goto (-22), 3) := by decide +kernel
theorem d_T_digitsEnd_27 : decode b_T_digitsEnd 27 = .ok (.iload_n 2, 1) := by decide +kernel
theorem d_T_digitsEnd_28 : decode b_T_digitsEnd 28 = .ok (.ireturn, 1) := by decide +kernel
theorem d_T_isDigit_0 : decode b_T_isDigit 0 = .ok (.iload_n 0, 1) := by decide +kernel
theorem d_T_isDigit_1 : decode b_T_isDigit 1 = .ok (.bipush 48, 2) := by decide +kernel
theorem d_T_isDigit_3 : decode b_T_isDigit 3 = .ok (.if_icmp .lt 13, 3) := by decide +kernel
theorem d_T_isDigit_6 : decode b_T_isDigit 6 = .ok (.iload_n 0, 1) := by decide +kernel
theorem d_T_isDigit_7 : decode b_T_isDigit 7 = .ok (.bipush 57, 2) := by decide +kernel
theorem d_T_isDigit_9 : decode b_T_isDigit 9 = .ok (.if_icmp .gt 7, 3) := by decide +kernel
theorem d_T_isDigit_12 : decode b_T_isDigit 12 = .ok (.iconst 1, 1) := by decide +kernel
theorem d_T_isDigit_13 : decode b_T_isDigit 13 = .ok (.goto 4, 3) := by decide +kernel
theorem d_T_isDigit_16 : decode b_T_isDigit 16 = .ok (.iconst 0, 1) := by decide +kernel
theorem d_T_isDigit_17 : decode b_T_isDigit 17 = .ok (.ireturn, 1) := by decide +kernel
theorem d_T_isAllZeros_0 : decode b_T_isAllZeros 0 = .ok (.iload_n 1, 1) := by decide +kernel
theorem d_T_isAllZeros_1 : decode b_T_isAllZeros 1 = .ok (.istore_n 3, 1) := by decide +kernel
theorem d_T_isAllZeros_2 : decode b_T_isAllZeros 2 = .ok (.iload_n 3, 1) := by decide +kernel
theorem d_T_isAllZeros_3 : decode b_T_isAllZeros 3 = .ok (.iload_n 2, 1) := by decide +kernel
theorem d_T_isAllZeros_4 : decode b_T_isAllZeros 4 = .ok (.if_icmp .ge 21, 3) := by decide +kernel
theorem d_T_isAllZeros_7 : decode b_T_isAllZeros 7 = .ok (.aload_n 0, 1) := by decide +kernel
theorem d_T_isAllZeros_8 : decode b_T_isAllZeros 8 = .ok (.iload_n 3, 1) := by decide +kernel
theorem d_T_isAllZeros_9 : decode b_T_isAllZeros 9 = .ok (.invokevirtual 42, 3) := by decide +kernel
theorem d_T_isAllZeros_12 : decode b_T_isAllZeros 12 = .ok (.bipush 48, 2) := by decide +kernel
theorem d_T_isAllZeros_14 : decode b_T_isAllZeros 14 = .ok (.if_icmp .eq 5, 3) := by decide +kernel
theorem d_T_isAllZeros_17 : decode b_T_isAllZeros 17 = .ok (.iconst 0, 1) := by decide +kernel
theorem d_T_isAllZeros_18 : decode b_T_isAllZeros 18 = .ok (.ireturn, 1) := by decide +kernel
theorem d_T_isAllZeros_19 : decode b_T_isAllZeros 19 = .ok (.iinc 3 1, 3) := by decide +kernel
theorem d_T_isAllZeros_22 : decode b_T_isAllZeros 22 = .ok (.goto (-20), 3) := by decide +kernel
theorem d_T_isAllZeros_25 : decode b_T_isAllZeros 25 = .ok (.iconst 1, 1) := by decide +kernel
theorem d_T_isAllZeros_26 : decode b_T_isAllZeros 26 = .ok (.ireturn, 1) := by decide +kernel
theorem d_B_takeText_0 : decode b_B_takeText 0 = .ok (.aload_n 1, 1) := by decide +kernel
theorem d_B_takeText_1 : decode b_B_takeText 1 = .ok (.invokevirtual 87, 3) := by decide +kernel
theorem d_B_takeText_4 : decode b_B_takeText 4 = .ok (.istore_n 2, 1) := by decide +kernel
theorem d_B_takeText_5 : decode b_B_takeText 5 = .ok (.aload_n 1, 1) := by decide +kernel
theorem d_B_takeText_6 : decode b_B_takeText 6 = .ok (.iload_n 2, 1) := by decide +kernel
theorem d_B_takeText_7 : decode b_B_takeText 7 = .ok (.invokevirtual 93, 3) := by decide +kernel
theorem d_B_takeText_10 : decode b_B_takeText 10 = .ok (.istore_n 3, 1) := by decide +kernel
theorem d_B_takeText_11 : decode b_B_takeText 11 = .ok (.aload_n 0, 1) := by decide +kernel
theorem d_B_takeText_12 : decode b_B_takeText 12 = .ok (.iload_n 2, 1) := by decide +kernel
theorem d_B_takeText_13 : decode b_B_takeText 13 = .ok (.ifCond .le 7, 3) := by decide +kernel
theorem d_B_takeText_16 : decode b_B_takeText 16 = .ok (.iconst 1, 1) := by decide +kernel
theorem d_B_takeText_17 : decode b_B_takeText 17 = .ok (.goto 4, 3) := by decide +kernel
theorem d_B_takeText_20 : decode b_B_takeText 20 = .ok (.iconst 0, 1) := by decide +kernel
theorem d_B_takeText_21 : decode b_B_takeText 21 = .ok (.putfield 39, 3) := by decide +kernel
theorem d_B_takeText_24 : decode b_B_takeText 24 = .ok (.aload_n 0, 1) := by decide +kernel
theorem d_B_takeText_25 : decode b_B_takeText 25 = .ok (.getfield 20, 3) := by decide +kernel
theorem d_B_takeText_28 : decode b_B_takeText 28 = .ok (.lconst 1, 1) := by decide +kernel
theorem d_B_takeText_29 : decode b_B_takeText 29 = .ok (.invokevirtual 83, 3) := by decide +kernel
theorem d_B_takeText_32 : decode b_B_takeText 32 = .ok (.aload_n 1, 1) := by decide +kernel
theorem d_B_takeText_33 : decode b_B_takeText 33 = .ok (.iload_n 2, 1) := by decide +kernel
theorem d_B_takeText_34 : decode b_B_takeText 34 = .ok (.iload_n 3, 1) := by decide +kernel
theorem d_B_takeText_35 : decode b_B_takeText 35 = .ok (.aload_n 0, 1) := by decide +kernel
theorem d_B_takeText_36 : decode b_B_takeText 36 = .ok (.getfield 16, 3) := by decide +kernel
theorem d_B_takeText_39 : decode b_B_takeText 39 = .ok (.invokevirtual 97, 3) := by decide +kernel
theorem d_B_takeText_42 : decode b_B_takeText 42 = .ok (.ifCond .ne 5, 3) := by decide +kernel
theorem d_B_takeText_45 : decode b_B_takeText 45 = .ok (.iconst 0, 1) := by decide +kernel
theorem d_B_takeText_46 : decode b_B_takeText 46 = .ok (.ireturn, 1) := by decide +kernel
theorem d_B_takeText_47 : decode b_B_takeText 47 = .ok (.iload_n 3, 1) := by decide +kernel
theorem d_B_takeText_48 : decode b_B_takeText 48 = .ok (.aload_n 1, 1) := by decide +kernel
theorem d_B_takeText_49 : decode b_B_takeText 49 = .ok (.getfield 101, 3) := by decide +kernel
theorem d_B_takeText_52 : decode b_B_takeText 52 = .ok (.if_icmp .ge 21, 3) := by decide +kernel
theorem d_B_takeText_55 : decode b_B_takeText 55 = .ok (.aload_n 1, 1) := by decide +kernel
theorem d_B_takeText_56 : decode b_B_takeText 56 = .ok (.iload_n 3, 1) := by decide +kernel
theorem d_B_takeText_57 : decode b_B_takeText 57 = .ok (.iconst 1, 1) := by decide +kernel
theorem d_B_takeText_58 : decode b_B_takeText 58 = .ok (.iadd, 1) := by decide +kernel
theorem d_B_takeText_59 : decode b_B_takeText 59 = .ok (.aload_n 1, 1) := by decide +kernel
theorem d_B_takeText_60 : decode b_B_takeText 60 = .ok (.getfield 101, 3) := by decide +kernel
theorem d_B_takeText_63 : decode b_B_takeText 63 = .ok (.aload_n 0, 1) := by decide +kernel
theorem d_B_takeText_64 : decode b_B_takeText 64 = .ok (.getfield 20, 3) := by decide +kernel
theorem d_B_takeText_67 : decode b_B_takeText 67 = .ok (.invokevirtual 97, 3) := by decide +kernel
theorem d_B_takeText_70 : decode b_B_takeText 70 = .ok (.ifCond .eq 7, 3) := by decide +kernel
theorem d_B_takeText_73 : decode b_B_takeText 73 = .ok (.iconst 1, 1) := by decide +kernel
theorem d_B_takeText_74 : decode b_B_takeText 74 = .ok (.goto 4, 3) := by decide +kernel
theorem d_B_takeText_77 : decode b_B_takeText 77 = .ok (.iconst 0, 1) := by decide +kernel
theorem d_B_takeText_78 : decode b_B_takeText 78 = .ok (.ireturn, 1) := by decide +kernel
theorem d_T_tell_0 : decode b_T_tell 0 = .ok (.aload_n 3, 1) := by decide +kernel
theorem d_T_tell_1 : decode b_T_tell 1 = .ok (.iconst 0, 1) := by decide +kernel
theorem d_T_tell_2 : decode b_T_tell 2 = .ok (.putfield 60, 3) := by decide +kernel
theorem d_T_tell_5 : decode b_T_tell 5 = .ok (.iconst 0, 1) := by decide +kernel
theorem d_T_tell_6 : decode b_T_tell 6 = .ok (.istore 4, 2) := by decide +kernel
theorem d_T_tell_8 : decode b_T_tell 8 = .ok (.iconst 1, 1) := by decide +kernel
theorem d_T_tell_9 : decode b_T_tell 9 = .ok (.istore 5, 2) := by decide +kernel
theorem d_T_tell_11 : decode b_T_tell 11 = .ok (.iload_n 1, 1) := by decide +kernel
theorem d_T_tell_12 : decode b_T_tell 12 = .ok (.istore 6, 2) := by decide +kernel
theorem d_T_tell_14 : decode b_T_tell 14 = .ok (.iload 6, 2) := by decide +kernel
theorem d_T_tell_16 : decode b_T_tell 16 = .ok (.iload_n 2, 1) := by decide +kernel
theorem d_T_tell_17 : decode b_T_tell 17 = .ok (.if_icmp .ge 71, 3) := by decide +kernel
theorem d_T_tell_20 : decode b_T_tell 20 = .ok (.iload 4, 2) := by decide +kernel
theorem d_T_tell_22 : decode b_T_tell 22 = .ok (.bipush 10, 2) := by decide +kernel
theorem d_T_tell_24 : decode b_T_tell 24 = .ok (.imul, 1) := by decide +kernel
theorem d_T_tell_25 : decode b_T_tell 25 = .ok (.aload_n 0, 1) := by decide +kernel
theorem d_T_tell_26 : decode b_T_tell 26 = .ok (.iload 6, 2) := by decide +kernel
theorem d_T_tell_28 : decode b_T_tell 28 = .ok (.invokevirtual 42, 3) := by decide +kernel
theorem d_T_tell_31 : decode b_T_tell 31 = .ok (.bipush 48, 2) := by decide +kernel
theorem d_T_tell_33 : decode b_T_tell 33 = .ok (.isub, 1) := by decide +kernel
theorem d_T_tell_34 : decode b_T_tell 34 = .ok (.iadd, 1) := by decide +kernel
theorem d_T_tell_35 : decode b_T_tell 35 = .ok (.istore 4, 2) := by decide +kernel
theorem d_T_tell_37 : decode b_T_tell 37 = .ok (.iload 5, 2) := by decide +kernel
theorem d_T_tell_39 : decode b_T_tell 39 = .ok (.bipush 10, 2) := by decide +kernel
theorem d_T_tell_41 : decode b_T_tell 41 = .ok (.imul, 1) := by decide +kernel
theorem d_T_tell_42 : decode b_T_tell 42 = .ok (.istore 5, 2) := by decide +kernel
theorem d_T_tell_44 : decode b_T_tell 44 = .ok (.iload 5, 2) := by decide +kernel
theorem d_T_tell_46 : decode b_T_tell 46 = .ok (.ldc 25, 2) := by decide +kernel
theorem d_T_tell_48 : decode b_T_tell 48 = .ok (.if_icmp .eq 11, 3) := by decide +kernel
theorem d_T_tell_51 : decode b_T_tell 51 = .ok (.iload 6, 2) := by decide +kernel
theorem d_T_tell_53 : decode b_T_tell 53 = .ok (.iload_n 2, 1) := by decide +kernel
theorem d_T_tell_54 : decode b_T_tell 54 = .ok (.iconst 1, 1) := by decide +kernel
theorem d_T_tell_55 : decode b_T_tell 55 = .ok (.isub, 1) := by decide +kernel
theorem d_T_tell_56 : decode b_T_tell 56 = .ok (.if_icmp .ne 26, 3) := by decide +kernel
theorem d_T_tell_59 : decode b_T_tell 59 = .ok (.aload_n 3, 1) := by decide +kernel
theorem d_T_tell_60 : decode b_T_tell 60 = .ok (.iload 5, 2) := by decide +kernel
theorem d_T_tell_62 : decode b_T_tell 62 = .ok (.iload 4, 2) := by decide +kernel
theorem d_T_tell_64 : decode b_T_tell 64 = .ok (.invokevirtual 63, 3) := by decide +kernel
theorem d_T_tell_67 : decode b_T_tell 67 = .ok (.aload_n 3, 1) := by decide +kernel
theorem d_T_tell_68 : decode b_T_tell 68 = .ok (.invokevirtual 66, 3) := by decide +kernel
theorem d_T_tell_71 : decode b_T_tell 71 = .ok (.ifCond .ne 5, 3) := by decide +kernel
theorem d_T_tell_74 : decode b_T_tell 74 = .ok (.iconst 0, 1) := by decide +kernel
theorem d_T_tell_75 : decode b_T_tell 75 = .ok (.ireturn, 1) := by decide +kernel
theorem d_T_tell_76 : decode b_T_tell 76 = .ok (.iconst 0, 1) := by decide +kernel
theorem d_T_tell_77 : decode b_T_tell 77 = .ok (.istore 4, 2) := by decide +kernel
theorem d_T_tell_79 : decode b_T_tell 79 = .ok (.iconst 1, 1) := by decide +kernel
theorem d_T_tell_80 : decode b_T_tell 80 = .ok (.istore 5, 2) := by decide +kernel
theorem d_T_tell_82 : decode b_T_tell 82 = .ok (.iinc 6 1, 3) := by decide +kernel
theorem d_T_tell_85 : decode b_T_tell 85 = .ok (.goto (-71), 3) := by decide +kernel
theorem d_T_tell_88 : decode b_T_tell 88 = .ok (.iconst 1, 1) := by decide +kernel
theorem d_T_tell_89 : decode b_T_tell 89 = .ok (.ireturn, 1) := by decide +kernel
theorem d_M_init_0 : decode b_M_init 0 = .ok (.aload_n 0, 1) := by decide +kernel
theorem d_M_init_1 : decode b_M_init 1 = .ok (.invokespecial 1, 3) := by decide +kernel
theorem d_M_init_4 : decode b_M_init 4 = .ok (.aload_n 0, 1) := by decide +kernel
theorem d_M_init_5 : decode b_M_init 5 = .ok (.sipush 12900, 3) := by decide +kernel
theorem d_M_init_8 : decode b_M_init 8 = .ok (.newarray .int, 2) := by decide +kernel
theorem d_M_init_10 : decode b_M_init 10 = .ok (.putfield 7, 3) := by decide +kernel
theorem d_M_init_13 : decode b_M_init 13 = .ok (.aload_n 0, 1) := by decide +kernel
theorem d_M_init_14 : decode b_M_init 14 = .ok (.bipush 43, 2) := by decide +kernel
theorem d_M_init_16 : decode b_M_init 16 = .ok (.newarray .int, 2) := by decide +kernel
theorem d_M_init_18 : decode b_M_init 18 = .ok (.putfield 13, 3) := by decide +kernel
theorem d_M_init_21 : decode b_M_init 21 = .ok (.aload_n 0, 1) := by decide +kernel
theorem d_M_init_22 : decode b_M_init 22 = .ok (.bipush 43, 2) := by decide +kernel
theorem d_M_init_24 : decode b_M_init 24 = .ok (.newarray .boolean, 2) := by decide +kernel
theorem d_M_init_26 : decode b_M_init 26 = .ok (.putfield 16, 3) := by decide +kernel
theorem d_M_init_29 : decode b_M_init 29 = .ok (.aload_n 0, 1) := by decide +kernel
theorem d_M_init_30 : decode b_M_init 30 = .ok (.sipush 1400, 3) := by decide +kernel
theorem d_M_init_33 : decode b_M_init 33 = .ok (.newarray .int, 2) := by decide +kernel
theorem d_M_init_35 : decode b_M_init 35 = .ok (.putfield 20, 3) := by decide +kernel
theorem d_M_init_38 : decode b_M_init 38 = .ok (.aload_n 0, 1) := by decide +kernel
theorem d_M_init_39 : decode b_M_init 39 = .ok (.iconst (-1), 1) := by decide +kernel
theorem d_M_init_40 : decode b_M_init 40 = .ok (.putfield 23, 3) := by decide +kernel
theorem d_M_init_43 : decode b_M_init 43 = .ok (.aload_n 0, 1) := by decide +kernel
theorem d_M_init_44 : decode b_M_init 44 = .ok (.sipush 700, 3) := by decide +kernel
theorem d_M_init_47 : decode b_M_init 47 = .ok (.newarray .int, 2) := by decide +kernel
theorem d_M_init_49 : decode b_M_init 49 = .ok (.putfield 27, 3) := by decide +kernel
theorem d_M_init_52 : decode b_M_init 52 = .ok (.iconst 0, 1) := by decide +kernel
theorem d_M_init_53 : decode b_M_init 53 = .ok (.istore_n 1, 1) := by decide +kernel
theorem d_M_init_54 : decode b_M_init 54 = .ok (.iload_n 1, 1) := by decide +kernel
theorem d_M_init_55 : decode b_M_init 55 = .ok (.bipush 16, 2) := by decide +kernel
theorem d_M_init_57 : decode b_M_init 57 = .ok (.if_icmp .ge 18, 3) := by decide +kernel
theorem d_M_init_60 : decode b_M_init 60 = .ok (.aload_n 0, 1) := by decide +kernel
theorem d_M_init_61 : decode b_M_init 61 = .ok (.bipush 16, 2) := by decide +kernel
theorem d_M_init_63 : decode b_M_init 63 = .ok (.iload_n 1, 1) := by decide +kernel
theorem d_M_init_64 : decode b_M_init 64 = .ok (.iadd, 1) := by decide +kernel
theorem d_M_init_65 : decode b_M_init 65 = .ok (.lconst 1, 1) := by decide +kernel
theorem d_M_init_66 : decode b_M_init 66 = .ok (.invokevirtual 30, 3) := by decide +kernel
theorem d_M_init_69 : decode b_M_init 69 = .ok (.iinc 1 1, 3) := by decide +kernel
theorem d_M_init_72 : decode b_M_init 72 = .ok (.goto (-18), 3) := by decide +kernel
theorem d_M_init_75 : decode b_M_init 75 = .ok (.return_, 1) := by decide +kernel
theorem d_M_setLong_0 : decode b_M_setLong 0 = .ok (.lload_n 2, 1) := by decide +kernel
theorem d_M_setLong_1 : decode b_M_setLong 1 = .ok (.lconst 0, 1) := by decide +kernel
theorem d_M_setLong_2 : decode b_M_setLong 2 = .ok (.lcmp, 1) := by decide +kernel
theorem d_M_setLong_3 : decode b_M_setLong 3 = .ok (.ifCond .ge 12, 3) := by decide +kernel
theorem d_M_setLong_6 : decode b_M_setLong 6 = .ok (.lload_n 2, 1) := by decide +kernel
theorem d_M_setLong_7 : decode b_M_setLong 7 = .ok (.ldc2_w 37, 3) := by decide +kernel
theorem d_M_setLong_10 : decode b_M_setLong 10 = .ok (.ldiv, 1) := by decide +kernel
theorem d_M_setLong_11 : decode b_M_setLong 11 = .ok (.lneg, 1) := by decide +kernel
theorem d_M_setLong_12 : decode b_M_setLong 12 = .ok (.goto 8, 3) := by decide +kernel
theorem d_M_setLong_15 : decode b_M_setLong 15 = .ok (.lload_n 2, 1) := by decide +kernel
theorem d_M_setLong_16 : decode b_M_setLong 16 = .ok (.ldc2_w 37, 3) := by decide +kernel
theorem d_M_setLong_19 : decode b_M_setLong 19 = .ok (.ldiv, 1) := by decide +kernel
theorem d_M_setLong_20 : decode b_M_setLong 20 = .ok (.lstore 4, 2) := by decide +kernel
theorem d_M_setLong_22 : decode b_M_setLong 22 = .ok (.lload_n 2, 1) := by decide +kernel
theorem d_M_setLong_23 : decode b_M_setLong 23 = .ok (.ldc2_w 37, 3) := by decide +kernel
theorem d_M_setLong_26 : decode b_M_setLong 26 = .ok (.lrem, 1) := by decide +kernel
theorem d_M_setLong_27 : decode b_M_setLong 27 = .ok (.l2i, 1) := by decide +kernel
theorem d_M_setLong_28 : decode b_M_setLong 28 = .ok (.istore 6, 2) := by decide +kernel
theorem d_M_setLong_30 : decode b_M_setLong 30 = .ok (.aload_n 0, 1) := by decide +kernel
theorem d_M_setLong_31 : decode b_M_setLong 31 = .ok (.getfield 7, 3) := by decide +kernel
theorem d_M_setLong_34 : decode b_M_setLong 34 = .ok (.sipush 300, 3) := by decide +kernel
theorem d_M_setLong_37 : decode b_M_setLong 37 = .ok (.iload_n 1, 1) := by decide +kernel
theorem d_M_setLong_38 : decode b_M_setLong 38 = .ok (.imul, 1) := by decide +kernel
theorem d_M_setLong_39 : decode b_M_setLong 39 = .ok (.iload 6, 2) := by decide +kernel
theorem d_M_setLong_41 : decode b_M_setLong 41 = .ok (.ifCond .ge 9, 3) := by decide +kernel
theorem d_M_setLong_44 : decode b_M_setLong 44 = .ok (.iload 6, 2) := by decide +kernel
theorem d_M_setLong_46 : decode b_M_setLong 46 = .ok (.ineg, 1) := by decide +kernel
theorem d_M_setLong_47 : decode b_M_setLong 47 = .ok (.goto 5, 3) := by decide +kernel
theorem d_M_setLong_50 : decode b_M_setLong 50 = .ok (.iload 6, 2) := by decide +kernel
theorem d_M_setLong_52 : decode b_M_setLong 52 = .ok (.iastore, 1) := by decide +kernel
theorem d_M_setLong_53 : decode b_M_setLong 53 = .ok (.iconst 1, 1) := by decide +kernel
theorem d_M_setLong_54 : decode b_M_setLong 54 = .ok (.istore 7, 2) := by decide +kernel
theorem d_M_setLong_56 : decode b_M_setLong 56 = .ok (.lload 4, 2) := by decide +kernel
theorem d_M_setLong_58 : decode b_M_setLong 58 = .ok (.lconst 0, 1) := by decide +kernel
theorem d_M_setLong_59 : decode b_M_setLong 59 = .ok (.lcmp, 1) := by decide +kernel
theorem d_M_setLong_60 : decode b_M_setLong 60 = .ok (.ifCond .le 37, 3) := by decide +kernel
theorem d_M_setLong_63 : decode b_M_setLong 63 = .ok (.aload_n 0, 1) := by decide +kernel
theorem d_M_setLong_64 : decode b_M_setLong 64 = .ok (.getfield 7, 3) := by decide +kernel
theorem d_M_setLong_67 : decode b_M_setLong 67 = .ok (.sipush 300, 3) := by decide +kernel
theorem d_M_setLong_70 : decode b_M_setLong 70 = .ok (.iload_n 1, 1) := by decide +kernel
theorem d_M_setLong_71 : decode b_M_setLong 71 = .ok (.imul, 1) := by decide +kernel
theorem d_M_setLong_72 : decode b_M_setLong 72 = .ok (.iload 7, 2) := by decide +kernel
theorem d_M_setLong_74 : decode b_M_setLong 74 = .ok (.iadd, 1) := by decide +kernel
theorem d_M_setLong_75 : decode b_M_setLong 75 = .ok (.lload 4, 2) := by decide +kernel
theorem d_M_setLong_77 : decode b_M_setLong 77 = .ok (.ldc2_w 37, 3) := by decide +kernel
theorem d_M_setLong_80 : decode b_M_setLong 80 = .ok (.lrem, 1) := by decide +kernel
theorem d_M_setLong_81 : decode b_M_setLong 81 = .ok (.l2i, 1) := by decide +kernel
theorem d_M_setLong_82 : decode b_M_setLong 82 = .ok (.iastore, 1) := by decide +kernel
theorem d_M_setLong_83 : decode b_M_setLong 83 = .ok (.lload 4, 2) := by decide +kernel
theorem d_M_setLong_85 : decode b_M_setLong 85 = .ok (.ldc2_w 37, 3) := by decide +kernel
theorem d_M_setLong_88 : decode b_M_setLong 88 = .ok (.ldiv, 1) := by decide +kernel
theorem d_M_setLong_89 : decode b_M_setLong 89 = .ok (.lstore 4, 2) := by decide +kernel
theorem d_M_setLong_91 : decode b_M_setLong 91 = .ok (.iinc 7 1, 3) := by decide +kernel
theorem d_M_setLong_94 : decode b_M_setLong 94 = .ok (.goto (-38), 3) := by decide +kernel
theorem d_M_setLong_97 : decode b_M_setLong 97 = .ok (.aload_n 0, 1) := by decide +kernel
theorem d_M_setLong_98 : decode b_M_setLong 98 = .ok (.getfield 13, 3) := by decide +kernel
theorem d_M_setLong_101 : decode b_M_setLong 101 = .ok (.iload_n 1, 1) := by decide +kernel
theorem d_M_setLong_102 : decode b_M_setLong 102 = .ok (.iload 7, 2) := by decide +kernel
theorem d_M_setLong_104 : decode b_M_setLong 104 = .ok (.iastore, 1) := by decide +kernel
theorem d_M_setLong_105 : decode b_M_setLong 105 = .ok (.aload_n 0, 1) := by decide +kernel
theorem d_M_setLong_106 : decode b_M_setLong 106 = .ok (.getfield 16, 3) := by decide +kernel
theorem d_M_setLong_109 : decode b_M_setLong 109 = .ok (.iload_n 1, 1) := by decide +kernel
theorem d_M_setLong_110 : decode b_M_setLong 110 = .ok (.lload_n 2, 1) := by decide +kernel
theorem d_M_setLong_111 : decode b_M_setLong 111 = .ok (.lconst 0, 1) := by decide +kernel
theorem d_M_setLong_112 : decode b_M_setLong 112 = .ok (.lcmp, 1) := by decide +kernel
theorem d_M_setLong_113 : decode b_M_setLong 113 = .ok (.ifCond .ge 7, 3) := by decide +kernel
theorem d_M_setLong_116 : decode b_M_setLong 116 = .ok (.iconst 1, 1) := by decide +kernel
theorem d_M_setLong_117 : decode b_M_setLong 117 = .ok (.goto 4, 3) := by decide +kernel
theorem d_M_setLong_120 : decode b_M_setLong 120 = .ok (.iconst 0, 1) := by decide +kernel
theorem d_M_setLong_121 : decode b_M_setLong 121 = .ok (.bastore, 1) := by decide +kernel
theorem d_M_setLong_122 : decode b_M_setLong 122 = .ok (.aload_n 0, 1) := by decide +kernel
theorem d_M_setLong_123 : decode b_M_setLong 123 = .ok (.iload_n 1, 1) := by decide +kernel
theorem d_M_setLong_124 : decode b_M_setLong 124 = .ok (.invokevirtual 39, 3) := by decide +kernel
theorem d_M_setLong_127 : decode b_M_setLong 127 = .ok (.return_, 1) := by decide +kernel
theorem d_M_trim_0 : decode b_M_trim 0 = .ok (.aload_n 0, 1) := by decide +kernel
theorem d_M_trim_1 : decode b_M_trim 1 = .ok (.getfield 13, 3) := by decide +kernel
theorem d_M_trim_4 : decode b_M_trim 4 = .ok (.iload_n 1, 1) := by decide +kernel
theorem d_M_trim_5 : decode b_M_trim 5 = .ok (.iaload, 1) := by decide +kernel
theorem d_M_trim_6 : decode b_M_trim 6 = .ok (.ifCond .le 38, 3) := by decide +kernel
theorem d_M_trim_9 : decode b_M_trim 9 = .ok (.aload_n 0, 1) := by decide +kernel
theorem d_M_trim_10 : decode b_M_trim 10 = .ok (.getfield 7, 3) := by decide +kernel
theorem d_M_trim_13 : decode b_M_trim 13 = .ok (.sipush 300, 3) := by decide +kernel
theorem d_M_trim_16 : decode b_M_trim 16 = .ok (.iload_n 1, 1) := by decide +kernel
theorem d_M_trim_17 : decode b_M_trim 17 = .ok (.imul, 1) := by decide +kernel
theorem d_M_trim_18 : decode b_M_trim 18 = .ok (.aload_n 0, 1) := by decide +kernel
theorem d_M_trim_19 : decode b_M_trim 19 = .ok (.getfield 13, 3) := by decide +kernel
theorem d_M_trim_22 : decode b_M_trim 22 = .ok (.iload_n 1, 1) := by decide +kernel
theorem d_M_trim_23 : decode b_M_trim 23 = .ok (.iaload, 1) := by decide +kernel
theorem d_M_trim_24 : decode b_M_trim 24 = .ok (.iadd, 1) := by decide +kernel
theorem d_M_trim_25 : decode b_M_trim 25 = .ok (.iconst 1, 1) := by decide +kernel
theorem d_M_trim_26 : decode b_M_trim 26 = .ok (.isub, 1) := by decide +kernel
theorem d_M_trim_27 : decode b_M_trim 27 = .ok (.iaload, 1) := by decide +kernel
theorem d_M_trim_28 : decode b_M_trim 28 = .ok (.ifCond .ne 16, 3) := by decide +kernel
theorem d_M_trim_31 : decode b_M_trim 31 = .ok (.aload_n 0, 1) := by decide +kernel
theorem d_M_trim_32 : decode b_M_trim 32 = .ok (.getfield 13, 3) := by decide +kernel
theorem d_M_trim_35 : decode b_M_trim 35 = .ok (.iload_n 1, 1) := by decide +kernel
theorem d_M_trim_36 : decode b_M_trim 36 = .ok (.dup2, 1) := by decide +kernel
theorem d_M_trim_37 : decode b_M_trim 37 = .ok (.iaload, 1) := by decide +kernel
theorem d_M_trim_38 : decode b_M_trim 38 = .ok (.iconst 1, 1) := by decide +kernel
theorem d_M_trim_39 : decode b_M_trim 39 = .ok (.isub, 1) := by decide +kernel
theorem d_M_trim_40 : decode b_M_trim 40 = .ok (.iastore, 1) := by decide +kernel
theorem d_M_trim_41 : decode b_M_trim 41 = .ok (.goto (-41), 3) := by decide +kernel
theorem d_M_trim_44 : decode b_M_trim 44 = .ok (.aload_n 0, 1) := by decide +kernel
theorem d_M_trim_45 : decode b_M_trim 45 = .ok (.getfield 16, 3) := by decide +kernel
theorem d_M_trim_48 : decode b_M_trim 48 = .ok (.iload_n 1, 1) := by decide +kernel
theorem d_M_trim_49 : decode b_M_trim 49 = .ok (.aload_n 0, 1) := by decide +kernel
theorem d_M_trim_50 : decode b_M_trim 50 = .ok (.getfield 16, 3) := by decide +kernel
theorem d_M_trim_53 : decode b_M_trim 53 = .ok (.iload_n 1, 1) := by decide +kernel
theorem d_M_trim_54 : decode b_M_trim 54 = .ok (.baload, 1) := by decide +kernel
theorem d_M_trim_55 : decode b_M_trim 55 = .ok (.ifCond .eq 16, 3) := by decide +kernel
theorem d_M_trim_58 : decode b_M_trim 58 = .ok (.aload_n 0, 1) := by decide +kernel
theorem d_M_trim_59 : decode b_M_trim 59 = .ok (.getfield 13, 3) := by decide +kernel
theorem d_M_trim_62 : decode b_M_trim 62 = .ok (.iload_n 1, 1) := by decide +kernel
theorem d_M_trim_63 : decode b_M_trim 63 = .ok (.iaload, 1) := by decide +kernel
theorem d_M_trim_64 : decode b_M_trim 64 = .ok (.ifCond .le 7, 3) := by decide +kernel
theorem d_M_trim_67 : decode b_M_trim 67 = .ok (.iconst 1, 1) := by decide +kernel
theorem d_M_trim_68 : decode b_M_trim 68 = .ok (.goto 4, 3) := by decide +kernel
theorem d_M_trim_71 : decode b_M_trim 71 = .ok (.iconst 0, 1) := by decide +kernel
theorem d_M_trim_72 : decode b_M_trim 72 = .ok (.bastore, 1) := by decide +kernel
theorem d_M_trim_73 : decode b_M_trim 73 = .ok (.return_, 1) := by decide +kernel
theorem d_M_thrown_0 : decode b_M_thrown 0 = .ok (.aload_n 0, 1) := by decide +kernel
theorem d_M_thrown_1 : decode b_M_thrown 1 = .ok (.getfield 34, 3) := by decide +kernel
theorem d_M_thrown_4 : decode b_M_thrown 4 = .ok (.ireturn, 1) := by decide +kernel
theorem d_M_set_0 : decode b_M_set 0 = .ok (.aload_n 0, 1) := by decide +kernel
theorem d_M_set_1 : decode b_M_set 1 = .ok (.iload_n 1, 1) := by decide +kernel
theorem d_M_set_2 : decode b_M_set 2 = .ok (.invokestatic 86, 3) := by decide +kernel
theorem d_M_set_5 : decode b_M_set 5 = .ok (.ifCond .eq 14, 3) := by decide +kernel
theorem d_M_set_8 : decode b_M_set 8 = .ok (.lload 4, 2) := by decide +kernel
theorem d_M_set_10 : decode b_M_set 10 = .ok (.lconst 0, 1) := by decide +kernel
theorem d_M_set_11 : decode b_M_set 11 = .ok (.lcmp, 1) := by decide +kernel
theorem d_M_set_12 : decode b_M_set 12 = .ok (.ifCond .eq 7, 3) := by decide +kernel
theorem d_M_set_15 : decode b_M_set 15 = .ok (.iconst 0, 1) := by decide +kernel
theorem d_M_set_16 : decode b_M_set 16 = .ok (.goto 4, 3) := by decide +kernel
theorem d_M_set_19 : decode b_M_set 19 = .ok (.iconst 1, 1) := by decide +kernel
theorem d_M_set_20 : decode b_M_set 20 = .ok (.putfield 34, 3) := by decide +kernel
theorem d_M_set_23 : decode b_M_set 23 = .ok (.aload_n 0, 1) := by decide +kernel
theorem d_M_set_24 : decode b_M_set 24 = .ok (.getfield 34, 3) := by decide +kernel
theorem d_M_set_27 : decode b_M_set 27 = .ok (.ifCond .ne 24, 3) := by decide +kernel
theorem d_M_set_30 : decode b_M_set 30 = .ok (.aload_n 0, 1) := by decide +kernel
theorem d_M_set_31 : decode b_M_set 31 = .ok (.bipush 32, 2) := by decide +kernel
theorem d_M_set_33 : decode b_M_set 33 = .ok (.lload_n 2, 1) := by decide +kernel
theorem d_M_set_34 : decode b_M_set 34 = .ok (.invokevirtual 30, 3) := by decide +kernel
theorem d_M_set_37 : decode b_M_set 37 = .ok (.aload_n 0, 1) := by decide +kernel
theorem d_M_set_38 : decode b_M_set 38 = .ok (.bipush 33, 2) := by decide +kernel
theorem d_M_set_40 : decode b_M_set 40 = .ok (.lload 4, 2) := by decide +kernel
theorem d_M_set_42 : decode b_M_set 42 = .ok (.invokevirtual 30, 3) := by decide +kernel
theorem d_M_set_45 : decode b_M_set 45 = .ok (.aload_n 0, 1) := by decide +kernel
theorem d_M_set_46 : decode b_M_set 46 = .ok (.iload_n 1, 1) := by decide +kernel
theorem d_M_set_47 : decode b_M_set 47 = .ok (.invokevirtual 89, 3) := by decide +kernel
theorem d_M_set_50 : decode b_M_set 50 = .ok (.pop, 1) := by decide +kernel
theorem d_M_set_51 : decode b_M_set 51 = .ok (.return_, 1) := by decide +kernel
theorem d_M_isRegister_0 : decode b_M_isRegister 0 = .ok (.iload_n 0, 1) := by decide +kernel
theorem d_M_isRegister_1 : decode b_M_isRegister 1 = .ok (.ifCond .lt 13, 3) := by decide +kernel
theorem d_M_isRegister_4 : decode b_M_isRegister 4 = .ok (.iload_n 0, 1) := by decide +kernel
theorem d_M_isRegister_5 : decode b_M_isRegister 5 = .ok (.bipush 16, 2) := by decide +kernel
theorem d_M_isRegister_7 : decode b_M_isRegister 7 = .ok (.if_icmp .ge 7, 3) := by decide +kernel
theorem d_M_isRegister_10 : decode b_M_isRegister 10 = .ok (.iconst 1, 1) := by decide +kernel
theorem d_M_isRegister_11 : decode b_M_isRegister 11 = .ok (.goto 4, 3) := by decide +kernel
theorem d_M_isRegister_14 : decode b_M_isRegister 14 = .ok (.iconst 0, 1) := by decide +kernel
theorem d_M_isRegister_15 : decode b_M_isRegister 15 = .ok (.ireturn, 1) := by decide +kernel
theorem d_M_lay_0 : decode b_M_lay 0 = .ok (.aload_n 0, 1) := by decide +kernel
theorem d_M_lay_1 : decode b_M_lay 1 = .ok (.getfield 16, 3) := by decide +kernel
theorem d_M_lay_4 : decode b_M_lay 4 = .ok (.bipush 33, 2) := by decide +kernel
theorem d_M_lay_6 : decode b_M_lay 6 = .ok (.baload, 1) := by decide +kernel
theorem d_M_lay_7 : decode b_M_lay 7 = .ok (.ifCond .eq 43, 3) := by decide +kernel
theorem d_M_lay_10 : decode b_M_lay 10 = .ok (.aload_n 0, 1) := by decide +kernel
theorem d_M_lay_11 : decode b_M_lay 11 = .ok (.getfield 16, 3) := by decide +kernel
theorem d_M_lay_14 : decode b_M_lay 14 = .ok (.bipush 33, 2) := by decide +kernel
theorem d_M_lay_16 : decode b_M_lay 16 = .ok (.iconst 0, 1) := by decide +kernel
theorem d_M_lay_17 : decode b_M_lay 17 = .ok (.bastore, 1) := by decide +kernel
theorem d_M_lay_18 : decode b_M_lay 18 = .ok (.aload_n 0, 1) := by decide +kernel
theorem d_M_lay_19 : decode b_M_lay 19 = .ok (.getfield 16, 3) := by decide +kernel
theorem d_M_lay_22 : decode b_M_lay 22 = .ok (.bipush 32, 2) := by decide +kernel
theorem d_M_lay_24 : decode b_M_lay 24 = .ok (.aload_n 0, 1) := by decide +kernel
theorem d_M_lay_25 : decode b_M_lay 25 = .ok (.getfield 16, 3) := by decide +kernel
theorem d_M_lay_28 : decode b_M_lay 28 = .ok (.bipush 32, 2) := by decide +kernel
theorem d_M_lay_30 : decode b_M_lay 30 = .ok (.baload, 1) := by decide +kernel
theorem d_M_lay_31 : decode b_M_lay 31 = .ok (.ifCond .ne 17, 3) := by decide +kernel
theorem d_M_lay_34 : decode b_M_lay 34 = .ok (.aload_n 0, 1) := by decide +kernel
theorem d_M_lay_35 : decode b_M_lay 35 = .ok (.getfield 13, 3) := by decide +kernel
theorem d_M_lay_38 : decode b_M_lay 38 = .ok (.bipush 32, 2) := by decide +kernel
theorem d_M_lay_40 : decode b_M_lay 40 = .ok (.iaload, 1) := by decide +kernel
theorem d_M_lay_41 : decode b_M_lay 41 = .ok (.ifCond .le 7, 3) := by decide +kernel
theorem d_M_lay_44 : decode b_M_lay 44 = .ok (.iconst 1, 1) := by decide +kernel
theorem d_M_lay_45 : decode b_M_lay 45 = .ok (.goto 4, 3) := by decide +kernel
theorem d_M_lay_48 : decode b_M_lay 48 = .ok (.iconst 0, 1) := by decide +kernel
theorem d_M_lay_49 : decode b_M_lay 49 = .ok (.bastore, 1) := by decide +kernel
theorem d_M_lay_50 : decode b_M_lay 50 = .ok (.aload_n 0, 1) := by decide +kernel
theorem d_M_lay_51 : decode b_M_lay 51 = .ok (.bipush 32, 2) := by decide +kernel
theorem d_M_lay_53 : decode b_M_lay 53 = .ok (.bipush 33, 2) := by decide +kernel
theorem d_M_lay_55 : decode b_M_lay 55 = .ok (.invokevirtual 79, 3) := by decide +kernel
theorem d_M_lay_58 : decode b_M_lay 58 = .ok (.aload_n 0, 1) := by decide +kernel
theorem d_M_lay_59 : decode b_M_lay 59 = .ok (.bipush 42, 2) := by decide +kernel
theorem d_M_lay_61 : decode b_M_lay 61 = .ok (.bipush 34, 2) := by decide +kernel
theorem d_M_lay_63 : decode b_M_lay 63 = .ok (.invokevirtual 55, 3) := by decide +kernel
theorem d_M_lay_66 : decode b_M_lay 66 = .ok (.aload_n 0, 1) := by decide +kernel
theorem d_M_lay_67 : decode b_M_lay 67 = .ok (.bipush 32, 2) := by decide +kernel
theorem d_M_lay_69 : decode b_M_lay 69 = .ok (.bipush 42, 2) := by decide +kernel
theorem d_M_lay_71 : decode b_M_lay 71 = .ok (.invokevirtual 72, 3) := by decide +kernel
theorem d_M_lay_74 : decode b_M_lay 74 = .ok (.aload_n 0, 1) := by decide +kernel
theorem d_M_lay_75 : decode b_M_lay 75 = .ok (.bipush 32, 2) := by decide +kernel
theorem d_M_lay_77 : decode b_M_lay 77 = .ok (.bipush 37, 2) := by decide +kernel
theorem d_M_lay_79 : decode b_M_lay 79 = .ok (.invokevirtual 55, 3) := by decide +kernel
theorem d_M_lay_82 : decode b_M_lay 82 = .ok (.aload_n 0, 1) := by decide +kernel
theorem d_M_lay_83 : decode b_M_lay 83 = .ok (.bipush 33, 2) := by decide +kernel
theorem d_M_lay_85 : decode b_M_lay 85 = .ok (.bipush 42, 2) := by decide +kernel
theorem d_M_lay_87 : decode b_M_lay 87 = .ok (.invokevirtual 72, 3) := by decide +kernel
theorem d_M_lay_90 : decode b_M_lay 90 = .ok (.aload_n 0, 1) := by decide +kernel
theorem d_M_lay_91 : decode b_M_lay 91 = .ok (.bipush 33, 2) := by decide +kernel
theorem d_M_lay_93 : decode b_M_lay 93 = .ok (.bipush 37, 2) := by decide +kernel
theorem d_M_lay_95 : decode b_M_lay 95 = .ok (.invokevirtual 55, 3) := by decide +kernel
theorem d_M_lay_98 : decode b_M_lay 98 = .ok (.aload_n 0, 1) := by decide +kernel
theorem d_M_lay_99 : decode b_M_lay 99 = .ok (.getfield 13, 3) := by decide +kernel
theorem d_M_lay_102 : decode b_M_lay 102 = .ok (.bipush 32, 2) := by decide +kernel
theorem d_M_lay_104 : decode b_M_lay 104 = .ok (.iaload, 1) := by decide +kernel
theorem d_M_lay_105 : decode b_M_lay 105 = .ok (.sipush 128, 3) := by decide +kernel
theorem d_M_lay_108 : decode b_M_lay 108 = .ok (.if_icmp .gt 16, 3) := by decide +kernel
theorem d_M_lay_111 : decode b_M_lay 111 = .ok (.aload_n 0, 1) := by decide +kernel
theorem d_M_lay_112 : decode b_M_lay 112 = .ok (.getfield 13, 3) := by decide +kernel
theorem d_M_lay_115 : decode b_M_lay 115 = .ok (.bipush 33, 2) := by decide +kernel
theorem d_M_lay_117 : decode b_M_lay 117 = .ok (.iaload, 1) := by decide +kernel
theorem d_M_lay_118 : decode b_M_lay 118 = .ok (.sipush 128, 3) := by decide +kernel
theorem d_M_lay_121 : decode b_M_lay 121 = .ok (.if_icmp .le 5, 3) := by decide +kernel
theorem d_M_lay_124 : decode b_M_lay 124 = .ok (.iconst (-1), 1) := by decide +kernel
theorem d_M_lay_125 : decode b_M_lay 125 = .ok (.ireturn, 1) := by decide +kernel
theorem d_M_lay_126 : decode b_M_lay 126 = .ok (.aload_n 0, 1) := by decide +kernel
theorem d_M_lay_127 : decode b_M_lay 127 = .ok (.iload_n 1, 1) := by decide +kernel
theorem d_M_lay_128 : decode b_M_lay 128 = .ok (.bipush 32, 2) := by decide +kernel
theorem d_M_lay_130 : decode b_M_lay 130 = .ok (.invokevirtual 55, 3) := by decide +kernel
theorem d_M_lay_133 : decode b_M_lay 133 = .ok (.aload_n 0, 1) := by decide +kernel
theorem d_M_lay_134 : decode b_M_lay 134 = .ok (.iload_n 1, 1) := by decide +kernel
theorem d_M_lay_135 : decode b_M_lay 135 = .ok (.invokestatic 82, 3) := by decide +kernel
theorem d_M_lay_138 : decode b_M_lay 138 = .ok (.bipush 33, 2) := by decide +kernel
theorem d_M_lay_140 : decode b_M_lay 140 = .ok (.invokevirtual 55, 3) := by decide +kernel
theorem d_M_lay_143 : decode b_M_lay 143 = .ok (.iconst 0, 1) := by decide +kernel
theorem d_M_lay_144 : decode b_M_lay 144 = .ok (.ireturn, 1) := by decide +kernel
theorem d_M_common_0 : decode b_M_common 0 = .ok (.aload_n 0, 1) := by decide +kernel
theorem d_M_common_1 : decode b_M_common 1 = .ok (.bipush 34, 2) := by decide +kernel
theorem d_M_common_3 : decode b_M_common 3 = .ok (.iload_n 1, 1) := by decide +kernel
theorem d_M_common_4 : decode b_M_common 4 = .ok (.invokevirtual 55, 3) := by decide +kernel
theorem d_M_common_7 : decode b_M_common 7 = .ok (.aload_n 0, 1) := by decide +kernel
theorem d_M_common_8 : decode b_M_common 8 = .ok (.bipush 35, 2) := by decide +kernel
theorem d_M_common_10 : decode b_M_common 10 = .ok (.iload_n 2, 1) := by decide +kernel
theorem d_M_common_11 : decode b_M_common 11 = .ok (.invokevirtual 55, 3) := by decide +kernel
theorem d_M_common_14 : decode b_M_common 14 = .ok (.aload_n 0, 1) := by decide +kernel
theorem d_M_common_15 : decode b_M_common 15 = .ok (.getfield 13, 3) := by decide +kernel
theorem d_M_common_18 : decode b_M_common 18 = .ok (.bipush 35, 2) := by decide +kernel
theorem d_M_common_20 : decode b_M_common 20 = .ok (.iaload, 1) := by decide +kernel
theorem d_M_common_21 : decode b_M_common 21 = .ok (.ifCond .le 30, 3) := by decide +kernel
theorem d_M_common_24 : decode b_M_common 24 = .ok (.aload_n 0, 1) := by decide +kernel
theorem d_M_common_25 : decode b_M_common 25 = .ok (.bipush 34, 2) := by decide +kernel
theorem d_M_common_27 : decode b_M_common 27 = .ok (.bipush 35, 2) := by decide +kernel
theorem d_M_common_29 : decode b_M_common 29 = .ok (.invokevirtual 72, 3) := by decide +kernel
theorem d_M_common_32 : decode b_M_common 32 = .ok (.aload_n 0, 1) := by decide +kernel
theorem d_M_common_33 : decode b_M_common 33 = .ok (.bipush 34, 2) := by decide +kernel
theorem d_M_common_35 : decode b_M_common 35 = .ok (.bipush 35, 2) := by decide +kernel
theorem d_M_common_37 : decode b_M_common 37 = .ok (.invokevirtual 55, 3) := by decide +kernel
theorem d_M_common_40 : decode b_M_common 40 = .ok (.aload_n 0, 1) := by decide +kernel
theorem d_M_common_41 : decode b_M_common 41 = .ok (.bipush 35, 2) := by decide +kernel
theorem d_M_common_43 : decode b_M_common 43 = .ok (.bipush 36, 2) := by decide +kernel
theorem d_M_common_45 : decode b_M_common 45 = .ok (.invokevirtual 55, 3) := by decide +kernel
theorem d_M_common_48 : decode b_M_common 48 = .ok (.goto (-34), 3) := by decide +kernel
theorem d_M_common_51 : decode b_M_common 51 = .ok (.aload_n 0, 1) := by decide +kernel
theorem d_M_common_52 : decode b_M_common 52 = .ok (.getfield 16, 3) := by decide +kernel
theorem d_M_common_55 : decode b_M_common 55 = .ok (.bipush 34, 2) := by decide +kernel
theorem d_M_common_57 : decode b_M_common 57 = .ok (.iconst 0, 1) := by decide +kernel
theorem d_M_common_58 : decode b_M_common 58 = .ok (.bastore, 1) := by decide +kernel
theorem d_M_common_59 : decode b_M_common 59 = .ok (.return_, 1) := by decide +kernel
theorem d_M_copy_0 : decode b_M_copy 0 = .ok (.iconst 0, 1) := by decide +kernel
theorem d_M_copy_1 : decode b_M_copy 1 = .ok (.istore_n 3, 1) := by decide +kernel
theorem d_M_copy_2 : decode b_M_copy 2 = .ok (.iload_n 3, 1) := by decide +kernel
theorem d_M_copy_3 : decode b_M_copy 3 = .ok (.aload_n 0, 1) := by decide +kernel
theorem d_M_copy_4 : decode b_M_copy 4 = .ok (.getfield 13, 3) := by decide +kernel
theorem d_M_copy_7 : decode b_M_copy 7 = .ok (.iload_n 2, 1) := by decide +kernel
theorem d_M_copy_8 : decode b_M_copy 8 = .ok (.iaload, 1) := by decide +kernel
theorem d_M_copy_9 : decode b_M_copy 9 = .ok (.if_icmp .ge 33, 3) := by decide +kernel
theorem d_M_copy_12 : decode b_M_copy 12 = .ok (.aload_n 0, 1) := by decide +kernel
theorem d_M_copy_13 : decode b_M_copy 13 = .ok (.getfield 7, 3) := by decide +kernel
theorem d_M_copy_16 : decode b_M_copy 16 = .ok (.sipush 300, 3) := by decide +kernel
theorem d_M_copy_19 : decode b_M_copy 19 = .ok (.iload_n 1, 1) := by decide +kernel
theorem d_M_copy_20 : decode b_M_copy 20 = .ok (.imul, 1) := by decide +kernel
theorem d_M_copy_21 : decode b_M_copy 21 = .ok (.iload_n 3, 1) := by decide +kernel
theorem d_M_copy_22 : decode b_M_copy 22 = .ok (.iadd, 1) := by decide +kernel
theorem d_M_copy_23 : decode b_M_copy 23 = .ok (.aload_n 0, 1) := by decide +kernel
theorem d_M_copy_24 : decode b_M_copy 24 = .ok (.getfield 7, 3) := by decide +kernel
theorem d_M_copy_27 : decode b_M_copy 27 = .ok (.sipush 300, 3) := by decide +kernel
theorem d_M_copy_30 : decode b_M_copy 30 = .ok (.iload_n 2, 1) := by decide +kernel
theorem d_M_copy_31 : decode b_M_copy 31 = .ok (.imul, 1) := by decide +kernel
theorem d_M_copy_32 : decode b_M_copy 32 = .ok (.iload_n 3, 1) := by decide +kernel
theorem d_M_copy_33 : decode b_M_copy 33 = .ok (.iadd, 1) := by decide +kernel
theorem d_M_copy_34 : decode b_M_copy 34 = .ok (.iaload, 1) := by decide +kernel
theorem d_M_copy_35 : decode b_M_copy 35 = .ok (.iastore, 1) := by decide +kernel
theorem d_M_copy_36 : decode b_M_copy 36 = .ok (.iinc 3 1, 3) := by decide +kernel
theorem d_M_copy_39 : decode b_M_copy 39 = .ok (.goto (-37), 3) := by decide +kernel
theorem d_M_copy_42 : decode b_M_copy 42 = .ok (.aload_n 0, 1) := by decide +kernel
theorem d_M_copy_43 : decode b_M_copy 43 = .ok (.getfield 13, 3) := by decide +kernel
theorem d_M_copy_46 : decode b_M_copy 46 = .ok (.iload_n 1, 1) := by decide +kernel
theorem d_M_copy_47 : decode b_M_copy 47 = .ok (.aload_n 0, 1) := by decide +kernel
theorem d_M_copy_48 : decode b_M_copy 48 = .ok (.getfield 13, 3) := by decide +kernel
theorem d_M_copy_51 : decode b_M_copy 51 = .ok (.iload_n 2, 1) := by decide +kernel
theorem d_M_copy_52 : decode b_M_copy 52 = .ok (.iaload, 1) := by decide +kernel
theorem d_M_copy_53 : decode b_M_copy 53 = .ok (.iastore, 1) := by decide +kernel
theorem d_M_copy_54 : decode b_M_copy 54 = .ok (.aload_n 0, 1) := by decide +kernel
theorem d_M_copy_55 : decode b_M_copy 55 = .ok (.getfield 16, 3) := by decide +kernel
theorem d_M_copy_58 : decode b_M_copy 58 = .ok (.iload_n 1, 1) := by decide +kernel
theorem d_M_copy_59 : decode b_M_copy 59 = .ok (.aload_n 0, 1) := by decide +kernel
theorem d_M_copy_60 : decode b_M_copy 60 = .ok (.getfield 16, 3) := by decide +kernel
theorem d_M_copy_63 : decode b_M_copy 63 = .ok (.iload_n 2, 1) := by decide +kernel
theorem d_M_copy_64 : decode b_M_copy 64 = .ok (.baload, 1) := by decide +kernel
theorem d_M_copy_65 : decode b_M_copy 65 = .ok (.bastore, 1) := by decide +kernel
theorem d_M_copy_66 : decode b_M_copy 66 = .ok (.return_, 1) := by decide +kernel
theorem d_M_divide_0 : decode b_M_divide 0 = .ok (.aload_n 0, 1) := by decide +kernel
theorem d_M_divide_1 : decode b_M_divide 1 = .ok (.getfield 16, 3) := by decide +kernel
theorem d_M_divide_4 : decode b_M_divide 4 = .ok (.iload_n 1, 1) := by decide +kernel
theorem d_M_divide_5 : decode b_M_divide 5 = .ok (.baload, 1) := by decide +kernel
theorem d_M_divide_6 : decode b_M_divide 6 = .ok (.istore_n 3, 1) := by decide +kernel
theorem d_M_divide_7 : decode b_M_divide 7 = .ok (.aload_n 0, 1) := by decide +kernel
theorem d_M_divide_8 : decode b_M_divide 8 = .ok (.getfield 16, 3) := by decide +kernel
theorem d_M_divide_11 : decode b_M_divide 11 = .ok (.iload_n 1, 1) := by decide +kernel
theorem d_M_divide_12 : decode b_M_divide 12 = .ok (.baload, 1) := by decide +kernel
theorem d_M_divide_13 : decode b_M_divide 13 = .ok (.aload_n 0, 1) := by decide +kernel
theorem d_M_divide_14 : decode b_M_divide 14 = .ok (.getfield 16, 3) := by decide +kernel
theorem d_M_divide_17 : decode b_M_divide 17 = .ok (.iload_n 2, 1) := by decide +kernel
theorem d_M_divide_18 : decode b_M_divide 18 = .ok (.baload, 1) := by decide +kernel
theorem d_M_divide_19 : decode b_M_divide 19 = .ok (.if_icmp .eq 7, 3) := by decide +kernel
theorem d_M_divide_22 : decode b_M_divide 22 = .ok (.iconst 1, 1) := by decide +kernel
theorem d_M_divide_23 : decode b_M_divide 23 = .ok (.goto 4, 3) := by decide +kernel
theorem d_M_divide_26 : decode b_M_divide 26 = .ok (.iconst 0, 1) := by decide +kernel
theorem d_M_divide_27 : decode b_M_divide 27 = .ok (.istore 4, 2) := by decide +kernel
theorem d_M_divide_29 : decode b_M_divide 29 = .ok (.aload_n 0, 1) := by decide +kernel
theorem d_M_divide_30 : decode b_M_divide 30 = .ok (.iload_n 1, 1) := by decide +kernel
theorem d_M_divide_31 : decode b_M_divide 31 = .ok (.iload_n 2, 1) := by decide +kernel
theorem d_M_divide_32 : decode b_M_divide 32 = .ok (.invokevirtual 48, 3) := by decide +kernel
theorem d_M_divide_35 : decode b_M_divide 35 = .ok (.ifCond .ge 27, 3) := by decide +kernel
theorem d_M_divide_38 : decode b_M_divide 38 = .ok (.aload_n 0, 1) := by decide +kernel
theorem d_M_divide_39 : decode b_M_divide 39 = .ok (.bipush 36, 2) := by decide +kernel
theorem d_M_divide_41 : decode b_M_divide 41 = .ok (.iload_n 1, 1) := by decide +kernel
theorem d_M_divide_42 : decode b_M_divide 42 = .ok (.invokevirtual 55, 3) := by decide +kernel
theorem d_M_divide_45 : decode b_M_divide 45 = .ok (.aload_n 0, 1) := by decide +kernel
theorem d_M_divide_46 : decode b_M_divide 46 = .ok (.getfield 13, 3) := by decide +kernel
theorem d_M_divide_49 : decode b_M_divide 49 = .ok (.bipush 37, 2) := by decide +kernel
theorem d_M_divide_51 : decode b_M_divide 51 = .ok (.iconst 0, 1) := by decide +kernel
theorem d_M_divide_52 : decode b_M_divide 52 = .ok (.iastore, 1) := by decide +kernel
theorem d_M_divide_53 : decode b_M_divide 53 = .ok (.aload_n 0, 1) := by decide +kernel
theorem d_M_divide_54 : decode b_M_divide 54 = .ok (.getfield 16, 3) := by decide +kernel
theorem d_M_divide_57 : decode b_M_divide 57 = .ok (.bipush 37, 2) := by decide +kernel
theorem d_M_divide_59 : decode b_M_divide 59 = .ok (.iconst 0, 1) := by decide +kernel
theorem d_M_divide_60 : decode b_M_divide 60 = .ok (.bastore, 1) := by decide +kernel
theorem d_M_divide_61 : decode b_M_divide 61 = .ok (.return_, 1) := by decide +kernel
theorem d_M_divide_62 : decode b_M_divide 62 = .ok (.ldc 43, 2) := by decide +kernel
theorem d_M_divide_64 : decode b_M_divide 64 = .ok (.aload_n 0, 1) := by decide +kernel
theorem d_M_divide_65 : decode b_M_divide 65 = .ok (.getfield 7, 3) := by decide +kernel
theorem d_M_divide_68 : decode b_M_divide 68 = .ok (.sipush 300, 3) := by decide +kernel
theorem d_M_divide_71 : decode b_M_divide 71 = .ok (.iload_n 2, 1) := by decide +kernel
theorem d_M_divide_72 : decode b_M_divide 72 = .ok (.imul, 1) := by decide +kernel
theorem d_M_divide_73 : decode b_M_divide 73 = .ok (.aload_n 0, 1) := by decide +kernel
theorem d_M_divide_74 : decode b_M_divide 74 = .ok (.getfield 13, 3) := by decide +kernel
theorem d_M_divide_77 : decode b_M_divide 77 = .ok (.iload_n 2, 1) := by decide +kernel
theorem d_M_divide_78 : decode b_M_divide 78 = .ok (.iaload, 1) := by decide +kernel
theorem d_M_divide_79 : decode b_M_divide 79 = .ok (.iadd, 1) := by decide +kernel
theorem d_M_divide_80 : decode b_M_divide 80 = .ok (.iconst 1, 1) := by decide +kernel
theorem d_M_divide_81 : decode b_M_divide 81 = .ok (.isub, 1) := by decide +kernel
theorem d_M_divide_82 : decode b_M_divide 82 = .ok (.iaload, 1) := by decide +kernel
theorem d_M_divide_83 : decode b_M_divide 83 = .ok (.iconst 1, 1) := by decide +kernel
theorem d_M_divide_84 : decode b_M_divide 84 = .ok (.iadd, 1) := by decide +kernel
theorem d_M_divide_85 : decode b_M_divide 85 = .ok (.idiv, 1) := by decide +kernel
theorem d_M_divide_86 : decode b_M_divide 86 = .ok (.istore 5, 2) := by decide +kernel
theorem d_M_divide_88 : decode b_M_divide 88 = .ok (.aload_n 0, 1) := by decide +kernel
theorem d_M_divide_89 : decode b_M_divide 89 = .ok (.getfield 13, 3) := by decide +kernel
theorem d_M_divide_92 : decode b_M_divide 92 = .ok (.iload_n 1, 1) := by decide +kernel
theorem d_M_divide_93 : decode b_M_divide 93 = .ok (.iaload, 1) := by decide +kernel
theorem d_M_divide_94 : decode b_M_divide 94 = .ok (.istore 6, 2) := by decide +kernel
theorem d_M_divide_96 : decode b_M_divide 96 = .ok (.aload_n 0, 1) := by decide +kernel
theorem d_M_divide_97 : decode b_M_divide 97 = .ok (.bipush 36, 2) := by decide +kernel
theorem d_M_divide_99 : decode b_M_divide 99 = .ok (.iload_n 1, 1) := by decide +kernel
theorem d_M_divide_100 : decode b_M_divide 100 = .ok (.iload 5, 2) := by decide +kernel
theorem d_M_divide_102 : decode b_M_divide 102 = .ok (.invokevirtual 59, 3) := by decide +kernel
theorem d_M_divide_105 : decode b_M_divide 105 = .ok (.aload_n 0, 1) := by decide +kernel
theorem d_M_divide_106 : decode b_M_divide 106 = .ok (.bipush 38, 2) := by decide +kernel
theorem d_M_divide_108 : decode b_M_divide 108 = .ok (.iload_n 2, 1) := by decide +kernel
theorem d_M_divide_109 : decode b_M_divide 109 = .ok (.iload 5, 2) := by decide +kernel
