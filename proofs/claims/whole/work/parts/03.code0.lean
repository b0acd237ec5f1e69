/-! the instructions, by program -/
theorem d_K_init_0 : decode b_K_init 0 = .ok (.aload_n 0, 1) := by decide +kernel
theorem d_K_init_1 : decode b_K_init 1 = .ok (.invokespecial 1, 3) := by decide +kernel
theorem d_K_init_4 : decode b_K_init 4 = .ok (.aload_n 0, 1) := by decide +kernel
theorem d_K_init_5 : decode b_K_init 5 = .ok (.bipush 16, 2) := by decide +kernel
theorem d_K_init_7 : decode b_K_init 7 = .ok (.anewarray 9, 3) := by decide +kernel
theorem d_K_init_10 : decode b_K_init 10 = .ok (.putfield 11, 3) := by decide +kernel
theorem d_K_init_13 : decode b_K_init 13 = .ok (.iconst 0, 1) := by decide +kernel
theorem d_K_init_14 : decode b_K_init 14 = .ok (.istore_n 1, 1) := by decide +kernel
theorem d_K_init_15 : decode b_K_init 15 = .ok (.iload_n 1, 1) := by decide +kernel
theorem d_K_init_16 : decode b_K_init 16 = .ok (.bipush 16, 2) := by decide +kernel
theorem d_K_init_18 : decode b_K_init 18 = .ok (.if_icmp .ge 22, 3) := by decide +kernel
theorem d_K_init_21 : decode b_K_init 21 = .ok (.aload_n 0, 1) := by decide +kernel
theorem d_K_init_22 : decode b_K_init 22 = .ok (.getfield 11, 3) := by decide +kernel
theorem d_K_init_25 : decode b_K_init 25 = .ok (.iload_n 1, 1) := by decide +kernel
theorem d_K_init_26 : decode b_K_init 26 = .ok (.new 9, 3) := by decide +kernel
theorem d_K_init_29 : decode b_K_init 29 = .ok (.dup, 1) := by decide +kernel
theorem d_K_init_30 : decode b_K_init 30 = .ok (.invokespecial 15, 3) := by decide +kernel
theorem d_K_init_33 : decode b_K_init 33 = .ok (.aastore, 1) := by decide +kernel
theorem d_K_init_34 : decode b_K_init 34 = .ok (.iinc 1 1, 3) := by decide +kernel
theorem d_K_init_37 : decode b_K_init 37 = .ok (.goto (-22), 3) := by decide +kernel
theorem d_K_init_40 : decode b_K_init 40 = .ok (.aload_n 0, 1) := by decide +kernel
theorem d_K_init_41 : decode b_K_init 41 = .ok (.new 16, 3) := by decide +kernel
theorem d_K_init_44 : decode b_K_init 44 = .ok (.dup, 1) := by decide +kernel
theorem d_K_init_45 : decode b_K_init 45 = .ok (.invokespecial 18, 3) := by decide +kernel
theorem d_K_init_48 : decode b_K_init 48 = .ok (.putfield 19, 3) := by decide +kernel
theorem d_K_init_51 : decode b_K_init 51 = .ok (.aload_n 0, 1) := by decide +kernel
theorem d_K_init_52 : decode b_K_init 52 = .ok (.new 23, 3) := by decide +kernel
theorem d_K_init_55 : decode b_K_init 55 = .ok (.dup, 1) := by decide +kernel
theorem d_K_init_56 : decode b_K_init 56 = .ok (.invokespecial 25, 3) := by decide +kernel
theorem d_K_init_59 : decode b_K_init 59 = .ok (.putfield 26, 3) := by decide +kernel
theorem d_K_init_62 : decode b_K_init 62 = .ok (.aload_n 0, 1) := by decide +kernel
theorem d_K_init_63 : decode b_K_init 63 = .ok (.iconst (-1), 1) := by decide +kernel
theorem d_K_init_64 : decode b_K_init 64 = .ok (.putfield 30, 3) := by decide +kernel
theorem d_K_init_67 : decode b_K_init 67 = .ok (.return_, 1) := by decide +kernel
theorem d_F_init_0 : decode b_F_init 0 = .ok (.aload_n 0, 1) := by decide +kernel
theorem d_F_init_1 : decode b_F_init 1 = .ok (.invokespecial 1, 3) := by decide +kernel
theorem d_F_init_4 : decode b_F_init 4 = .ok (.aload_n 0, 1) := by decide +kernel
theorem d_F_init_5 : decode b_F_init 5 = .ok (.new 7, 3) := by decide +kernel
theorem d_F_init_8 : decode b_F_init 8 = .ok (.dup, 1) := by decide +kernel
theorem d_F_init_9 : decode b_F_init 9 = .ok (.bipush 67, 2) := by decide +kernel
theorem d_F_init_11 : decode b_F_init 11 = .ok (.invokespecial 11, 3) := by decide +kernel
theorem d_F_init_14 : decode b_F_init 14 = .ok (.putfield 14, 3) := by decide +kernel
theorem d_F_init_17 : decode b_F_init 17 = .ok (.aload_n 0, 1) := by decide +kernel
theorem d_F_init_18 : decode b_F_init 18 = .ok (.new 7, 3) := by decide +kernel
theorem d_F_init_21 : decode b_F_init 21 = .ok (.dup, 1) := by decide +kernel
theorem d_F_init_22 : decode b_F_init 22 = .ok (.bipush 67, 2) := by decide +kernel
theorem d_F_init_24 : decode b_F_init 24 = .ok (.invokespecial 11, 3) := by decide +kernel
theorem d_F_init_27 : decode b_F_init 27 = .ok (.putfield 18, 3) := by decide +kernel
theorem d_F_init_30 : decode b_F_init 30 = .ok (.aload_n 0, 1) := by decide +kernel
theorem d_F_init_31 : decode b_F_init 31 = .ok (.getfield 18, 3) := by decide +kernel
theorem d_F_init_34 : decode b_F_init 34 = .ok (.lconst 1, 1) := by decide +kernel
theorem d_F_init_35 : decode b_F_init 35 = .ok (.invokevirtual 21, 3) := by decide +kernel
theorem d_F_init_38 : decode b_F_init 38 = .ok (.aload_n 0, 1) := by decide +kernel
theorem d_F_init_39 : decode b_F_init 39 = .ok (.iconst 0, 1) := by decide +kernel
theorem d_F_init_40 : decode b_F_init 40 = .ok (.putfield 25, 3) := by decide +kernel
theorem d_F_init_43 : decode b_F_init 43 = .ok (.return_, 1) := by decide +kernel
theorem d_W_init_0 : decode b_W_init 0 = .ok (.aload_n 0, 1) := by decide +kernel
theorem d_W_init_1 : decode b_W_init 1 = .ok (.invokespecial 3, 3) := by decide +kernel
theorem d_W_init_4 : decode b_W_init 4 = .ok (.aload_n 0, 1) := by decide +kernel
theorem d_W_init_5 : decode b_W_init 5 = .ok (.iload_n 1, 1) := by decide +kernel
theorem d_W_init_6 : decode b_W_init 6 = .ok (.iconst 3, 1) := by decide +kernel
theorem d_W_init_7 : decode b_W_init 7 = .ok (.invokestatic 11, 3) := by decide +kernel
theorem d_W_init_10 : decode b_W_init 10 = .ok (.newarray .int, 2) := by decide +kernel
theorem d_W_init_12 : decode b_W_init 12 = .ok (.putfield 17, 3) := by decide +kernel
theorem d_W_init_15 : decode b_W_init 15 = .ok (.aload_n 0, 1) := by decide +kernel
theorem d_W_init_16 : decode b_W_init 16 = .ok (.iconst 0, 1) := by decide +kernel
theorem d_W_init_17 : decode b_W_init 17 = .ok (.putfield 21, 3) := by decide +kernel
theorem d_W_init_20 : decode b_W_init 20 = .ok (.return_, 1) := by decide +kernel
theorem d_JM_max_0 : decode b_JM_max 0 = .ok (.iload_n 0, 1) := by decide +kernel
theorem d_JM_max_1 : decode b_JM_max 1 = .ok (.iload_n 1, 1) := by decide +kernel
theorem d_JM_max_2 : decode b_JM_max 2 = .ok (.if_icmp .lt 7, 3) := by decide +kernel
theorem d_JM_max_5 : decode b_JM_max 5 = .ok (.iload_n 0, 1) := by decide +kernel
theorem d_JM_max_6 : decode b_JM_max 6 = .ok (.goto 4, 3) := by decide +kernel
theorem d_JM_max_9 : decode b_JM_max 9 = .ok (.iload_n 1, 1) := by decide +kernel
theorem d_JM_max_10 : decode b_JM_max 10 = .ok (.ireturn, 1) := by decide +kernel
theorem d_W_becomeLong_0 : decode b_W_becomeLong 0 = .ok (.aload_n 0, 1) := by decide +kernel
theorem d_W_becomeLong_1 : decode b_W_becomeLong 1 = .ok (.getfield 17, 3) := by decide +kernel
theorem d_W_becomeLong_4 : decode b_W_becomeLong 4 = .ok (.iconst 0, 1) := by decide +kernel
theorem d_W_becomeLong_5 : decode b_W_becomeLong 5 = .ok (.lload_n 1, 1) := by decide +kernel
theorem d_W_becomeLong_6 : decode b_W_becomeLong 6 = .ok (.ldc2_w 43, 3) := by decide +kernel
theorem d_W_becomeLong_9 : decode b_W_becomeLong 9 = .ok (.land, 1) := by decide +kernel
theorem d_W_becomeLong_10 : decode b_W_becomeLong 10 = .ok (.l2i, 1) := by decide +kernel
theorem d_W_becomeLong_11 : decode b_W_becomeLong 11 = .ok (.iastore, 1) := by decide +kernel
theorem d_W_becomeLong_12 : decode b_W_becomeLong 12 = .ok (.aload_n 0, 1) := by decide +kernel
theorem d_W_becomeLong_13 : decode b_W_becomeLong 13 = .ok (.getfield 17, 3) := by decide +kernel
theorem d_W_becomeLong_16 : decode b_W_becomeLong 16 = .ok (.iconst 1, 1) := by decide +kernel
theorem d_W_becomeLong_17 : decode b_W_becomeLong 17 = .ok (.lload_n 1, 1) := by decide +kernel
theorem d_W_becomeLong_18 : decode b_W_becomeLong 18 = .ok (.bipush 31, 2) := by decide +kernel
theorem d_W_becomeLong_20 : decode b_W_becomeLong 20 = .ok (.lushr, 1) := by decide +kernel
theorem d_W_becomeLong_21 : decode b_W_becomeLong 21 = .ok (.ldc2_w 43, 3) := by decide +kernel
theorem d_W_becomeLong_24 : decode b_W_becomeLong 24 = .ok (.land, 1) := by decide +kernel
theorem d_W_becomeLong_25 : decode b_W_becomeLong 25 = .ok (.l2i, 1) := by decide +kernel
theorem d_W_becomeLong_26 : decode b_W_becomeLong 26 = .ok (.iastore, 1) := by decide +kernel
theorem d_W_becomeLong_27 : decode b_W_becomeLong 27 = .ok (.aload_n 0, 1) := by decide +kernel
theorem d_W_becomeLong_28 : decode b_W_becomeLong 28 = .ok (.getfield 17, 3) := by decide +kernel
theorem d_W_becomeLong_31 : decode b_W_becomeLong 31 = .ok (.iconst 2, 1) := by decide +kernel
theorem d_W_becomeLong_32 : decode b_W_becomeLong 32 = .ok (.lload_n 1, 1) := by decide +kernel
theorem d_W_becomeLong_33 : decode b_W_becomeLong 33 = .ok (.bipush 62, 2) := by decide +kernel
theorem d_W_becomeLong_35 : decode b_W_becomeLong 35 = .ok (.lushr, 1) := by decide +kernel
theorem d_W_becomeLong_36 : decode b_W_becomeLong 36 = .ok (.l2i, 1) := by decide +kernel
theorem d_W_becomeLong_37 : decode b_W_becomeLong 37 = .ok (.iastore, 1) := by decide +kernel
theorem d_W_becomeLong_38 : decode b_W_becomeLong 38 = .ok (.aload_n 0, 1) := by decide +kernel
theorem d_W_becomeLong_39 : decode b_W_becomeLong 39 = .ok (.iconst 3, 1) := by decide +kernel
theorem d_W_becomeLong_40 : decode b_W_becomeLong 40 = .ok (.invokevirtual 48, 3) := by decide +kernel
theorem d_W_becomeLong_43 : decode b_W_becomeLong 43 = .ok (.return_, 1) := by decide +kernel
theorem d_W_trim_0 : decode b_W_trim 0 = .ok (.iload_n 1, 1) := by decide +kernel
theorem d_W_trim_1 : decode b_W_trim 1 = .ok (.aload_n 0, 1) := by decide +kernel
theorem d_W_trim_2 : decode b_W_trim 2 = .ok (.getfield 17, 3) := by decide +kernel
theorem d_W_trim_5 : decode b_W_trim 5 = .ok (.arraylength, 1) := by decide +kernel
theorem d_W_trim_6 : decode b_W_trim 6 = .ok (.invokestatic 45, 3) := by decide +kernel
theorem d_W_trim_9 : decode b_W_trim 9 = .ok (.istore_n 2, 1) := by decide +kernel
theorem d_W_trim_10 : decode b_W_trim 10 = .ok (.iload_n 2, 1) := by decide +kernel
theorem d_W_trim_11 : decode b_W_trim 11 = .ok (.ifCond .le 20, 3) := by decide +kernel
theorem d_W_trim_14 : decode b_W_trim 14 = .ok (.aload_n 0, 1) := by decide +kernel
theorem d_W_trim_15 : decode b_W_trim 15 = .ok (.getfield 17, 3) := by decide +kernel
theorem d_W_trim_18 : decode b_W_trim 18 = .ok (.iload_n 2, 1) := by decide +kernel
theorem d_W_trim_19 : decode b_W_trim 19 = .ok (.iconst 1, 1) := by decide +kernel
theorem d_W_trim_20 : decode b_W_trim 20 = .ok (.isub, 1) := by decide +kernel
theorem d_W_trim_21 : decode b_W_trim 21 = .ok (.iaload, 1) := by decide +kernel
theorem d_W_trim_22 : decode b_W_trim 22 = .ok (.ifCond .ne 9, 3) := by decide +kernel
theorem d_W_trim_25 : decode b_W_trim 25 = .ok (.iinc 2 (-1), 3) := by decide +kernel
theorem d_W_trim_28 : decode b_W_trim 28 = .ok (.goto (-18), 3) := by decide +kernel
theorem d_W_trim_31 : decode b_W_trim 31 = .ok (.aload_n 0, 1) := by decide +kernel
theorem d_W_trim_32 : decode b_W_trim 32 = .ok (.iload_n 2, 1) := by decide +kernel
theorem d_W_trim_33 : decode b_W_trim 33 = .ok (.iconst 0, 1) := by decide +kernel
theorem d_W_trim_34 : decode b_W_trim 34 = .ok (.invokestatic 11, 3) := by decide +kernel
theorem d_W_trim_37 : decode b_W_trim 37 = .ok (.putfield 21, 3) := by decide +kernel
theorem d_W_trim_40 : decode b_W_trim 40 = .ok (.return_, 1) := by decide +kernel
theorem d_JM_min_0 : decode b_JM_min 0 = .ok (.iload_n 0, 1) := by decide +kernel
theorem d_JM_min_1 : decode b_JM_min 1 = .ok (.iload_n 1, 1) := by decide +kernel
theorem d_JM_min_2 : decode b_JM_min 2 = .ok (.if_icmp .gt 7, 3) := by decide +kernel
theorem d_JM_min_5 : decode b_JM_min 5 = .ok (.iload_n 0, 1) := by decide +kernel
theorem d_JM_min_6 : decode b_JM_min 6 = .ok (.goto 4, 3) := by decide +kernel
theorem d_JM_min_9 : decode b_JM_min 9 = .ok (.iload_n 1, 1) := by decide +kernel
theorem d_JM_min_10 : decode b_JM_min 10 = .ok (.ireturn, 1) := by decide +kernel
theorem d_B_init_0 : decode b_B_init 0 = .ok (.aload_n 0, 1) := by decide +kernel
theorem d_B_init_1 : decode b_B_init 1 = .ok (.invokespecial 3, 3) := by decide +kernel
theorem d_B_init_4 : decode b_B_init 4 = .ok (.aload_n 0, 1) := by decide +kernel
theorem d_B_init_5 : decode b_B_init 5 = .ok (.new 9, 3) := by decide +kernel
theorem d_B_init_8 : decode b_B_init 8 = .ok (.dup, 1) := by decide +kernel
theorem d_B_init_9 : decode b_B_init 9 = .ok (.sipush 136, 3) := by decide +kernel
theorem d_B_init_12 : decode b_B_init 12 = .ok (.invokespecial 13, 3) := by decide +kernel
theorem d_B_init_15 : decode b_B_init 15 = .ok (.putfield 16, 3) := by decide +kernel
theorem d_B_init_18 : decode b_B_init 18 = .ok (.aload_n 0, 1) := by decide +kernel
theorem d_B_init_19 : decode b_B_init 19 = .ok (.new 9, 3) := by decide +kernel
theorem d_B_init_22 : decode b_B_init 22 = .ok (.dup, 1) := by decide +kernel
theorem d_B_init_23 : decode b_B_init 23 = .ok (.sipush 136, 3) := by decide +kernel
theorem d_B_init_26 : decode b_B_init 26 = .ok (.invokespecial 13, 3) := by decide +kernel
theorem d_B_init_29 : decode b_B_init 29 = .ok (.putfield 20, 3) := by decide +kernel
theorem d_B_init_32 : decode b_B_init 32 = .ok (.aload_n 0, 1) := by decide +kernel
theorem d_B_init_33 : decode b_B_init 33 = .ok (.new 9, 3) := by decide +kernel
theorem d_B_init_36 : decode b_B_init 36 = .ok (.dup, 1) := by decide +kernel
theorem d_B_init_37 : decode b_B_init 37 = .ok (.sipush 136, 3) := by decide +kernel
theorem d_B_init_40 : decode b_B_init 40 = .ok (.invokespecial 13, 3) := by decide +kernel
theorem d_B_init_43 : decode b_B_init 43 = .ok (.putfield 23, 3) := by decide +kernel
theorem d_B_init_46 : decode b_B_init 46 = .ok (.aload_n 0, 1) := by decide +kernel
theorem d_B_init_47 : decode b_B_init 47 = .ok (.new 9, 3) := by decide +kernel
theorem d_B_init_50 : decode b_B_init 50 = .ok (.dup, 1) := by decide +kernel
theorem d_B_init_51 : decode b_B_init 51 = .ok (.sipush 136, 3) := by decide +kernel
theorem d_B_init_54 : decode b_B_init 54 = .ok (.invokespecial 13, 3) := by decide +kernel
theorem d_B_init_57 : decode b_B_init 57 = .ok (.putfield 26, 3) := by decide +kernel
theorem d_B_init_60 : decode b_B_init 60 = .ok (.aload_n 0, 1) := by decide +kernel
theorem d_B_init_61 : decode b_B_init 61 = .ok (.new 9, 3) := by decide +kernel
theorem d_B_init_64 : decode b_B_init 64 = .ok (.dup, 1) := by decide +kernel
theorem d_B_init_65 : decode b_B_init 65 = .ok (.sipush 136, 3) := by decide +kernel
theorem d_B_init_68 : decode b_B_init 68 = .ok (.invokespecial 13, 3) := by decide +kernel
theorem d_B_init_71 : decode b_B_init 71 = .ok (.putfield 29, 3) := by decide +kernel
theorem d_B_init_74 : decode b_B_init 74 = .ok (.aload_n 0, 1) := by decide +kernel
theorem d_B_init_75 : decode b_B_init 75 = .ok (.new 32, 3) := by decide +kernel
theorem d_B_init_78 : decode b_B_init 78 = .ok (.dup, 1) := by decide +kernel
theorem d_B_init_79 : decode b_B_init 79 = .ok (.invokespecial 34, 3) := by decide +kernel
theorem d_B_init_82 : decode b_B_init 82 = .ok (.putfield 35, 3) := by decide +kernel
theorem d_B_init_85 : decode b_B_init 85 = .ok (.aload_n 0, 1) := by decide +kernel
theorem d_B_init_86 : decode b_B_init 86 = .ok (.iconst 0, 1) := by decide +kernel
theorem d_B_init_87 : decode b_B_init 87 = .ok (.putfield 39, 3) := by decide +kernel
theorem d_B_init_90 : decode b_B_init 90 = .ok (.return_, 1) := by decide +kernel
theorem d_D_init_0 : decode b_D_init 0 = .ok (.aload_n 0, 1) := by decide +kernel
theorem d_D_init_1 : decode b_D_init 1 = .ok (.invokespecial 3, 3) := by decide +kernel
theorem d_D_init_4 : decode b_D_init 4 = .ok (.aload_n 0, 1) := by decide +kernel
theorem d_D_init_5 : decode b_D_init 5 = .ok (.new 1, 3) := by decide +kernel
theorem d_D_init_8 : decode b_D_init 8 = .ok (.dup, 1) := by decide +kernel
theorem d_D_init_9 : decode b_D_init 9 = .ok (.sipush 136, 3) := by decide +kernel
theorem d_D_init_12 : decode b_D_init 12 = .ok (.invokespecial 11, 3) := by decide +kernel
theorem d_D_init_15 : decode b_D_init 15 = .ok (.putfield 14, 3) := by decide +kernel
theorem d_D_init_18 : decode b_D_init 18 = .ok (.return_, 1) := by decide +kernel
theorem d_T_init_0 : decode b_T_init 0 = .ok (.aload_n 0, 1) := by decide +kernel
theorem d_T_init_1 : decode b_T_init 1 = .ok (.invokespecial 3, 3) := by decide +kernel
theorem d_T_init_4 : decode b_T_init 4 = .ok (.aload_n 0, 1) := by decide +kernel
theorem d_T_init_5 : decode b_T_init 5 = .ok (.sipush 1400, 3) := by decide +kernel
theorem d_T_init_8 : decode b_T_init 8 = .ok (.newarray .char, 2) := by decide +kernel
theorem d_T_init_10 : decode b_T_init 10 = .ok (.putfield 9, 3) := by decide +kernel
theorem d_T_init_13 : decode b_T_init 13 = .ok (.aload_n 0, 1) := by decide +kernel
theorem d_T_init_14 : decode b_T_init 14 = .ok (.iconst 0, 1) := by decide +kernel
theorem d_T_init_15 : decode b_T_init 15 = .ok (.putfield 15, 3) := by decide +kernel
theorem d_T_init_18 : decode b_T_init 18 = .ok (.return_, 1) := by decide +kernel
theorem d_K_type_0 : decode b_K_type 0 = .ok (.iload_n 3, 1) := by decide +kernel
theorem d_K_type_1 : decode b_K_type 1 = .ok (.iconst 1, 1) := by decide +kernel
theorem d_K_type_2 : decode b_K_type 2 = .ok (.if_icmp .lt 24, 3) := by decide +kernel
theorem d_K_type_5 : decode b_K_type 5 = .ok (.iload_n 3, 1) := by decide +kernel
theorem d_K_type_6 : decode b_K_type 6 = .ok (.bipush 8, 2) := by decide +kernel
theorem d_K_type_8 : decode b_K_type 8 = .ok (.if_icmp .gt 18, 3) := by decide +kernel
theorem d_K_type_11 : decode b_K_type 11 = .ok (.aload_n 0, 1) := by decide +kernel
theorem d_K_type_12 : decode b_K_type 12 = .ok (.getfield 26, 3) := by decide +kernel
theorem d_K_type_15 : decode b_K_type 15 = .ok (.getfield 138, 3) := by decide +kernel
theorem d_K_type_18 : decode b_K_type 18 = .ok (.iload_n 3, 1) := by decide +kernel
theorem d_K_type_19 : decode b_K_type 19 = .ok (.iadd, 1) := by decide +kernel
theorem d_K_type_20 : decode b_K_type 20 = .ok (.sipush 1400, 3) := by decide +kernel
theorem d_K_type_23 : decode b_K_type 23 = .ok (.if_icmp .le 5, 3) := by decide +kernel
theorem d_K_type_26 : decode b_K_type 26 = .ok (.iconst (-1), 1) := by decide +kernel
theorem d_K_type_27 : decode b_K_type 27 = .ok (.ireturn, 1) := by decide +kernel
theorem d_K_type_28 : decode b_K_type 28 = .ok (.iconst 0, 1) := by decide +kernel
theorem d_K_type_29 : decode b_K_type 29 = .ok (.istore 4, 2) := by decide +kernel
theorem d_K_type_31 : decode b_K_type 31 = .ok (.iload 4, 2) := by decide +kernel
theorem d_K_type_33 : decode b_K_type 33 = .ok (.iload_n 3, 1) := by decide +kernel
theorem d_K_type_34 : decode b_K_type 34 = .ok (.if_icmp .ge 33, 3) := by decide +kernel
theorem d_K_type_37 : decode b_K_type 37 = .ok (.lload_n 1, 1) := by decide +kernel
theorem d_K_type_38 : decode b_K_type 38 = .ok (.iload 4, 2) := by decide +kernel
theorem d_K_type_40 : decode b_K_type 40 = .ok (.invokestatic 153, 3) := by decide +kernel
theorem d_K_type_43 : decode b_K_type 43 = .ok (.istore 5, 2) := by decide +kernel
theorem d_K_type_45 : decode b_K_type 45 = .ok (.iload 5, 2) := by decide +kernel
theorem d_K_type_47 : decode b_K_type 47 = .ok (.bipush 32, 2) := by decide +kernel
theorem d_K_type_49 : decode b_K_type 49 = .ok (.if_icmp .lt 10, 3) := by decide +kernel
theorem d_K_type_52 : decode b_K_type 52 = .ok (.iload 5, 2) := by decide +kernel
theorem d_K_type_54 : decode b_K_type 54 = .ok (.bipush 126, 2) := by decide +kernel
theorem d_K_type_56 : decode b_K_type 56 = .ok (.if_icmp .le 5, 3) := by decide +kernel
theorem d_K_type_59 : decode b_K_type 59 = .ok (.iconst (-1), 1) := by decide +kernel
theorem d_K_type_60 : decode b_K_type 60 = .ok (.ireturn, 1) := by decide +kernel
theorem d_K_type_61 : decode b_K_type 61 = .ok (.iinc 4 1, 3) := by decide +kernel
theorem d_K_type_64 : decode b_K_type 64 = .ok (.goto (-33), 3) := by decide +kernel
theorem d_K_type_67 : decode b_K_type 67 = .ok (.iload_n 3, 1) := by decide +kernel
theorem d_K_type_68 : decode b_K_type 68 = .ok (.iconst 1, 1) := by decide +kernel
theorem d_K_type_69 : decode b_K_type 69 = .ok (.isub, 1) := by decide +kernel
theorem d_K_type_70 : decode b_K_type 70 = .ok (.istore 4, 2) := by decide +kernel
theorem d_K_type_72 : decode b_K_type 72 = .ok (.iload 4, 2) := by decide +kernel
theorem d_K_type_74 : decode b_K_type 74 = .ok (.ifCond .lt 23, 3) := by decide +kernel
theorem d_K_type_77 : decode b_K_type 77 = .ok (.aload_n 0, 1) := by decide +kernel
theorem d_K_type_78 : decode b_K_type 78 = .ok (.getfield 26, 3) := by decide +kernel
theorem d_K_type_81 : decode b_K_type 81 = .ok (.lload_n 1, 1) := by decide +kernel
theorem d_K_type_82 : decode b_K_type 82 = .ok (.iload 4, 2) := by decide +kernel
theorem d_K_type_84 : decode b_K_type 84 = .ok (.invokestatic 153, 3) := by decide +kernel
theorem d_K_type_87 : decode b_K_type 87 = .ok (.i2c, 1) := by decide +kernel
theorem d_K_type_88 : decode b_K_type 88 = .ok (.invokevirtual 141, 3) := by decide +kernel
theorem d_K_type_91 : decode b_K_type 91 = .ok (.iinc 4 (-1), 3) := by decide +kernel
theorem d_K_type_94 : decode b_K_type 94 = .ok (.goto (-22), 3) := by decide +kernel
theorem d_K_type_97 : decode b_K_type 97 = .ok (.aload_n 0, 1) := by decide +kernel
theorem d_K_type_98 : decode b_K_type 98 = .ok (.getfield 26, 3) := by decide +kernel
theorem d_K_type_101 : decode b_K_type 101 = .ok (.getfield 138, 3) := by decide +kernel
theorem d_K_type_104 : decode b_K_type 104 = .ok (.ireturn, 1) := by decide +kernel
theorem d_K_byteOf_0 : decode b_K_byteOf 0 = .ok (.lload_n 0, 1) := by decide +kernel
theorem d_K_byteOf_1 : decode b_K_byteOf 1 = .ok (.bipush 8, 2) := by decide +kernel
theorem d_K_byteOf_3 : decode b_K_byteOf 3 = .ok (.iload_n 2, 1) := by decide +kernel
theorem d_K_byteOf_4 : decode b_K_byteOf 4 = .ok (.imul, 1) := by decide +kernel
theorem d_K_byteOf_5 : decode b_K_byteOf 5 = .ok (.lushr, 1) := by decide +kernel
theorem d_K_byteOf_6 : decode b_K_byteOf 6 = .ok (.l2i, 1) := by decide +kernel
theorem d_K_byteOf_7 : decode b_K_byteOf 7 = .ok (.sipush 255, 3) := by decide +kernel
theorem d_K_byteOf_10 : decode b_K_byteOf 10 = .ok (.iand, 1) := by decide +kernel
theorem d_K_byteOf_11 : decode b_K_byteOf 11 = .ok (.ireturn, 1) := by decide +kernel
theorem d_T_put_0 : decode b_T_put 0 = .ok (.aload_n 0, 1) := by decide +kernel
theorem d_T_put_1 : decode b_T_put 1 = .ok (.getfield 15, 3) := by decide +kernel
theorem d_T_put_4 : decode b_T_put 4 = .ok (.aload_n 0, 1) := by decide +kernel
theorem d_T_put_5 : decode b_T_put 5 = .ok (.getfield 9, 3) := by decide +kernel
theorem d_T_put_8 : decode b_T_put 8 = .ok (.arraylength, 1) := by decide +kernel
theorem d_T_put_9 : decode b_T_put 9 = .ok (.if_icmp .ge 23, 3) := by decide +kernel
theorem d_T_put_12 : decode b_T_put 12 = .ok (.aload_n 0, 1) := by decide +kernel
theorem d_T_put_13 : decode b_T_put 13 = .ok (.getfield 9, 3) := by decide +kernel
theorem d_T_put_16 : decode b_T_put 16 = .ok (.aload_n 0, 1) := by decide +kernel
theorem d_T_put_17 : decode b_T_put 17 = .ok (.getfield 15, 3) := by decide +kernel
theorem d_T_put_20 : decode b_T_put 20 = .ok (.iload_n 1, 1) := by decide +kernel
theorem d_T_put_21 : decode b_T_put 21 = .ok (.castore, 1) := by decide +kernel
theorem d_T_put_22 : decode b_T_put 22 = .ok (.aload_n 0, 1) := by decide +kernel
theorem d_T_put_23 : decode b_T_put 23 = .ok (.dup, 1) := by decide +kernel
theorem d_T_put_24 : decode b_T_put 24 = .ok (.getfield 15, 3) := by decide +kernel
theorem d_T_put_27 : decode b_T_put 27 = .ok (.iconst 1, 1) := by decide +kernel
theorem d_T_put_28 : decode b_T_put 28 = .ok (.iadd, 1) := by decide +kernel
theorem d_T_put_29 : decode b_T_put 29 = .ok (.putfield 15, 3) := by decide +kernel
theorem d_T_put_32 : decode b_T_put 32 = .ok (.return_, 1) := by decide +kernel
theorem d_K_wipe_0 : decode b_K_wipe 0 = .ok (.aload_n 0, 1) := by decide +kernel
theorem d_K_wipe_1 : decode b_K_wipe 1 = .ok (.getfield 26, 3) := by decide +kernel
theorem d_K_wipe_4 : decode b_K_wipe 4 = .ok (.getfield 138, 3) := by decide +kernel
theorem d_K_wipe_7 : decode b_K_wipe 7 = .ok (.istore_n 1, 1) := by decide +kernel
theorem d_K_wipe_8 : decode b_K_wipe 8 = .ok (.aload_n 0, 1) := by decide +kernel
theorem d_K_wipe_9 : decode b_K_wipe 9 = .ok (.getfield 26, 3) := by decide +kernel
theorem d_K_wipe_12 : decode b_K_wipe 12 = .ok (.iconst 0, 1) := by decide +kernel
theorem d_K_wipe_13 : decode b_K_wipe 13 = .ok (.putfield 138, 3) := by decide +kernel
theorem d_K_wipe_16 : decode b_K_wipe 16 = .ok (.iload_n 1, 1) := by decide +kernel
theorem d_K_wipe_17 : decode b_K_wipe 17 = .ok (.ireturn, 1) := by decide +kernel
theorem d_K_character_0 : decode b_K_character 0 = .ok (.aload_n 0, 1) := by decide +kernel
theorem d_K_character_1 : decode b_K_character 1 = .ok (.getfield 26, 3) := by decide +kernel
theorem d_K_character_4 : decode b_K_character 4 = .ok (.iload_n 1, 1) := by decide +kernel
theorem d_K_character_5 : decode b_K_character 5 = .ok (.invokevirtual 157, 3) := by decide +kernel
theorem d_K_character_8 : decode b_K_character 8 = .ok (.ireturn, 1) := by decide +kernel
theorem d_T_at_0 : decode b_T_at 0 = .ok (.iload_n 1, 1) := by decide +kernel
theorem d_T_at_1 : decode b_T_at 1 = .ok (.ifCond .lt 20, 3) := by decide +kernel
theorem d_T_at_4 : decode b_T_at 4 = .ok (.iload_n 1, 1) := by decide +kernel
theorem d_T_at_5 : decode b_T_at 5 = .ok (.aload_n 0, 1) := by decide +kernel
theorem d_T_at_6 : decode b_T_at 6 = .ok (.getfield 15, 3) := by decide +kernel
theorem d_T_at_9 : decode b_T_at 9 = .ok (.if_icmp .ge 12, 3) := by decide +kernel
theorem d_T_at_12 : decode b_T_at 12 = .ok (.aload_n 0, 1) := by decide +kernel
theorem d_T_at_13 : decode b_T_at 13 = .ok (.getfield 9, 3) := by decide +kernel
theorem d_T_at_16 : decode b_T_at 16 = .ok (.iload_n 1, 1) := by decide +kernel
theorem d_T_at_17 : decode b_T_at 17 = .ok (.caload, 1) := by decide +kernel
theorem d_T_at_18 : decode b_T_at 18 = .ok (.goto 4, 3) := by decide +kernel
theorem d_T_at_21 : decode b_T_at 21 = .ok (.iconst (-1), 1) := by decide +kernel
theorem d_T_at_22 : decode b_T_at 22 = .ok (.ireturn, 1) := by decide +kernel
theorem d_K_place_0 : decode b_K_place 0 = .ok (.aload_n 0, 1) := by decide +kernel
theorem d_K_place_1 : decode b_K_place 1 = .ok (.getfield 30, 3) := by decide +kernel
theorem d_K_place_4 : decode b_K_place 4 = .ok (.ireturn, 1) := by decide +kernel
theorem d_L_set_0 : decode b_L_set 0 = .ok (.aload_n 0, 1) := by decide +kernel
theorem d_L_set_1 : decode b_L_set 1 = .ok (.iload_n 1, 1) := by decide +kernel
theorem d_L_set_2 : decode b_L_set 2 = .ok (.lload_n 2, 1) := by decide +kernel
theorem d_L_set_3 : decode b_L_set 3 = .ok (.lload 4, 2) := by decide +kernel
theorem d_L_set_5 : decode b_L_set 5 = .ok (.invokevirtual 7, 3) := by decide +kernel
theorem d_L_set_8 : decode b_L_set 8 = .ok (.goto 7, 3) := by decide +kernel
theorem d_L_set_11 : decode b_L_set 11 = .ok (.astore 6, 2) := by decide +kernel
theorem d_L_set_13 : decode b_L_set 13 = .ok (.iconst 1, 1) := by decide +kernel
theorem d_L_set_14 : decode b_L_set 14 = .ok (.ireturn, 1) := by decide +kernel
theorem d_L_set_15 : decode b_L_set 15 = .ok (.iconst 0, 1) := by decide +kernel
theorem d_L_set_16 : decode b_L_set 16 = .ok (.ireturn, 1) := by decide +kernel
theorem d_K_set_0 : decode b_K_set 0 = .ok (.aload_n 0, 1) := by decide +kernel
theorem d_K_set_1 : decode b_K_set 1 = .ok (.iload_n 1, 1) := by decide +kernel
theorem d_K_set_2 : decode b_K_set 2 = .ok (.invokevirtual 34, 3) := by decide +kernel
theorem d_K_set_5 : decode b_K_set 5 = .ok (.astore 6, 2) := by decide +kernel
theorem d_K_set_7 : decode b_K_set 7 = .ok (.lload 4, 2) := by decide +kernel
theorem d_K_set_9 : decode b_K_set 9 = .ok (.lconst 0, 1) := by decide +kernel
theorem d_K_set_10 : decode b_K_set 10 = .ok (.lcmp, 1) := by decide +kernel
theorem d_K_set_11 : decode b_K_set 11 = .ok (.ifCond .ne 13, 3) := by decide +kernel
theorem d_K_set_14 : decode b_K_set 14 = .ok (.new 38, 3) := by decide +kernel
theorem d_K_set_17 : decode b_K_set 17 = .ok (.dup, 1) := by decide +kernel
theorem d_K_set_18 : decode b_K_set 18 = .ok (.ldc 40, 2) := by decide +kernel
theorem d_K_set_20 : decode b_K_set 20 = .ok (.invokespecial 42, 3) := by decide +kernel
theorem d_K_set_23 : decode b_K_set 23 = .ok (.athrow, 1) := by decide +kernel
theorem d_K_set_24 : decode b_K_set 24 = .ok (.aload_n 0, 1) := by decide +kernel
theorem d_K_set_25 : decode b_K_set 25 = .ok (.getfield 19, 3) := by decide +kernel
theorem d_K_set_28 : decode b_K_set 28 = .ok (.lload_n 2, 1) := by decide +kernel
theorem d_K_set_29 : decode b_K_set 29 = .ok (.lload 4, 2) := by decide +kernel
theorem d_K_set_31 : decode b_K_set 31 = .ok (.invokevirtual 45, 3) := by decide +kernel
theorem d_K_set_34 : decode b_K_set 34 = .ok (.aload_n 0, 1) := by decide +kernel
theorem d_K_set_35 : decode b_K_set 35 = .ok (.getfield 19, 3) := by decide +kernel
theorem d_K_set_38 : decode b_K_set 38 = .ok (.aload 6, 2) := by decide +kernel
theorem d_K_set_40 : decode b_K_set 40 = .ok (.invokevirtual 49, 3) := by decide +kernel
theorem d_K_set_43 : decode b_K_set 43 = .ok (.pop, 1) := by decide +kernel
theorem d_K_set_44 : decode b_K_set 44 = .ok (.return_, 1) := by decide +kernel
theorem d_K_register_0 : decode b_K_register 0 = .ok (.iload_n 1, 1) := by decide +kernel
theorem d_K_register_1 : decode b_K_register 1 = .ok (.ifCond .lt 9, 3) := by decide +kernel
theorem d_K_register_4 : decode b_K_register 4 = .ok (.iload_n 1, 1) := by decide +kernel
theorem d_K_register_5 : decode b_K_register 5 = .ok (.bipush 16, 2) := by decide +kernel
theorem d_K_register_7 : decode b_K_register 7 = .ok (.if_icmp .lt 13, 3) := by decide +kernel
theorem d_K_register_10 : decode b_K_register 10 = .ok (.new 38, 3) := by decide +kernel
theorem d_K_register_13 : decode b_K_register 13 = .ok (.dup, 1) := by decide +kernel
theorem d_K_register_14 : decode b_K_register 14 = .ok (.ldc 173, 2) := by decide +kernel
theorem d_K_register_16 : decode b_K_register 16 = .ok (.invokespecial 42, 3) := by decide +kernel
theorem d_K_register_19 : decode b_K_register 19 = .ok (.athrow, 1) := by decide +kernel
theorem d_K_register_20 : decode b_K_register 20 = .ok (.aload_n 0, 1) := by decide +kernel
theorem d_K_register_21 : decode b_K_register 21 = .ok (.getfield 11, 3) := by decide +kernel
theorem d_K_register_24 : decode b_K_register 24 = .ok (.iload_n 1, 1) := by decide +kernel
theorem d_K_register_25 : decode b_K_register 25 = .ok (.aaload, 1) := by decide +kernel
theorem d_K_register_26 : decode b_K_register 26 = .ok (.areturn, 1) := by decide +kernel
theorem d_B_takeNumbers_0 : decode b_B_takeNumbers 0 = .ok (.aload_n 0, 1) := by decide +kernel
theorem d_B_takeNumbers_1 : decode b_B_takeNumbers 1 = .ok (.getfield 16, 3) := by decide +kernel
theorem d_B_takeNumbers_4 : decode b_B_takeNumbers 4 = .ok (.lload_n 1, 1) := by decide +kernel
theorem d_B_takeNumbers_5 : decode b_B_takeNumbers 5 = .ok (.invokestatic 77, 3) := by decide +kernel
theorem d_B_takeNumbers_8 : decode b_B_takeNumbers 8 = .ok (.invokevirtual 83, 3) := by decide +kernel
theorem d_B_takeNumbers_11 : decode b_B_takeNumbers 11 = .ok (.aload_n 0, 1) := by decide +kernel
theorem d_B_takeNumbers_12 : decode b_B_takeNumbers 12 = .ok (.getfield 20, 3) := by decide +kernel
theorem d_B_takeNumbers_15 : decode b_B_takeNumbers 15 = .ok (.lload_n 3, 1) := by decide +kernel
theorem d_B_takeNumbers_16 : decode b_B_takeNumbers 16 = .ok (.invokestatic 77, 3) := by decide +kernel
theorem d_B_takeNumbers_19 : decode b_B_takeNumbers 19 = .ok (.invokevirtual 83, 3) := by decide +kernel
theorem d_B_takeNumbers_22 : decode b_B_takeNumbers 22 = .ok (.aload_n 0, 1) := by decide +kernel
theorem d_B_takeNumbers_23 : decode b_B_takeNumbers 23 = .ok (.lload_n 1, 1) := by decide +kernel
theorem d_B_takeNumbers_24 : decode b_B_takeNumbers 24 = .ok (.lconst 0, 1) := by decide +kernel
theorem d_B_takeNumbers_25 : decode b_B_takeNumbers 25 = .ok (.lcmp, 1) := by decide +kernel
theorem d_B_takeNumbers_26 : decode b_B_takeNumbers 26 = .ok (.ifCond .ge 7, 3) := by decide +kernel
theorem d_B_takeNumbers_29 : decode b_B_takeNumbers 29 = .ok (.iconst 1, 1) := by decide +kernel
theorem d_B_takeNumbers_30 : decode b_B_takeNumbers 30 = .ok (.goto 4, 3) := by decide +kernel
theorem d_B_takeNumbers_33 : decode b_B_takeNumbers 33 = .ok (.iconst 0, 1) := by decide +kernel
theorem d_B_takeNumbers_34 : decode b_B_takeNumbers 34 = .ok (.lload_n 3, 1) := by decide +kernel
theorem d_B_takeNumbers_35 : decode b_B_takeNumbers 35 = .ok (.lconst 0, 1) := by decide +kernel
theorem d_B_takeNumbers_36 : decode b_B_takeNumbers 36 = .ok (.lcmp, 1) := by decide +kernel
theorem d_B_takeNumbers_37 : decode b_B_takeNumbers 37 = .ok (.ifCond .ge 7, 3) := by decide +kernel
theorem d_B_takeNumbers_40 : decode b_B_takeNumbers 40 = .ok (.iconst 1, 1) := by decide +kernel
theorem d_B_takeNumbers_41 : decode b_B_takeNumbers 41 = .ok (.goto 4, 3) := by decide +kernel
theorem d_B_takeNumbers_44 : decode b_B_takeNumbers 44 = .ok (.iconst 0, 1) := by decide +kernel
theorem d_B_takeNumbers_45 : decode b_B_takeNumbers 45 = .ok (.if_icmp .eq 7, 3) := by decide +kernel
theorem d_B_takeNumbers_48 : decode b_B_takeNumbers 48 = .ok (.iconst 1, 1) := by decide +kernel
theorem d_B_takeNumbers_49 : decode b_B_takeNumbers 49 = .ok (.goto 4, 3) := by decide +kernel
theorem d_B_takeNumbers_52 : decode b_B_takeNumbers 52 = .ok (.iconst 0, 1) := by decide +kernel
theorem d_B_takeNumbers_53 : decode b_B_takeNumbers 53 = .ok (.putfield 39, 3) := by decide +kernel
theorem d_B_takeNumbers_56 : decode b_B_takeNumbers 56 = .ok (.return_, 1) := by decide +kernel
theorem d_JM_abs_0 : decode b_JM_abs 0 = .ok (.lload_n 0, 1) := by decide +kernel
theorem d_JM_abs_1 : decode b_JM_abs 1 = .ok (.lconst 0, 1) := by decide +kernel
theorem d_JM_abs_2 : decode b_JM_abs 2 = .ok (.lcmp, 1) := by decide +kernel
theorem d_JM_abs_3 : decode b_JM_abs 3 = .ok (.ifCond .ge 8, 3) := by decide +kernel
theorem d_JM_abs_6 : decode b_JM_abs 6 = .ok (.lload_n 0, 1) := by decide +kernel
theorem d_JM_abs_7 : decode b_JM_abs 7 = .ok (.lneg, 1) := by decide +kernel
theorem d_JM_abs_8 : decode b_JM_abs 8 = .ok (.goto 4, 3) := by decide +kernel
theorem d_JM_abs_11 : decode b_JM_abs 11 = .ok (.lload_n 0, 1) := by decide +kernel
theorem d_JM_abs_12 : decode b_JM_abs 12 = .ok (.lreturn, 1) := by decide +kernel
theorem d_B_keepReduced_0 : decode b_B_keepReduced 0 = .ok (.aload_n 0, 1) := by decide +kernel
theorem d_B_keepReduced_1 : decode b_B_keepReduced 1 = .ok (.getfield 20, 3) := by decide +kernel
theorem d_B_keepReduced_4 : decode b_B_keepReduced 4 = .ok (.invokevirtual 43, 3) := by decide +kernel
theorem d_B_keepReduced_7 : decode b_B_keepReduced 7 = .ok (.ifCond .ne 59, 3) := by decide +kernel
theorem d_B_keepReduced_10 : decode b_B_keepReduced 10 = .ok (.aload_n 0, 1) := by decide +kernel
theorem d_B_keepReduced_11 : decode b_B_keepReduced 11 = .ok (.getfield 23, 3) := by decide +kernel
theorem d_B_keepReduced_14 : decode b_B_keepReduced 14 = .ok (.aload_n 0, 1) := by decide +kernel
theorem d_B_keepReduced_15 : decode b_B_keepReduced 15 = .ok (.getfield 16, 3) := by decide +kernel
theorem d_B_keepReduced_18 : decode b_B_keepReduced 18 = .ok (.invokevirtual 47, 3) := by decide +kernel
theorem d_B_keepReduced_21 : decode b_B_keepReduced 21 = .ok (.aload_n 0, 1) := by decide +kernel
theorem d_B_keepReduced_22 : decode b_B_keepReduced 22 = .ok (.getfield 26, 3) := by decide +kernel
theorem d_B_keepReduced_25 : decode b_B_keepReduced 25 = .ok (.aload_n 0, 1) := by decide +kernel
theorem d_B_keepReduced_26 : decode b_B_keepReduced 26 = .ok (.getfield 20, 3) := by decide +kernel
theorem d_B_keepReduced_29 : decode b_B_keepReduced 29 = .ok (.invokevirtual 47, 3) := by decide +kernel
theorem d_B_keepReduced_32 : decode b_B_keepReduced 32 = .ok (.aload_n 0, 1) := by decide +kernel
theorem d_B_keepReduced_33 : decode b_B_keepReduced 33 = .ok (.getfield 35, 3) := by decide +kernel
theorem d_B_keepReduced_36 : decode b_B_keepReduced 36 = .ok (.aload_n 0, 1) := by decide +kernel
theorem d_B_keepReduced_37 : decode b_B_keepReduced 37 = .ok (.getfield 23, 3) := by decide +kernel
theorem d_B_keepReduced_40 : decode b_B_keepReduced 40 = .ok (.aload_n 0, 1) := by decide +kernel
theorem d_B_keepReduced_41 : decode b_B_keepReduced 41 = .ok (.getfield 26, 3) := by decide +kernel
theorem d_B_keepReduced_44 : decode b_B_keepReduced 44 = .ok (.invokevirtual 51, 3) := by decide +kernel
theorem d_B_keepReduced_47 : decode b_B_keepReduced 47 = .ok (.astore_n 2, 1) := by decide +kernel
theorem d_B_keepReduced_48 : decode b_B_keepReduced 48 = .ok (.aload_n 0, 1) := by decide +kernel
theorem d_B_keepReduced_49 : decode b_B_keepReduced 49 = .ok (.aload_n 0, 1) := by decide +kernel
theorem d_B_keepReduced_50 : decode b_B_keepReduced 50 = .ok (.getfield 16, 3) := by decide +kernel
theorem d_B_keepReduced_53 : decode b_B_keepReduced 53 = .ok (.aload_n 2, 1) := by decide +kernel
theorem d_B_keepReduced_54 : decode b_B_keepReduced 54 = .ok (.invokevirtual 55, 3) := by decide +kernel
theorem d_B_keepReduced_57 : decode b_B_keepReduced 57 = .ok (.aload_n 0, 1) := by decide +kernel
theorem d_B_keepReduced_58 : decode b_B_keepReduced 58 = .ok (.aload_n 0, 1) := by decide +kernel
theorem d_B_keepReduced_59 : decode b_B_keepReduced 59 = .ok (.getfield 20, 3) := by decide +kernel
theorem d_B_keepReduced_62 : decode b_B_keepReduced 62 = .ok (.aload_n 2, 1) := by decide +kernel
theorem d_B_keepReduced_63 : decode b_B_keepReduced 63 = .ok (.invokevirtual 55, 3) := by decide +kernel
theorem d_B_keepReduced_66 : decode b_B_keepReduced 66 = .ok (.aload_n 0, 1) := by decide +kernel
theorem d_B_keepReduced_67 : decode b_B_keepReduced 67 = .ok (.aload_n 1, 1) := by decide +kernel
theorem d_B_keepReduced_68 : decode b_B_keepReduced 68 = .ok (.invokevirtual 59, 3) := by decide +kernel
theorem d_B_keepReduced_71 : decode b_B_keepReduced 71 = .ok (.ireturn, 1) := by decide +kernel
theorem d_W_isOne_0 : decode b_W_isOne 0 = .ok (.aload_n 0, 1) := by decide +kernel
theorem d_W_isOne_1 : decode b_W_isOne 1 = .ok (.getfield 21, 3) := by decide +kernel
theorem d_W_isOne_4 : decode b_W_isOne 4 = .ok (.iconst 1, 1) := by decide +kernel
theorem d_W_isOne_5 : decode b_W_isOne 5 = .ok (.if_icmp .ne 17, 3) := by decide +kernel
theorem d_W_isOne_8 : decode b_W_isOne 8 = .ok (.aload_n 0, 1) := by decide +kernel
theorem d_W_isOne_9 : decode b_W_isOne 9 = .ok (.getfield 17, 3) := by decide +kernel
theorem d_W_isOne_12 : decode b_W_isOne 12 = .ok (.iconst 0, 1) := by decide +kernel
theorem d_W_isOne_13 : decode b_W_isOne 13 = .ok (.iaload, 1) := by decide +kernel
theorem d_W_isOne_14 : decode b_W_isOne 14 = .ok (.iconst 1, 1) := by decide +kernel
theorem d_W_isOne_15 : decode b_W_isOne 15 = .ok (.if_icmp .ne 7, 3) := by decide +kernel
theorem d_W_isOne_18 : decode b_W_isOne 18 = .ok (.iconst 1, 1) := by decide +kernel
theorem d_W_isOne_19 : decode b_W_isOne 19 = .ok (.goto 4, 3) := by decide +kernel
theorem d_W_isOne_22 : decode b_W_isOne 22 = .ok (.iconst 0, 1) := by decide +kernel
theorem d_W_isOne_23 : decode b_W_isOne 23 = .ok (.ireturn, 1) := by decide +kernel
theorem d_W_become_0 : decode b_W_become 0 = .ok (.aload_n 1, 1) := by decide +kernel
theorem d_W_become_1 : decode b_W_become 1 = .ok (.getfield 21, 3) := by decide +kernel
theorem d_W_become_4 : decode b_W_become 4 = .ok (.aload_n 0, 1) := by decide +kernel
theorem d_W_become_5 : decode b_W_become 5 = .ok (.getfield 17, 3) := by decide +kernel
theorem d_W_become_8 : decode b_W_become 8 = .ok (.arraylength, 1) := by decide +kernel
theorem d_W_become_9 : decode b_W_become 9 = .ok (.invokestatic 45, 3) := by decide +kernel
theorem d_W_become_12 : decode b_W_become 12 = .ok (.istore_n 2, 1) := by decide +kernel
theorem d_W_become_13 : decode b_W_become 13 = .ok (.aload_n 1, 1) := by decide +kernel
theorem d_W_become_14 : decode b_W_become 14 = .ok (.getfield 17, 3) := by decide +kernel
theorem d_W_become_17 : decode b_W_become 17 = .ok (.iconst 0, 1) := by decide +kernel
theorem d_W_become_18 : decode b_W_become 18 = .ok (.aload_n 0, 1) := by decide +kernel
theorem d_W_become_19 : decode b_W_become 19 = .ok (.getfield 17, 3) := by decide +kernel
theorem d_W_become_22 : decode b_W_become 22 = .ok (.iconst 0, 1) := by decide +kernel
theorem d_W_become_23 : decode b_W_become 23 = .ok (.iload_n 2, 1) := by decide +kernel
theorem d_W_become_24 : decode b_W_become 24 = .ok (.invokestatic 52, 3) := by decide +kernel
theorem d_W_become_27 : decode b_W_become 27 = .ok (.aload_n 0, 1) := by decide +kernel
theorem d_W_become_28 : decode b_W_become 28 = .ok (.iload_n 2, 1) := by decide +kernel
theorem d_W_become_29 : decode b_W_become 29 = .ok (.invokevirtual 48, 3) := by decide +kernel
theorem d_W_become_32 : decode b_W_become 32 = .ok (.return_, 1) := by decide +kernel
theorem d_D_greatestCommon_0 : decode b_D_greatestCommon 0 = .ok (.aload_n 1, 1) := by decide +kernel
theorem d_D_greatestCommon_1 : decode b_D_greatestCommon 1 = .ok (.aload_n 2, 1) := by decide +kernel
theorem d_D_greatestCommon_2 : decode b_D_greatestCommon 2 = .ok (.invokestatic 20, 3) := by decide +kernel
theorem d_D_greatestCommon_5 : decode b_D_greatestCommon 5 = .ok (.ifCond .lt 7, 3) := by decide +kernel
theorem d_D_greatestCommon_8 : decode b_D_greatestCommon 8 = .ok (.iconst 1, 1) := by decide +kernel
theorem d_D_greatestCommon_9 : decode b_D_greatestCommon 9 = .ok (.goto 4, 3) := by decide +kernel
theorem d_D_greatestCommon_12 : decode b_D_greatestCommon 12 = .ok (.iconst 0, 1) := by decide +kernel
theorem d_D_greatestCommon_13 : decode b_D_greatestCommon 13 = .ok (.istore_n 3, 1) := by decide +kernel
theorem d_D_greatestCommon_14 : decode b_D_greatestCommon 14 = .ok (.iload_n 3, 1) := by decide +kernel
theorem d_D_greatestCommon_15 : decode b_D_greatestCommon 15 = .ok (.ifCond .eq 7, 3) := by decide +kernel
theorem d_D_greatestCommon_18 : decode b_D_greatestCommon 18 = .ok (.aload_n 1, 1) := by decide +kernel
theorem d_D_greatestCommon_19 : decode b_D_greatestCommon 19 = .ok (.goto 4, 3) := by decide +kernel
theorem d_D_greatestCommon_22 : decode b_D_greatestCommon 22 = .ok (.aload_n 2, 1) := by decide +kernel
theorem d_D_greatestCommon_23 : decode b_D_greatestCommon 23 = .ok (.astore 4, 2) := by decide +kernel
theorem d_D_greatestCommon_25 : decode b_D_greatestCommon 25 = .ok (.iload_n 3, 1) := by decide +kernel
theorem d_D_greatestCommon_26 : decode b_D_greatestCommon 26 = .ok (.ifCond .eq 7, 3) := by decide +kernel
theorem d_D_greatestCommon_29 : decode b_D_greatestCommon 29 = .ok (.aload_n 2, 1) := by decide +kernel
theorem d_D_greatestCommon_30 : decode b_D_greatestCommon 30 = .ok (.goto 4, 3) := by decide +kernel
theorem d_D_greatestCommon_33 : decode b_D_greatestCommon 33 = .ok (.aload_n 1, 1) := by decide +kernel
theorem d_D_greatestCommon_34 : decode b_D_greatestCommon 34 = .ok (.astore 5, 2) := by decide +kernel
theorem d_D_greatestCommon_36 : decode b_D_greatestCommon 36 = .ok (.iconst 0, 1) := by decide +kernel
theorem d_D_greatestCommon_37 : decode b_D_greatestCommon 37 = .ok (.istore 6, 2) := by decide +kernel
theorem d_D_greatestCommon_39 : decode b_D_greatestCommon 39 = .ok (.iload 6, 2) := by decide +kernel
theorem d_D_greatestCommon_41 : decode b_D_greatestCommon 41 = .ok (.sipush 6200, 3) := by decide +kernel
theorem d_D_greatestCommon_44 : decode b_D_greatestCommon 44 = .ok (.if_icmp .ge 99, 3) := by decide +kernel
theorem d_D_greatestCommon_47 : decode b_D_greatestCommon 47 = .ok (.aload 5, 2) := by decide +kernel
theorem d_D_greatestCommon_49 : decode b_D_greatestCommon 49 = .ok (.invokevirtual 24, 3) := by decide +kernel
theorem d_D_greatestCommon_52 : decode b_D_greatestCommon 52 = .ok (.ifCond .ne 91, 3) := by decide +kernel
theorem d_D_greatestCommon_55 : decode b_D_greatestCommon 55 = .ok (.aload_n 0, 1) := by decide +kernel
theorem d_D_greatestCommon_56 : decode b_D_greatestCommon 56 = .ok (.aload 4, 2) := by decide +kernel
theorem d_D_greatestCommon_58 : decode b_D_greatestCommon 58 = .ok (.aload 5, 2) := by decide +kernel
theorem d_D_greatestCommon_60 : decode b_D_greatestCommon 60 = .ok (.invokevirtual 28, 3) := by decide +kernel
theorem d_D_greatestCommon_63 : decode b_D_greatestCommon 63 = .ok (.ifCond .eq 51, 3) := by decide +kernel
theorem d_D_greatestCommon_66 : decode b_D_greatestCommon 66 = .ok (.aload_n 0, 1) := by decide +kernel
theorem d_D_greatestCommon_67 : decode b_D_greatestCommon 67 = .ok (.getfield 14, 3) := by decide +kernel
theorem d_D_greatestCommon_70 : decode b_D_greatestCommon 70 = .ok (.aload_n 0, 1) := by decide +kernel
theorem d_D_greatestCommon_71 : decode b_D_greatestCommon 71 = .ok (.getfield 32, 3) := by decide +kernel
theorem d_D_greatestCommon_74 : decode b_D_greatestCommon 74 = .ok (.aload 4, 2) := by decide +kernel
theorem d_D_greatestCommon_76 : decode b_D_greatestCommon 76 = .ok (.aload_n 0, 1) := by decide +kernel
theorem d_D_greatestCommon_77 : decode b_D_greatestCommon 77 = .ok (.getfield 36, 3) := by decide +kernel
theorem d_D_greatestCommon_80 : decode b_D_greatestCommon 80 = .ok (.aload 5, 2) := by decide +kernel
theorem d_D_greatestCommon_82 : decode b_D_greatestCommon 82 = .ok (.invokevirtual 39, 3) := by decide +kernel
theorem d_D_greatestCommon_85 : decode b_D_greatestCommon 85 = .ok (.aload 5, 2) := by decide +kernel
theorem d_D_greatestCommon_87 : decode b_D_greatestCommon 87 = .ok (.aload_n 0, 1) := by decide +kernel
theorem d_D_greatestCommon_88 : decode b_D_greatestCommon 88 = .ok (.getfield 43, 3) := by decide +kernel
theorem d_D_greatestCommon_91 : decode b_D_greatestCommon 91 = .ok (.aload 4, 2) := by decide +kernel
theorem d_D_greatestCommon_93 : decode b_D_greatestCommon 93 = .ok (.aload_n 0, 1) := by decide +kernel
theorem d_D_greatestCommon_94 : decode b_D_greatestCommon 94 = .ok (.getfield 46, 3) := by decide +kernel
theorem d_D_greatestCommon_97 : decode b_D_greatestCommon 97 = .ok (.aload 5, 2) := by decide +kernel
theorem d_D_greatestCommon_99 : decode b_D_greatestCommon 99 = .ok (.invokevirtual 39, 3) := by decide +kernel
theorem d_D_greatestCommon_102 : decode b_D_greatestCommon 102 = .ok (.aload 4, 2) := by decide +kernel
theorem d_D_greatestCommon_104 : decode b_D_greatestCommon 104 = .ok (.aload_n 0, 1) := by decide +kernel
theorem d_D_greatestCommon_105 : decode b_D_greatestCommon 105 = .ok (.getfield 14, 3) := by decide +kernel
theorem d_D_greatestCommon_108 : decode b_D_greatestCommon 108 = .ok (.invokevirtual 49, 3) := by decide +kernel
theorem d_D_greatestCommon_111 : decode b_D_greatestCommon 111 = .ok (.goto 26, 3) := by decide +kernel
theorem d_D_greatestCommon_114 : decode b_D_greatestCommon 114 = .ok (.aload 4, 2) := by decide +kernel
theorem d_D_greatestCommon_116 : decode b_D_greatestCommon 116 = .ok (.aload 5, 2) := by decide +kernel
theorem d_D_greatestCommon_118 : decode b_D_greatestCommon 118 = .ok (.aload_n 0, 1) := by decide +kernel
theorem d_D_greatestCommon_119 : decode b_D_greatestCommon 119 = .ok (.getfield 14, 3) := by decide +kernel
theorem d_D_greatestCommon_122 : decode b_D_greatestCommon 122 = .ok (.invokevirtual 53, 3) := by decide +kernel
theorem d_D_greatestCommon_125 : decode b_D_greatestCommon 125 = .ok (.aload 4, 2) := by decide +kernel
theorem d_D_greatestCommon_127 : decode b_D_greatestCommon 127 = .ok (.astore 7, 2) := by decide +kernel
theorem d_D_greatestCommon_129 : decode b_D_greatestCommon 129 = .ok (.aload 5, 2) := by decide +kernel
theorem d_D_greatestCommon_131 : decode b_D_greatestCommon 131 = .ok (.astore 4, 2) := by decide +kernel
theorem d_D_greatestCommon_133 : decode b_D_greatestCommon 133 = .ok (.aload 7, 2) := by decide +kernel
theorem d_D_greatestCommon_135 : decode b_D_greatestCommon 135 = .ok (.astore 5, 2) := by decide +kernel
theorem d_D_greatestCommon_137 : decode b_D_greatestCommon 137 = .ok (.iinc 6 1, 3) := by decide +kernel
theorem d_D_greatestCommon_140 : decode b_D_greatestCommon 140 = .ok (.goto (-101), 3) := by decide +kernel
theorem d_D_greatestCommon_143 : decode b_D_greatestCommon 143 = .ok (.aload 4, 2) := by decide +kernel
theorem d_D_greatestCommon_145 : decode b_D_greatestCommon 145 = .ok (.areturn, 1) := by decide +kernel
theorem d_W_compare_0 : decode b_W_compare 0 = .ok (.aload_n 0, 1) := by decide +kernel
theorem d_W_compare_1 : decode b_W_compare 1 = .ok (.getfield 21, 3) := by decide +kernel
theorem d_W_compare_4 : decode b_W_compare 4 = .ok (.aload_n 1, 1) := by decide +kernel
theorem d_W_compare_5 : decode b_W_compare 5 = .ok (.getfield 21, 3) := by decide +kernel
theorem d_W_compare_8 : decode b_W_compare 8 = .ok (.if_icmp .eq 20, 3) := by decide +kernel
theorem d_W_compare_11 : decode b_W_compare 11 = .ok (.aload_n 0, 1) := by decide +kernel
theorem d_W_compare_12 : decode b_W_compare 12 = .ok (.getfield 21, 3) := by decide +kernel
theorem d_W_compare_15 : decode b_W_compare 15 = .ok (.aload_n 1, 1) := by decide +kernel
theorem d_W_compare_16 : decode b_W_compare 16 = .ok (.getfield 21, 3) := by decide +kernel
theorem d_W_compare_19 : decode b_W_compare 19 = .ok (.if_icmp .ge 7, 3) := by decide +kernel
theorem d_W_compare_22 : decode b_W_compare 22 = .ok (.iconst (-1), 1) := by decide +kernel
theorem d_W_compare_23 : decode b_W_compare 23 = .ok (.goto 4, 3) := by decide +kernel
theorem d_W_compare_26 : decode b_W_compare 26 = .ok (.iconst 1, 1) := by decide +kernel
theorem d_W_compare_27 : decode b_W_compare 27 = .ok (.ireturn, 1) := by decide +kernel
theorem d_W_compare_28 : decode b_W_compare 28 = .ok (.aload_n 0, 1) := by decide +kernel
theorem d_W_compare_29 : decode b_W_compare 29 = .ok (.getfield 21, 3) := by decide +kernel
theorem d_W_compare_32 : decode b_W_compare 32 = .ok (.iconst 1, 1) := by decide +kernel
theorem d_W_compare_33 : decode b_W_compare 33 = .ok (.isub, 1) := by decide +kernel
theorem d_W_compare_34 : decode b_W_compare 34 = .ok (.istore_n 2, 1) := by decide +kernel
theorem d_W_compare_35 : decode b_W_compare 35 = .ok (.iload_n 2, 1) := by decide +kernel
theorem d_W_compare_36 : decode b_W_compare 36 = .ok (.ifCond .lt 45, 3) := by decide +kernel
theorem d_W_compare_39 : decode b_W_compare 39 = .ok (.aload_n 0, 1) := by decide +kernel
theorem d_W_compare_40 : decode b_W_compare 40 = .ok (.getfield 17, 3) := by decide +kernel
theorem d_W_compare_43 : decode b_W_compare 43 = .ok (.iload_n 2, 1) := by decide +kernel
theorem d_W_compare_44 : decode b_W_compare 44 = .ok (.iaload, 1) := by decide +kernel
theorem d_W_compare_45 : decode b_W_compare 45 = .ok (.aload_n 1, 1) := by decide +kernel
theorem d_W_compare_46 : decode b_W_compare 46 = .ok (.getfield 17, 3) := by decide +kernel
theorem d_W_compare_49 : decode b_W_compare 49 = .ok (.iload_n 2, 1) := by decide +kernel
theorem d_W_compare_50 : decode b_W_compare 50 = .ok (.iaload, 1) := by decide +kernel
theorem d_W_compare_51 : decode b_W_compare 51 = .ok (.if_icmp .eq 24, 3) := by decide +kernel
theorem d_W_compare_54 : decode b_W_compare 54 = .ok (.aload_n 0, 1) := by decide +kernel
theorem d_W_compare_55 : decode b_W_compare 55 = .ok (.getfield 17, 3) := by decide +kernel
theorem d_W_compare_58 : decode b_W_compare 58 = .ok (.iload_n 2, 1) := by decide +kernel
theorem d_W_compare_59 : decode b_W_compare 59 = .ok (.iaload, 1) := by decide +kernel
theorem d_W_compare_60 : decode b_W_compare 60 = .ok (.aload_n 1, 1) := by decide +kernel
theorem d_W_compare_61 : decode b_W_compare 61 = .ok (.getfield 17, 3) := by decide +kernel
theorem d_W_compare_64 : decode b_W_compare 64 = .ok (.iload_n 2, 1) := by decide +kernel
theorem d_W_compare_65 : decode b_W_compare 65 = .ok (.iaload, 1) := by decide +kernel
theorem d_W_compare_66 : decode b_W_compare 66 = .ok (.if_icmp .ge 7, 3) := by decide +kernel
theorem d_W_compare_69 : decode b_W_compare 69 = .ok (.iconst (-1), 1) := by decide +kernel
theorem d_W_compare_70 : decode b_W_compare 70 = .ok (.goto 4, 3) := by decide +kernel
theorem d_W_compare_73 : decode b_W_compare 73 = .ok (.iconst 1, 1) := by decide +kernel
theorem d_W_compare_74 : decode b_W_compare 74 = .ok (.ireturn, 1) := by decide +kernel
theorem d_W_compare_75 : decode b_W_compare 75 = .ok (.iinc 2 (-1), 3) := by decide +kernel
theorem d_W_compare_78 : decode b_W_compare 78 = .ok (.goto (-43), 3) := by decide +kernel
theorem d_W_compare_81 : decode b_W_compare 81 = .ok (.iconst 0, 1) := by decide +kernel
theorem d_W_compare_82 : decode b_W_compare 82 = .ok (.ireturn, 1) := by decide +kernel
theorem d_W_isZero_0 : decode b_W_isZero 0 = .ok (.aload_n 0, 1) := by decide +kernel
theorem d_W_isZero_1 : decode b_W_isZero 1 = .ok (.getfield 21, 3) := by decide +kernel
theorem d_W_isZero_4 : decode b_W_isZero 4 = .ok (.ifCond .ne 7, 3) := by decide +kernel
theorem d_W_isZero_7 : decode b_W_isZero 7 = .ok (.iconst 1, 1) := by decide +kernel
theorem d_W_isZero_8 : decode b_W_isZero 8 = .ok (.goto 4, 3) := by decide +kernel
theorem d_W_isZero_11 : decode b_W_isZero 11 = .ok (.iconst 0, 1) := by decide +kernel
theorem d_W_isZero_12 : decode b_W_isZero 12 = .ok (.ireturn, 1) := by decide +kernel
theorem d_D_findLeap_0 : decode b_D_findLeap 0 = .ok (.aload_n 0, 1) := by decide +kernel
theorem d_D_findLeap_1 : decode b_D_findLeap 1 = .ok (.lconst 1, 1) := by decide +kernel
theorem d_D_findLeap_2 : decode b_D_findLeap 2 = .ok (.putfield 32, 3) := by decide +kernel
theorem d_D_findLeap_5 : decode b_D_findLeap 5 = .ok (.aload_n 0, 1) := by decide +kernel
theorem d_D_findLeap_6 : decode b_D_findLeap 6 = .ok (.lconst 0, 1) := by decide +kernel
theorem d_D_findLeap_7 : decode b_D_findLeap 7 = .ok (.putfield 36, 3) := by decide +kernel
theorem d_D_findLeap_10 : decode b_D_findLeap 10 = .ok (.aload_n 0, 1) := by decide +kernel
theorem d_D_findLeap_11 : decode b_D_findLeap 11 = .ok (.lconst 0, 1) := by decide +kernel
theorem d_D_findLeap_12 : decode b_D_findLeap 12 = .ok (.putfield 43, 3) := by decide +kernel
theorem d_D_findLeap_15 : decode b_D_findLeap 15 = .ok (.aload_n 0, 1) := by decide +kernel
theorem d_D_findLeap_16 : decode b_D_findLeap 16 = .ok (.lconst 1, 1) := by decide +kernel
theorem d_D_findLeap_17 : decode b_D_findLeap 17 = .ok (.putfield 46, 3) := by decide +kernel
theorem d_D_findLeap_20 : decode b_D_findLeap 20 = .ok (.aload_n 1, 1) := by decide +kernel
theorem d_D_findLeap_21 : decode b_D_findLeap 21 = .ok (.invokevirtual 57, 3) := by decide +kernel
theorem d_D_findLeap_24 : decode b_D_findLeap 24 = .ok (.istore_n 3, 1) := by decide +kernel
theorem d_D_findLeap_25 : decode b_D_findLeap 25 = .ok (.aload_n 1, 1) := by decide +kernel
theorem d_D_findLeap_26 : decode b_D_findLeap 26 = .ok (.aload_n 1, 1) := by decide +kernel
theorem d_D_findLeap_27 : decode b_D_findLeap 27 = .ok (.getfield 61, 3) := by decide +kernel
theorem d_D_findLeap_30 : decode b_D_findLeap 30 = .ok (.iload_n 3, 1) := by decide +kernel
theorem d_D_findLeap_31 : decode b_D_findLeap 31 = .ok (.invokestatic 65, 3) := by decide +kernel
theorem d_D_findLeap_34 : decode b_D_findLeap 34 = .ok (.lstore 4, 2) := by decide +kernel
theorem d_D_findLeap_36 : decode b_D_findLeap 36 = .ok (.aload_n 2, 1) := by decide +kernel
theorem d_D_findLeap_37 : decode b_D_findLeap 37 = .ok (.aload_n 1, 1) := by decide +kernel
theorem d_D_findLeap_38 : decode b_D_findLeap 38 = .ok (.getfield 61, 3) := by decide +kernel
theorem d_D_findLeap_41 : decode b_D_findLeap 41 = .ok (.iload_n 3, 1) := by decide +kernel
theorem d_D_findLeap_42 : decode b_D_findLeap 42 = .ok (.invokestatic 65, 3) := by decide +kernel
theorem d_D_findLeap_45 : decode b_D_findLeap 45 = .ok (.lstore 6, 2) := by decide +kernel
theorem d_D_findLeap_47 : decode b_D_findLeap 47 = .ok (.iconst 0, 1) := by decide +kernel
theorem d_D_findLeap_48 : decode b_D_findLeap 48 = .ok (.istore 8, 2) := by decide +kernel
theorem d_D_findLeap_50 : decode b_D_findLeap 50 = .ok (.iload 8, 2) := by decide +kernel
theorem d_D_findLeap_52 : decode b_D_findLeap 52 = .ok (.bipush 64, 2) := by decide +kernel
theorem d_D_findLeap_54 : decode b_D_findLeap 54 = .ok (.if_icmp .ge 184, 3) := by decide +kernel
theorem d_D_findLeap_57 : decode b_D_findLeap 57 = .ok (.lload 6, 2) := by decide +kernel
theorem d_D_findLeap_59 : decode b_D_findLeap 59 = .ok (.aload_n 0, 1) := by decide +kernel
theorem d_D_findLeap_60 : decode b_D_findLeap 60 = .ok (.getfield 43, 3) := by decide +kernel
theorem d_D_findLeap_63 : decode b_D_findLeap 63 = .ok (.ladd, 1) := by decide +kernel
theorem d_D_findLeap_64 : decode b_D_findLeap 64 = .ok (.lconst 0, 1) := by decide +kernel
theorem d_D_findLeap_65 : decode b_D_findLeap 65 = .ok (.lcmp, 1) := by decide +kernel
theorem d_D_findLeap_66 : decode b_D_findLeap 66 = .ok (.ifCond .le 172, 3) := by decide +kernel
theorem d_D_findLeap_69 : decode b_D_findLeap 69 = .ok (.lload 6, 2) := by decide +kernel
theorem d_D_findLeap_71 : decode b_D_findLeap 71 = .ok (.aload_n 0, 1) := by decide +kernel
theorem d_D_findLeap_72 : decode b_D_findLeap 72 = .ok (.getfield 46, 3) := by decide +kernel
theorem d_D_findLeap_75 : decode b_D_findLeap 75 = .ok (.ladd, 1) := by decide +kernel
theorem d_D_findLeap_76 : decode b_D_findLeap 76 = .ok (.lconst 0, 1) := by decide +kernel
theorem d_D_findLeap_77 : decode b_D_findLeap 77 = .ok (.lcmp, 1) := by decide +kernel
theorem d_D_findLeap_78 : decode b_D_findLeap 78 = .ok (.ifCond .le 160, 3) := by decide +kernel
theorem d_D_findLeap_81 : decode b_D_findLeap 81 = .ok (.lload 4, 2) := by decide +kernel
theorem d_D_findLeap_83 : decode b_D_findLeap 83 = .ok (.aload_n 0, 1) := by decide +kernel
theorem d_D_findLeap_84 : decode b_D_findLeap 84 = .ok (.getfield 32, 3) := by decide +kernel
theorem d_D_findLeap_87 : decode b_D_findLeap 87 = .ok (.ladd, 1) := by decide +kernel
theorem d_D_findLeap_88 : decode b_D_findLeap 88 = .ok (.lload 6, 2) := by decide +kernel
theorem d_D_findLeap_90 : decode b_D_findLeap 90 = .ok (.aload_n 0, 1) := by decide +kernel
theorem d_D_findLeap_91 : decode b_D_findLeap 91 = .ok (.getfield 43, 3) := by decide +kernel
theorem d_D_findLeap_94 : decode b_D_findLeap 94 = .ok (.ladd, 1) := by decide +kernel
theorem d_D_findLeap_95 : decode b_D_findLeap 95 = .ok (.ldiv, 1) := by decide +kernel
theorem d_D_findLeap_96 : decode b_D_findLeap 96 = .ok (.lstore 9, 2) := by decide +kernel
theorem d_D_findLeap_98 : decode b_D_findLeap 98 = .ok (.lload 9, 2) := by decide +kernel
theorem d_D_findLeap_100 : decode b_D_findLeap 100 = .ok (.ldc2_w 69, 3) := by decide +kernel
theorem d_D_findLeap_103 : decode b_D_findLeap 103 = .ok (.lcmp, 1) := by decide +kernel
theorem d_D_findLeap_104 : decode b_D_findLeap 104 = .ok (.ifCond .ge 134, 3) := by decide +kernel
theorem d_D_findLeap_107 : decode b_D_findLeap 107 = .ok (.lload 9, 2) := by decide +kernel
theorem d_D_findLeap_109 : decode b_D_findLeap 109 = .ok (.lload 4, 2) := by decide +kernel
theorem d_D_findLeap_111 : decode b_D_findLeap 111 = .ok (.aload_n 0, 1) := by decide +kernel
theorem d_D_findLeap_112 : decode b_D_findLeap 112 = .ok (.getfield 36, 3) := by decide +kernel
theorem d_D_findLeap_115 : decode b_D_findLeap 115 = .ok (.ladd, 1) := by decide +kernel
theorem d_D_findLeap_116 : decode b_D_findLeap 116 = .ok (.lload 6, 2) := by decide +kernel
theorem d_D_findLeap_118 : decode b_D_findLeap 118 = .ok (.aload_n 0, 1) := by decide +kernel
theorem d_D_findLeap_119 : decode b_D_findLeap 119 = .ok (.getfield 46, 3) := by decide +kernel
theorem d_D_findLeap_122 : decode b_D_findLeap 122 = .ok (.ladd, 1) := by decide +kernel
theorem d_D_findLeap_123 : decode b_D_findLeap 123 = .ok (.ldiv, 1) := by decide +kernel
theorem d_D_findLeap_124 : decode b_D_findLeap 124 = .ok (.lcmp, 1) := by decide +kernel
theorem d_D_findLeap_125 : decode b_D_findLeap 125 = .ok (.ifCond .eq 6, 3) := by decide +kernel
theorem d_D_findLeap_128 : decode b_D_findLeap 128 = .ok (.goto 110, 3) := by decide +kernel
theorem d_D_findLeap_131 : decode b_D_findLeap 131 = .ok (.aload_n 0, 1) := by decide +kernel
theorem d_D_findLeap_132 : decode b_D_findLeap 132 = .ok (.getfield 32, 3) := by decide +kernel
theorem d_D_findLeap_135 : decode b_D_findLeap 135 = .ok (.lload 9, 2) := by decide +kernel
theorem d_D_findLeap_137 : decode b_D_findLeap 137 = .ok (.aload_n 0, 1) := by decide +kernel
theorem d_D_findLeap_138 : decode b_D_findLeap 138 = .ok (.getfield 43, 3) := by decide +kernel
theorem d_D_findLeap_141 : decode b_D_findLeap 141 = .ok (.lmul, 1) := by decide +kernel
theorem d_D_findLeap_142 : decode b_D_findLeap 142 = .ok (.lsub, 1) := by decide +kernel
theorem d_D_findLeap_143 : decode b_D_findLeap 143 = .ok (.lstore 11, 2) := by decide +kernel
theorem d_D_findLeap_145 : decode b_D_findLeap 145 = .ok (.aload_n 0, 1) := by decide +kernel
theorem d_D_findLeap_146 : decode b_D_findLeap 146 = .ok (.getfield 36, 3) := by decide +kernel
theorem d_D_findLeap_149 : decode b_D_findLeap 149 = .ok (.lload 9, 2) := by decide +kernel
theorem d_D_findLeap_151 : decode b_D_findLeap 151 = .ok (.aload_n 0, 1) := by decide +kernel
theorem d_D_findLeap_152 : decode b_D_findLeap 152 = .ok (.getfield 46, 3) := by decide +kernel
theorem d_D_findLeap_155 : decode b_D_findLeap 155 = .ok (.lmul, 1) := by decide +kernel
theorem d_D_findLeap_156 : decode b_D_findLeap 156 = .ok (.lsub, 1) := by decide +kernel
theorem d_D_findLeap_157 : decode b_D_findLeap 157 = .ok (.lstore 13, 2) := by decide +kernel
theorem d_D_findLeap_159 : decode b_D_findLeap 159 = .ok (.lload 11, 2) := by decide +kernel
theorem d_D_findLeap_161 : decode b_D_findLeap 161 = .ok (.invokestatic 71, 3) := by decide +kernel
theorem d_D_findLeap_164 : decode b_D_findLeap 164 = .ok (.ldc2_w 69, 3) := by decide +kernel
theorem d_D_findLeap_167 : decode b_D_findLeap 167 = .ok (.lcmp, 1) := by decide +kernel
theorem d_D_findLeap_168 : decode b_D_findLeap 168 = .ok (.ifCond .ge 70, 3) := by decide +kernel
theorem d_D_findLeap_171 : decode b_D_findLeap 171 = .ok (.lload 13, 2) := by decide +kernel
theorem d_D_findLeap_173 : decode b_D_findLeap 173 = .ok (.invokestatic 71, 3) := by decide +kernel
theorem d_D_findLeap_176 : decode b_D_findLeap 176 = .ok (.ldc2_w 69, 3) := by decide +kernel
theorem d_D_findLeap_179 : decode b_D_findLeap 179 = .ok (.lcmp, 1) := by decide +kernel
theorem d_D_findLeap_180 : decode b_D_findLeap 180 = .ok (.ifCond .lt 6, 3) := by decide +kernel
theorem d_D_findLeap_183 : decode b_D_findLeap 183 = .ok (.goto 55, 3) := by decide +kernel
theorem d_D_findLeap_186 : decode b_D_findLeap 186 = .ok (.aload_n 0, 1) := by decide +kernel
theorem d_D_findLeap_187 : decode b_D_findLeap 187 = .ok (.aload_n 0, 1) := by decide +kernel
theorem d_D_findLeap_188 : decode b_D_findLeap 188 = .ok (.getfield 43, 3) := by decide +kernel
theorem d_D_findLeap_191 : decode b_D_findLeap 191 = .ok (.putfield 32, 3) := by decide +kernel
theorem d_D_findLeap_194 : decode b_D_findLeap 194 = .ok (.aload_n 0, 1) := by decide +kernel
theorem d_D_findLeap_195 : decode b_D_findLeap 195 = .ok (.aload_n 0, 1) := by decide +kernel
theorem d_D_findLeap_196 : decode b_D_findLeap 196 = .ok (.getfield 46, 3) := by decide +kernel
theorem d_D_findLeap_199 : decode b_D_findLeap 199 = .ok (.putfield 36, 3) := by decide +kernel
theorem d_D_findLeap_202 : decode b_D_findLeap 202 = .ok (.aload_n 0, 1) := by decide +kernel
theorem d_D_findLeap_203 : decode b_D_findLeap 203 = .ok (.lload 11, 2) := by decide +kernel
theorem d_D_findLeap_205 : decode b_D_findLeap 205 = .ok (.putfield 43, 3) := by decide +kernel
theorem d_D_findLeap_208 : decode b_D_findLeap 208 = .ok (.aload_n 0, 1) := by decide +kernel
theorem d_D_findLeap_209 : decode b_D_findLeap 209 = .ok (.lload 13, 2) := by decide +kernel
theorem d_D_findLeap_211 : decode b_D_findLeap 211 = .ok (.putfield 46, 3) := by decide +kernel
theorem d_D_findLeap_214 : decode b_D_findLeap 214 = .ok (.lload 4, 2) := by decide +kernel
theorem d_D_findLeap_216 : decode b_D_findLeap 216 = .ok (.lload 9, 2) := by decide +kernel
theorem d_D_findLeap_218 : decode b_D_findLeap 218 = .ok (.lload 6, 2) := by decide +kernel
theorem d_D_findLeap_220 : decode b_D_findLeap 220 = .ok (.lmul, 1) := by decide +kernel
theorem d_D_findLeap_221 : decode b_D_findLeap 221 = .ok (.lsub, 1) := by decide +kernel
theorem d_D_findLeap_222 : decode b_D_findLeap 222 = .ok (.lstore 15, 2) := by decide +kernel
theorem d_D_findLeap_224 : decode b_D_findLeap 224 = .ok (.lload 6, 2) := by decide +kernel
theorem d_D_findLeap_226 : decode b_D_findLeap 226 = .ok (.lstore 4, 2) := by decide +kernel
theorem d_D_findLeap_228 : decode b_D_findLeap 228 = .ok (.lload 15, 2) := by decide +kernel
theorem d_D_findLeap_230 : decode b_D_findLeap 230 = .ok (.lstore 6, 2) := by decide +kernel
theorem d_D_findLeap_232 : decode b_D_findLeap 232 = .ok (.iinc 8 1, 3) := by decide +kernel
theorem d_D_findLeap_235 : decode b_D_findLeap 235 = .ok (.goto (-185), 3) := by decide +kernel
theorem d_D_findLeap_238 : decode b_D_findLeap 238 = .ok (.aload_n 0, 1) := by decide +kernel
theorem d_D_findLeap_239 : decode b_D_findLeap 239 = .ok (.getfield 36, 3) := by decide +kernel
theorem d_D_findLeap_242 : decode b_D_findLeap 242 = .ok (.lconst 0, 1) := by decide +kernel
theorem d_D_findLeap_243 : decode b_D_findLeap 243 = .ok (.lcmp, 1) := by decide +kernel
theorem d_D_findLeap_244 : decode b_D_findLeap 244 = .ok (.ifCond .eq 7, 3) := by decide +kernel
theorem d_D_findLeap_247 : decode b_D_findLeap 247 = .ok (.iconst 1, 1) := by decide +kernel
theorem d_D_findLeap_248 : decode b_D_findLeap 248 = .ok (.goto 4, 3) := by decide +kernel
theorem d_D_findLeap_251 : decode b_D_findLeap 251 = .ok (.iconst 0, 1) := by decide +kernel
theorem d_D_findLeap_252 : decode b_D_findLeap 252 = .ok (.ireturn, 1) := by decide +kernel
theorem d_W_spareBits_0 : decode b_W_spareBits 0 = .ok (.aload_n 0, 1) := by decide +kernel
theorem d_W_spareBits_1 : decode b_W_spareBits 1 = .ok (.getfield 21, 3) := by decide +kernel
theorem d_W_spareBits_4 : decode b_W_spareBits 4 = .ok (.ifCond .ne 7, 3) := by decide +kernel
theorem d_W_spareBits_7 : decode b_W_spareBits 7 = .ok (.iconst 0, 1) := by decide +kernel
theorem d_W_spareBits_8 : decode b_W_spareBits 8 = .ok (.goto 19, 3) := by decide +kernel
theorem d_W_spareBits_11 : decode b_W_spareBits 11 = .ok (.aload_n 0, 1) := by decide +kernel
theorem d_W_spareBits_12 : decode b_W_spareBits 12 = .ok (.getfield 17, 3) := by decide +kernel
theorem d_W_spareBits_15 : decode b_W_spareBits 15 = .ok (.aload_n 0, 1) := by decide +kernel
theorem d_W_spareBits_16 : decode b_W_spareBits 16 = .ok (.getfield 21, 3) := by decide +kernel
theorem d_W_spareBits_19 : decode b_W_spareBits 19 = .ok (.iconst 1, 1) := by decide +kernel
theorem d_W_spareBits_20 : decode b_W_spareBits 20 = .ok (.isub, 1) := by decide +kernel
theorem d_W_spareBits_21 : decode b_W_spareBits 21 = .ok (.iaload, 1) := by decide +kernel
theorem d_W_spareBits_22 : decode b_W_spareBits 22 = .ok (.invokestatic 32, 3) := by decide +kernel
theorem d_W_spareBits_25 : decode b_W_spareBits 25 = .ok (.iconst 1, 1) := by decide +kernel
theorem d_W_spareBits_26 : decode b_W_spareBits 26 = .ok (.isub, 1) := by decide +kernel
theorem d_W_spareBits_27 : decode b_W_spareBits 27 = .ok (.ireturn, 1) := by decide +kernel
theorem d_JI_numberOfLeadingZeros_0 : decode b_JI_numberOfLeadingZeros 0 = .ok (.iload_n 0, 1) := by decide +kernel
theorem d_JI_numberOfLeadingZeros_1 : decode b_JI_numberOfLeadingZeros 1 = .ok (.ifCond .gt 14, 3) := by decide +kernel
theorem d_JI_numberOfLeadingZeros_4 : decode b_JI_numberOfLeadingZeros 4 = .ok (.iload_n 0, 1) := by decide +kernel
theorem d_JI_numberOfLeadingZeros_5 : decode b_JI_numberOfLeadingZeros 5 = .ok (.ifCond .ne 8, 3) := by decide +kernel
theorem d_JI_numberOfLeadingZeros_8 : decode b_JI_numberOfLeadingZeros 8 = .ok (.bipush 32, 2) := by decide +kernel
theorem d_JI_numberOfLeadingZeros_10 : decode b_JI_numberOfLeadingZeros 10 = .ok (.goto 4, 3) := by decide +kernel
theorem d_JI_numberOfLeadingZeros_13 : decode b_JI_numberOfLeadingZeros 13 = .ok (.iconst 0, 1) := by decide +kernel
theorem d_JI_numberOfLeadingZeros_14 : decode b_JI_numberOfLeadingZeros 14 = .ok (.ireturn, 1) := by decide +kernel
theorem d_JI_numberOfLeadingZeros_15 : decode b_JI_numberOfLeadingZeros 15 = .ok (.bipush 31, 2) := by decide +kernel
theorem d_JI_numberOfLeadingZeros_17 : decode b_JI_numberOfLeadingZeros 17 = .ok (.istore_n 1, 1) := by decide +kernel
theorem d_JI_numberOfLeadingZeros_18 : decode b_JI_numberOfLeadingZeros 18 = .ok (.iload_n 0, 1) := by decide +kernel
theorem d_JI_numberOfLeadingZeros_19 : decode b_JI_numberOfLeadingZeros 19 = .ok (.ldc_w 264, 3) := by decide +kernel
theorem d_JI_numberOfLeadingZeros_22 : decode b_JI_numberOfLeadingZeros 22 = .ok (.if_icmp .lt 11, 3) := by decide +kernel
theorem d_JI_numberOfLeadingZeros_25 : decode b_JI_numberOfLeadingZeros 25 = .ok (.iinc 1 (-16), 3) := by decide +kernel
theorem d_JI_numberOfLeadingZeros_28 : decode b_JI_numberOfLeadingZeros 28 = .ok (.iload_n 0, 1) := by decide +kernel
theorem d_JI_numberOfLeadingZeros_29 : decode b_JI_numberOfLeadingZeros 29 = .ok (.bipush 16, 2) := by decide +kernel
theorem d_JI_numberOfLeadingZeros_31 : decode b_JI_numberOfLeadingZeros 31 = .ok (.iushr, 1) := by decide +kernel
theorem d_JI_numberOfLeadingZeros_32 : decode b_JI_numberOfLeadingZeros 32 = .ok (.istore_n 0, 1) := by decide +kernel
theorem d_JI_numberOfLeadingZeros_33 : decode b_JI_numberOfLeadingZeros 33 = .ok (.iload_n 0, 1) := by decide +kernel
theorem d_JI_numberOfLeadingZeros_34 : decode b_JI_numberOfLeadingZeros 34 = .ok (.sipush 256, 3) := by decide +kernel
theorem d_JI_numberOfLeadingZeros_37 : decode b_JI_numberOfLeadingZeros 37 = .ok (.if_icmp .lt 11, 3) := by decide +kernel
theorem d_JI_numberOfLeadingZeros_40 : decode b_JI_numberOfLeadingZeros 40 = .ok (.iinc 1 (-8), 3) := by decide +kernel
theorem d_JI_numberOfLeadingZeros_43 : decode b_JI_numberOfLeadingZeros 43 = .ok (.iload_n 0, 1) := by decide +kernel
theorem d_JI_numberOfLeadingZeros_44 : decode b_JI_numberOfLeadingZeros 44 = .ok (.bipush 8, 2) := by decide +kernel
theorem d_JI_numberOfLeadingZeros_46 : decode b_JI_numberOfLeadingZeros 46 = .ok (.iushr, 1) := by decide +kernel
theorem d_JI_numberOfLeadingZeros_47 : decode b_JI_numberOfLeadingZeros 47 = .ok (.istore_n 0, 1) := by decide +kernel
theorem d_JI_numberOfLeadingZeros_48 : decode b_JI_numberOfLeadingZeros 48 = .ok (.iload_n 0, 1) := by decide +kernel
theorem d_JI_numberOfLeadingZeros_49 : decode b_JI_numberOfLeadingZeros 49 = .ok (.bipush 16, 2) := by decide +kernel
theorem d_JI_numberOfLeadingZeros_51 : decode b_JI_numberOfLeadingZeros 51 = .ok (.if_icmp .lt 10, 3) := by decide +kernel
theorem d_JI_numberOfLeadingZeros_54 : decode b_JI_numberOfLeadingZeros 54 = .ok (.iinc 1 (-4), 3) := by decide +kernel
theorem d_JI_numberOfLeadingZeros_57 : decode b_JI_numberOfLeadingZeros 57 = .ok (.iload_n 0, 1) := by decide +kernel
theorem d_JI_numberOfLeadingZeros_58 : decode b_JI_numberOfLeadingZeros 58 = .ok (.iconst 4, 1) := by decide +kernel
theorem d_JI_numberOfLeadingZeros_59 : decode b_JI_numberOfLeadingZeros 59 = .ok (.iushr, 1) := by decide +kernel
theorem d_JI_numberOfLeadingZeros_60 : decode b_JI_numberOfLeadingZeros 60 = .ok (.istore_n 0, 1) := by decide +kernel
theorem d_JI_numberOfLeadingZeros_61 : decode b_JI_numberOfLeadingZeros 61 = .ok (.iload_n 0, 1) := by decide +kernel
theorem d_JI_numberOfLeadingZeros_62 : decode b_JI_numberOfLeadingZeros 62 = .ok (.iconst 4, 1) := by decide +kernel
theorem d_JI_numberOfLeadingZeros_63 : decode b_JI_numberOfLeadingZeros 63 = .ok (.if_icmp .lt 10, 3) := by decide +kernel
theorem d_JI_numberOfLeadingZeros_66 : decode b_JI_numberOfLeadingZeros 66 = .ok (.iinc 1 (-2), 3) := by decide +kernel
theorem d_JI_numberOfLeadingZeros_69 : decode b_JI_numberOfLeadingZeros 69 = .ok (.iload_n 0, 1) := by decide +kernel
theorem d_JI_numberOfLeadingZeros_70 : decode b_JI_numberOfLeadingZeros 70 = .ok (.iconst 2, 1) := by decide +kernel
theorem d_JI_numberOfLeadingZeros_71 : decode b_JI_numberOfLeadingZeros 71 = .ok (.iushr, 1) := by decide +kernel
theorem d_JI_numberOfLeadingZeros_72 : decode b_JI_numberOfLeadingZeros 72 = .ok (.istore_n 0, 1) := by decide +kernel
theorem d_JI_numberOfLeadingZeros_73 : decode b_JI_numberOfLeadingZeros 73 = .ok (.iload_n 1, 1) := by decide +kernel
theorem d_JI_numberOfLeadingZeros_74 : decode b_JI_numberOfLeadingZeros 74 = .ok (.iload_n 0, 1) := by decide +kernel
theorem d_JI_numberOfLeadingZeros_75 : decode b_JI_numberOfLeadingZeros 75 = .ok (.iconst 1, 1) := by decide +kernel
theorem d_JI_numberOfLeadingZeros_76 : decode b_JI_numberOfLeadingZeros 76 = .ok (.iushr, 1) := by decide +kernel
theorem d_JI_numberOfLeadingZeros_77 : decode b_JI_numberOfLeadingZeros 77 = .ok (.isub, 1) := by decide +kernel
theorem d_JI_numberOfLeadingZeros_78 : decode b_JI_numberOfLeadingZeros 78 = .ok (.ireturn, 1) := by decide +kernel
theorem d_D_highest_0 : decode b_D_highest 0 = .ok (.aload_n 0, 1) := by decide +kernel
theorem d_D_highest_1 : decode b_D_highest 1 = .ok (.iload_n 1, 1) := by decide +kernel
theorem d_D_highest_2 : decode b_D_highest 2 = .ok (.iconst 1, 1) := by decide +kernel
theorem d_D_highest_3 : decode b_D_highest 3 = .ok (.isub, 1) := by decide +kernel
theorem d_D_highest_4 : decode b_D_highest 4 = .ok (.iload_n 2, 1) := by decide +kernel
theorem d_D_highest_5 : decode b_D_highest 5 = .ok (.invokevirtual 77, 3) := by decide +kernel
theorem d_D_highest_8 : decode b_D_highest 8 = .ok (.bipush 31, 2) := by decide +kernel
theorem d_D_highest_10 : decode b_D_highest 10 = .ok (.lshl, 1) := by decide +kernel
theorem d_D_highest_11 : decode b_D_highest 11 = .ok (.aload_n 0, 1) := by decide +kernel
theorem d_D_highest_12 : decode b_D_highest 12 = .ok (.iload_n 1, 1) := by decide +kernel
theorem d_D_highest_13 : decode b_D_highest 13 = .ok (.iconst 2, 1) := by decide +kernel
