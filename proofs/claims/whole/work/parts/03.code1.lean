/-! the instructions, by program -/
theorem d_D_highest_14 : decode b_D_highest 14 = .ok (.isub, 1) := by decide +kernel
theorem d_D_highest_15 : decode b_D_highest 15 = .ok (.iload_n 2, 1) := by decide +kernel
theorem d_D_highest_16 : decode b_D_highest 16 = .ok (.invokevirtual 77, 3) := by decide +kernel
theorem d_D_highest_19 : decode b_D_highest 19 = .ok (.lor, 1) := by decide +kernel
theorem d_D_highest_20 : decode b_D_highest 20 = .ok (.lreturn, 1) := by decide +kernel
theorem d_W_shiftedLimb_0 : decode b_W_shiftedLimb 0 = .ok (.aload_n 0, 1) := by decide +kernel
theorem d_W_shiftedLimb_1 : decode b_W_shiftedLimb 1 = .ok (.iload_n 1, 1) := by decide +kernel
theorem d_W_shiftedLimb_2 : decode b_W_shiftedLimb 2 = .ok (.invokevirtual 38, 3) := by decide +kernel
theorem d_W_shiftedLimb_5 : decode b_W_shiftedLimb 5 = .ok (.i2l, 1) := by decide +kernel
theorem d_W_shiftedLimb_6 : decode b_W_shiftedLimb 6 = .ok (.iload_n 2, 1) := by decide +kernel
theorem d_W_shiftedLimb_7 : decode b_W_shiftedLimb 7 = .ok (.lshl, 1) := by decide +kernel
theorem d_W_shiftedLimb_8 : decode b_W_shiftedLimb 8 = .ok (.aload_n 0, 1) := by decide +kernel
theorem d_W_shiftedLimb_9 : decode b_W_shiftedLimb 9 = .ok (.iload_n 1, 1) := by decide +kernel
theorem d_W_shiftedLimb_10 : decode b_W_shiftedLimb 10 = .ok (.iconst 1, 1) := by decide +kernel
theorem d_W_shiftedLimb_11 : decode b_W_shiftedLimb 11 = .ok (.isub, 1) := by decide +kernel
theorem d_W_shiftedLimb_12 : decode b_W_shiftedLimb 12 = .ok (.invokevirtual 38, 3) := by decide +kernel
theorem d_W_shiftedLimb_15 : decode b_W_shiftedLimb 15 = .ok (.bipush 31, 2) := by decide +kernel
theorem d_W_shiftedLimb_17 : decode b_W_shiftedLimb 17 = .ok (.iload_n 2, 1) := by decide +kernel
theorem d_W_shiftedLimb_18 : decode b_W_shiftedLimb 18 = .ok (.isub, 1) := by decide +kernel
theorem d_W_shiftedLimb_19 : decode b_W_shiftedLimb 19 = .ok (.iushr, 1) := by decide +kernel
theorem d_W_shiftedLimb_20 : decode b_W_shiftedLimb 20 = .ok (.i2l, 1) := by decide +kernel
theorem d_W_shiftedLimb_21 : decode b_W_shiftedLimb 21 = .ok (.lor, 1) := by decide +kernel
theorem d_W_shiftedLimb_22 : decode b_W_shiftedLimb 22 = .ok (.lstore_n 3, 1) := by decide +kernel
theorem d_W_shiftedLimb_23 : decode b_W_shiftedLimb 23 = .ok (.lload_n 3, 1) := by decide +kernel
theorem d_W_shiftedLimb_24 : decode b_W_shiftedLimb 24 = .ok (.ldc2_w 43, 3) := by decide +kernel
theorem d_W_shiftedLimb_27 : decode b_W_shiftedLimb 27 = .ok (.land, 1) := by decide +kernel
theorem d_W_shiftedLimb_28 : decode b_W_shiftedLimb 28 = .ok (.lreturn, 1) := by decide +kernel
theorem d_W_limb_0 : decode b_W_limb 0 = .ok (.iload_n 1, 1) := by decide +kernel
theorem d_W_limb_1 : decode b_W_limb 1 = .ok (.ifCond .lt 20, 3) := by decide +kernel
theorem d_W_limb_4 : decode b_W_limb 4 = .ok (.iload_n 1, 1) := by decide +kernel
theorem d_W_limb_5 : decode b_W_limb 5 = .ok (.aload_n 0, 1) := by decide +kernel
theorem d_W_limb_6 : decode b_W_limb 6 = .ok (.getfield 21, 3) := by decide +kernel
theorem d_W_limb_9 : decode b_W_limb 9 = .ok (.if_icmp .ge 12, 3) := by decide +kernel
theorem d_W_limb_12 : decode b_W_limb 12 = .ok (.aload_n 0, 1) := by decide +kernel
theorem d_W_limb_13 : decode b_W_limb 13 = .ok (.getfield 17, 3) := by decide +kernel
theorem d_W_limb_16 : decode b_W_limb 16 = .ok (.iload_n 1, 1) := by decide +kernel
theorem d_W_limb_17 : decode b_W_limb 17 = .ok (.iaload, 1) := by decide +kernel
theorem d_W_limb_18 : decode b_W_limb 18 = .ok (.goto 4, 3) := by decide +kernel
theorem d_W_limb_21 : decode b_W_limb 21 = .ok (.iconst 0, 1) := by decide +kernel
theorem d_W_limb_22 : decode b_W_limb 22 = .ok (.ireturn, 1) := by decide +kernel
theorem d_W_becomeMix_0 : decode b_W_becomeMix 0 = .ok (.aload_n 3, 1) := by decide +kernel
theorem d_W_becomeMix_1 : decode b_W_becomeMix 1 = .ok (.getfield 21, 3) := by decide +kernel
theorem d_W_becomeMix_4 : decode b_W_becomeMix 4 = .ok (.aload 6, 2) := by decide +kernel
theorem d_W_becomeMix_6 : decode b_W_becomeMix 6 = .ok (.getfield 21, 3) := by decide +kernel
theorem d_W_becomeMix_9 : decode b_W_becomeMix 9 = .ok (.invokestatic 11, 3) := by decide +kernel
theorem d_W_becomeMix_12 : decode b_W_becomeMix 12 = .ok (.istore 7, 2) := by decide +kernel
theorem d_W_becomeMix_14 : decode b_W_becomeMix 14 = .ok (.iload 7, 2) := by decide +kernel
theorem d_W_becomeMix_16 : decode b_W_becomeMix 16 = .ok (.aload_n 0, 1) := by decide +kernel
theorem d_W_becomeMix_17 : decode b_W_becomeMix 17 = .ok (.getfield 17, 3) := by decide +kernel
theorem d_W_becomeMix_20 : decode b_W_becomeMix 20 = .ok (.arraylength, 1) := by decide +kernel
theorem d_W_becomeMix_21 : decode b_W_becomeMix 21 = .ok (.if_icmp .lt 9, 3) := by decide +kernel
theorem d_W_becomeMix_24 : decode b_W_becomeMix 24 = .ok (.aload_n 0, 1) := by decide +kernel
theorem d_W_becomeMix_25 : decode b_W_becomeMix 25 = .ok (.iconst 0, 1) := by decide +kernel
theorem d_W_becomeMix_26 : decode b_W_becomeMix 26 = .ok (.putfield 21, 3) := by decide +kernel
theorem d_W_becomeMix_29 : decode b_W_becomeMix 29 = .ok (.return_, 1) := by decide +kernel
theorem d_W_becomeMix_30 : decode b_W_becomeMix 30 = .ok (.lconst 0, 1) := by decide +kernel
theorem d_W_becomeMix_31 : decode b_W_becomeMix 31 = .ok (.lstore 8, 2) := by decide +kernel
theorem d_W_becomeMix_33 : decode b_W_becomeMix 33 = .ok (.iconst 0, 1) := by decide +kernel
theorem d_W_becomeMix_34 : decode b_W_becomeMix 34 = .ok (.istore 10, 2) := by decide +kernel
theorem d_W_becomeMix_36 : decode b_W_becomeMix 36 = .ok (.iload 10, 2) := by decide +kernel
theorem d_W_becomeMix_38 : decode b_W_becomeMix 38 = .ok (.iload 7, 2) := by decide +kernel
theorem d_W_becomeMix_40 : decode b_W_becomeMix 40 = .ok (.if_icmp .ge 93, 3) := by decide +kernel
theorem d_W_becomeMix_43 : decode b_W_becomeMix 43 = .ok (.iload 10, 2) := by decide +kernel
theorem d_W_becomeMix_45 : decode b_W_becomeMix 45 = .ok (.aload_n 3, 1) := by decide +kernel
theorem d_W_becomeMix_46 : decode b_W_becomeMix 46 = .ok (.getfield 21, 3) := by decide +kernel
theorem d_W_becomeMix_49 : decode b_W_becomeMix 49 = .ok (.if_icmp .ge 13, 3) := by decide +kernel
theorem d_W_becomeMix_52 : decode b_W_becomeMix 52 = .ok (.aload_n 3, 1) := by decide +kernel
theorem d_W_becomeMix_53 : decode b_W_becomeMix 53 = .ok (.getfield 17, 3) := by decide +kernel
theorem d_W_becomeMix_56 : decode b_W_becomeMix 56 = .ok (.iload 10, 2) := by decide +kernel
theorem d_W_becomeMix_58 : decode b_W_becomeMix 58 = .ok (.iaload, 1) := by decide +kernel
theorem d_W_becomeMix_59 : decode b_W_becomeMix 59 = .ok (.goto 4, 3) := by decide +kernel
theorem d_W_becomeMix_62 : decode b_W_becomeMix 62 = .ok (.iconst 0, 1) := by decide +kernel
theorem d_W_becomeMix_63 : decode b_W_becomeMix 63 = .ok (.istore 11, 2) := by decide +kernel
theorem d_W_becomeMix_65 : decode b_W_becomeMix 65 = .ok (.iload 10, 2) := by decide +kernel
theorem d_W_becomeMix_67 : decode b_W_becomeMix 67 = .ok (.aload 6, 2) := by decide +kernel
theorem d_W_becomeMix_69 : decode b_W_becomeMix 69 = .ok (.getfield 21, 3) := by decide +kernel
theorem d_W_becomeMix_72 : decode b_W_becomeMix 72 = .ok (.if_icmp .ge 14, 3) := by decide +kernel
theorem d_W_becomeMix_75 : decode b_W_becomeMix 75 = .ok (.aload 6, 2) := by decide +kernel
theorem d_W_becomeMix_77 : decode b_W_becomeMix 77 = .ok (.getfield 17, 3) := by decide +kernel
theorem d_W_becomeMix_80 : decode b_W_becomeMix 80 = .ok (.iload 10, 2) := by decide +kernel
theorem d_W_becomeMix_82 : decode b_W_becomeMix 82 = .ok (.iaload, 1) := by decide +kernel
theorem d_W_becomeMix_83 : decode b_W_becomeMix 83 = .ok (.goto 4, 3) := by decide +kernel
theorem d_W_becomeMix_86 : decode b_W_becomeMix 86 = .ok (.iconst 0, 1) := by decide +kernel
theorem d_W_becomeMix_87 : decode b_W_becomeMix 87 = .ok (.istore 12, 2) := by decide +kernel
theorem d_W_becomeMix_89 : decode b_W_becomeMix 89 = .ok (.lload_n 1, 1) := by decide +kernel
theorem d_W_becomeMix_90 : decode b_W_becomeMix 90 = .ok (.iload 11, 2) := by decide +kernel
theorem d_W_becomeMix_92 : decode b_W_becomeMix 92 = .ok (.i2l, 1) := by decide +kernel
theorem d_W_becomeMix_93 : decode b_W_becomeMix 93 = .ok (.lmul, 1) := by decide +kernel
theorem d_W_becomeMix_94 : decode b_W_becomeMix 94 = .ok (.lload 4, 2) := by decide +kernel
theorem d_W_becomeMix_96 : decode b_W_becomeMix 96 = .ok (.iload 12, 2) := by decide +kernel
theorem d_W_becomeMix_98 : decode b_W_becomeMix 98 = .ok (.i2l, 1) := by decide +kernel
theorem d_W_becomeMix_99 : decode b_W_becomeMix 99 = .ok (.lmul, 1) := by decide +kernel
theorem d_W_becomeMix_100 : decode b_W_becomeMix 100 = .ok (.ladd, 1) := by decide +kernel
theorem d_W_becomeMix_101 : decode b_W_becomeMix 101 = .ok (.lload 8, 2) := by decide +kernel
theorem d_W_becomeMix_103 : decode b_W_becomeMix 103 = .ok (.ladd, 1) := by decide +kernel
theorem d_W_becomeMix_104 : decode b_W_becomeMix 104 = .ok (.lstore 13, 2) := by decide +kernel
theorem d_W_becomeMix_106 : decode b_W_becomeMix 106 = .ok (.aload_n 0, 1) := by decide +kernel
theorem d_W_becomeMix_107 : decode b_W_becomeMix 107 = .ok (.getfield 17, 3) := by decide +kernel
theorem d_W_becomeMix_110 : decode b_W_becomeMix 110 = .ok (.iload 10, 2) := by decide +kernel
theorem d_W_becomeMix_112 : decode b_W_becomeMix 112 = .ok (.lload 13, 2) := by decide +kernel
theorem d_W_becomeMix_114 : decode b_W_becomeMix 114 = .ok (.ldc2_w 43, 3) := by decide +kernel
theorem d_W_becomeMix_117 : decode b_W_becomeMix 117 = .ok (.land, 1) := by decide +kernel
theorem d_W_becomeMix_118 : decode b_W_becomeMix 118 = .ok (.l2i, 1) := by decide +kernel
theorem d_W_becomeMix_119 : decode b_W_becomeMix 119 = .ok (.iastore, 1) := by decide +kernel
theorem d_W_becomeMix_120 : decode b_W_becomeMix 120 = .ok (.lload 13, 2) := by decide +kernel
theorem d_W_becomeMix_122 : decode b_W_becomeMix 122 = .ok (.bipush 31, 2) := by decide +kernel
theorem d_W_becomeMix_124 : decode b_W_becomeMix 124 = .ok (.lshr, 1) := by decide +kernel
theorem d_W_becomeMix_125 : decode b_W_becomeMix 125 = .ok (.lstore 8, 2) := by decide +kernel
theorem d_W_becomeMix_127 : decode b_W_becomeMix 127 = .ok (.iinc 10 1, 3) := by decide +kernel
theorem d_W_becomeMix_130 : decode b_W_becomeMix 130 = .ok (.goto (-94), 3) := by decide +kernel
theorem d_W_becomeMix_133 : decode b_W_becomeMix 133 = .ok (.aload_n 0, 1) := by decide +kernel
theorem d_W_becomeMix_134 : decode b_W_becomeMix 134 = .ok (.getfield 17, 3) := by decide +kernel
theorem d_W_becomeMix_137 : decode b_W_becomeMix 137 = .ok (.iload 7, 2) := by decide +kernel
theorem d_W_becomeMix_139 : decode b_W_becomeMix 139 = .ok (.lload 8, 2) := by decide +kernel
theorem d_W_becomeMix_141 : decode b_W_becomeMix 141 = .ok (.ldc2_w 43, 3) := by decide +kernel
theorem d_W_becomeMix_144 : decode b_W_becomeMix 144 = .ok (.land, 1) := by decide +kernel
theorem d_W_becomeMix_145 : decode b_W_becomeMix 145 = .ok (.l2i, 1) := by decide +kernel
theorem d_W_becomeMix_146 : decode b_W_becomeMix 146 = .ok (.iastore, 1) := by decide +kernel
theorem d_W_becomeMix_147 : decode b_W_becomeMix 147 = .ok (.aload_n 0, 1) := by decide +kernel
theorem d_W_becomeMix_148 : decode b_W_becomeMix 148 = .ok (.iload 7, 2) := by decide +kernel
theorem d_W_becomeMix_150 : decode b_W_becomeMix 150 = .ok (.iconst 1, 1) := by decide +kernel
theorem d_W_becomeMix_151 : decode b_W_becomeMix 151 = .ok (.iadd, 1) := by decide +kernel
theorem d_W_becomeMix_152 : decode b_W_becomeMix 152 = .ok (.invokevirtual 48, 3) := by decide +kernel
theorem d_W_becomeMix_155 : decode b_W_becomeMix 155 = .ok (.return_, 1) := by decide +kernel
theorem d_W_leaveRest_0 : decode b_W_leaveRest 0 = .ok (.aload_n 0, 1) := by decide +kernel
theorem d_W_leaveRest_1 : decode b_W_leaveRest 1 = .ok (.getfield 21, 3) := by decide +kernel
theorem d_W_leaveRest_4 : decode b_W_leaveRest 4 = .ok (.aload_n 1, 1) := by decide +kernel
theorem d_W_leaveRest_5 : decode b_W_leaveRest 5 = .ok (.getfield 21, 3) := by decide +kernel
theorem d_W_leaveRest_8 : decode b_W_leaveRest 8 = .ok (.isub, 1) := by decide +kernel
theorem d_W_leaveRest_9 : decode b_W_leaveRest 9 = .ok (.iconst 1, 1) := by decide +kernel
theorem d_W_leaveRest_10 : decode b_W_leaveRest 10 = .ok (.iadd, 1) := by decide +kernel
theorem d_W_leaveRest_11 : decode b_W_leaveRest 11 = .ok (.istore_n 3, 1) := by decide +kernel
theorem d_W_leaveRest_12 : decode b_W_leaveRest 12 = .ok (.aload_n 2, 1) := by decide +kernel
theorem d_W_leaveRest_13 : decode b_W_leaveRest 13 = .ok (.iconst 0, 1) := by decide +kernel
theorem d_W_leaveRest_14 : decode b_W_leaveRest 14 = .ok (.putfield 21, 3) := by decide +kernel
theorem d_W_leaveRest_17 : decode b_W_leaveRest 17 = .ok (.aload_n 1, 1) := by decide +kernel
theorem d_W_leaveRest_18 : decode b_W_leaveRest 18 = .ok (.getfield 21, 3) := by decide +kernel
theorem d_W_leaveRest_21 : decode b_W_leaveRest 21 = .ok (.ifCond .eq 28, 3) := by decide +kernel
theorem d_W_leaveRest_24 : decode b_W_leaveRest 24 = .ok (.iload_n 3, 1) := by decide +kernel
theorem d_W_leaveRest_25 : decode b_W_leaveRest 25 = .ok (.ifCond .le 24, 3) := by decide +kernel
theorem d_W_leaveRest_28 : decode b_W_leaveRest 28 = .ok (.iload_n 3, 1) := by decide +kernel
theorem d_W_leaveRest_29 : decode b_W_leaveRest 29 = .ok (.aload_n 2, 1) := by decide +kernel
theorem d_W_leaveRest_30 : decode b_W_leaveRest 30 = .ok (.getfield 17, 3) := by decide +kernel
theorem d_W_leaveRest_33 : decode b_W_leaveRest 33 = .ok (.arraylength, 1) := by decide +kernel
theorem d_W_leaveRest_34 : decode b_W_leaveRest 34 = .ok (.if_icmp .gt 15, 3) := by decide +kernel
theorem d_W_leaveRest_37 : decode b_W_leaveRest 37 = .ok (.aload_n 0, 1) := by decide +kernel
theorem d_W_leaveRest_38 : decode b_W_leaveRest 38 = .ok (.getfield 21, 3) := by decide +kernel
theorem d_W_leaveRest_41 : decode b_W_leaveRest 41 = .ok (.aload_n 0, 1) := by decide +kernel
theorem d_W_leaveRest_42 : decode b_W_leaveRest 42 = .ok (.getfield 17, 3) := by decide +kernel
theorem d_W_leaveRest_45 : decode b_W_leaveRest 45 = .ok (.arraylength, 1) := by decide +kernel
theorem d_W_leaveRest_46 : decode b_W_leaveRest 46 = .ok (.if_icmp .lt 4, 3) := by decide +kernel
theorem d_W_leaveRest_49 : decode b_W_leaveRest 49 = .ok (.return_, 1) := by decide +kernel
theorem d_W_leaveRest_50 : decode b_W_leaveRest 50 = .ok (.aload_n 0, 1) := by decide +kernel
theorem d_W_leaveRest_51 : decode b_W_leaveRest 51 = .ok (.getfield 17, 3) := by decide +kernel
theorem d_W_leaveRest_54 : decode b_W_leaveRest 54 = .ok (.aload_n 0, 1) := by decide +kernel
theorem d_W_leaveRest_55 : decode b_W_leaveRest 55 = .ok (.getfield 21, 3) := by decide +kernel
theorem d_W_leaveRest_58 : decode b_W_leaveRest 58 = .ok (.iconst 0, 1) := by decide +kernel
theorem d_W_leaveRest_59 : decode b_W_leaveRest 59 = .ok (.iastore, 1) := by decide +kernel
theorem d_W_leaveRest_60 : decode b_W_leaveRest 60 = .ok (.iload_n 3, 1) := by decide +kernel
theorem d_W_leaveRest_61 : decode b_W_leaveRest 61 = .ok (.iconst 1, 1) := by decide +kernel
theorem d_W_leaveRest_62 : decode b_W_leaveRest 62 = .ok (.isub, 1) := by decide +kernel
theorem d_W_leaveRest_63 : decode b_W_leaveRest 63 = .ok (.istore 4, 2) := by decide +kernel
theorem d_W_leaveRest_65 : decode b_W_leaveRest 65 = .ok (.iload 4, 2) := by decide +kernel
theorem d_W_leaveRest_67 : decode b_W_leaveRest 67 = .ok (.ifCond .lt 57, 3) := by decide +kernel
theorem d_W_leaveRest_70 : decode b_W_leaveRest 70 = .ok (.aload_n 0, 1) := by decide +kernel
theorem d_W_leaveRest_71 : decode b_W_leaveRest 71 = .ok (.aload_n 1, 1) := by decide +kernel
theorem d_W_leaveRest_72 : decode b_W_leaveRest 72 = .ok (.iload 4, 2) := by decide +kernel
theorem d_W_leaveRest_74 : decode b_W_leaveRest 74 = .ok (.invokevirtual 58, 3) := by decide +kernel
theorem d_W_leaveRest_77 : decode b_W_leaveRest 77 = .ok (.lstore 5, 2) := by decide +kernel
theorem d_W_leaveRest_79 : decode b_W_leaveRest 79 = .ok (.aload_n 0, 1) := by decide +kernel
theorem d_W_leaveRest_80 : decode b_W_leaveRest 80 = .ok (.aload_n 1, 1) := by decide +kernel
theorem d_W_leaveRest_81 : decode b_W_leaveRest 81 = .ok (.lload 5, 2) := by decide +kernel
theorem d_W_leaveRest_83 : decode b_W_leaveRest 83 = .ok (.iload 4, 2) := by decide +kernel
theorem d_W_leaveRest_85 : decode b_W_leaveRest 85 = .ok (.invokevirtual 62, 3) := by decide +kernel
theorem d_W_leaveRest_88 : decode b_W_leaveRest 88 = .ok (.ifCond .eq 20, 3) := by decide +kernel
theorem d_W_leaveRest_91 : decode b_W_leaveRest 91 = .ok (.lload 5, 2) := by decide +kernel
theorem d_W_leaveRest_93 : decode b_W_leaveRest 93 = .ok (.lconst 1, 1) := by decide +kernel
theorem d_W_leaveRest_94 : decode b_W_leaveRest 94 = .ok (.lsub, 1) := by decide +kernel
theorem d_W_leaveRest_95 : decode b_W_leaveRest 95 = .ok (.lstore 5, 2) := by decide +kernel
theorem d_W_leaveRest_97 : decode b_W_leaveRest 97 = .ok (.aload_n 0, 1) := by decide +kernel
theorem d_W_leaveRest_98 : decode b_W_leaveRest 98 = .ok (.aload_n 1, 1) := by decide +kernel
theorem d_W_leaveRest_99 : decode b_W_leaveRest 99 = .ok (.ldc2_w 66, 3) := by decide +kernel
theorem d_W_leaveRest_102 : decode b_W_leaveRest 102 = .ok (.iload 4, 2) := by decide +kernel
theorem d_W_leaveRest_104 : decode b_W_leaveRest 104 = .ok (.invokevirtual 62, 3) := by decide +kernel
theorem d_W_leaveRest_107 : decode b_W_leaveRest 107 = .ok (.pop, 1) := by decide +kernel
theorem d_W_leaveRest_108 : decode b_W_leaveRest 108 = .ok (.aload_n 2, 1) := by decide +kernel
theorem d_W_leaveRest_109 : decode b_W_leaveRest 109 = .ok (.getfield 17, 3) := by decide +kernel
theorem d_W_leaveRest_112 : decode b_W_leaveRest 112 = .ok (.iload 4, 2) := by decide +kernel
theorem d_W_leaveRest_114 : decode b_W_leaveRest 114 = .ok (.lload 5, 2) := by decide +kernel
theorem d_W_leaveRest_116 : decode b_W_leaveRest 116 = .ok (.l2i, 1) := by decide +kernel
theorem d_W_leaveRest_117 : decode b_W_leaveRest 117 = .ok (.iastore, 1) := by decide +kernel
theorem d_W_leaveRest_118 : decode b_W_leaveRest 118 = .ok (.iinc 4 (-1), 3) := by decide +kernel
theorem d_W_leaveRest_121 : decode b_W_leaveRest 121 = .ok (.goto (-56), 3) := by decide +kernel
theorem d_W_leaveRest_124 : decode b_W_leaveRest 124 = .ok (.aload_n 2, 1) := by decide +kernel
theorem d_W_leaveRest_125 : decode b_W_leaveRest 125 = .ok (.iload_n 3, 1) := by decide +kernel
theorem d_W_leaveRest_126 : decode b_W_leaveRest 126 = .ok (.invokevirtual 48, 3) := by decide +kernel
theorem d_W_leaveRest_129 : decode b_W_leaveRest 129 = .ok (.aload_n 0, 1) := by decide +kernel
theorem d_W_leaveRest_130 : decode b_W_leaveRest 130 = .ok (.aload_n 1, 1) := by decide +kernel
theorem d_W_leaveRest_131 : decode b_W_leaveRest 131 = .ok (.getfield 21, 3) := by decide +kernel
theorem d_W_leaveRest_134 : decode b_W_leaveRest 134 = .ok (.invokevirtual 48, 3) := by decide +kernel
theorem d_W_leaveRest_137 : decode b_W_leaveRest 137 = .ok (.return_, 1) := by decide +kernel
theorem d_W_trialDigit_0 : decode b_W_trialDigit 0 = .ok (.aload_n 1, 1) := by decide +kernel
theorem d_W_trialDigit_1 : decode b_W_trialDigit 1 = .ok (.invokevirtual 29, 3) := by decide +kernel
theorem d_W_trialDigit_4 : decode b_W_trialDigit 4 = .ok (.istore_n 3, 1) := by decide +kernel
theorem d_W_trialDigit_5 : decode b_W_trialDigit 5 = .ok (.iload_n 2, 1) := by decide +kernel
theorem d_W_trialDigit_6 : decode b_W_trialDigit 6 = .ok (.aload_n 1, 1) := by decide +kernel
theorem d_W_trialDigit_7 : decode b_W_trialDigit 7 = .ok (.getfield 21, 3) := by decide +kernel
theorem d_W_trialDigit_10 : decode b_W_trialDigit 10 = .ok (.iadd, 1) := by decide +kernel
theorem d_W_trialDigit_11 : decode b_W_trialDigit 11 = .ok (.istore 4, 2) := by decide +kernel
theorem d_W_trialDigit_13 : decode b_W_trialDigit 13 = .ok (.aload_n 1, 1) := by decide +kernel
theorem d_W_trialDigit_14 : decode b_W_trialDigit 14 = .ok (.aload_n 1, 1) := by decide +kernel
theorem d_W_trialDigit_15 : decode b_W_trialDigit 15 = .ok (.getfield 21, 3) := by decide +kernel
theorem d_W_trialDigit_18 : decode b_W_trialDigit 18 = .ok (.iconst 1, 1) := by decide +kernel
theorem d_W_trialDigit_19 : decode b_W_trialDigit 19 = .ok (.isub, 1) := by decide +kernel
theorem d_W_trialDigit_20 : decode b_W_trialDigit 20 = .ok (.iload_n 3, 1) := by decide +kernel
theorem d_W_trialDigit_21 : decode b_W_trialDigit 21 = .ok (.invokevirtual 68, 3) := by decide +kernel
theorem d_W_trialDigit_24 : decode b_W_trialDigit 24 = .ok (.lstore 5, 2) := by decide +kernel
theorem d_W_trialDigit_26 : decode b_W_trialDigit 26 = .ok (.aload_n 1, 1) := by decide +kernel
theorem d_W_trialDigit_27 : decode b_W_trialDigit 27 = .ok (.aload_n 1, 1) := by decide +kernel
theorem d_W_trialDigit_28 : decode b_W_trialDigit 28 = .ok (.getfield 21, 3) := by decide +kernel
theorem d_W_trialDigit_31 : decode b_W_trialDigit 31 = .ok (.iconst 2, 1) := by decide +kernel
theorem d_W_trialDigit_32 : decode b_W_trialDigit 32 = .ok (.isub, 1) := by decide +kernel
theorem d_W_trialDigit_33 : decode b_W_trialDigit 33 = .ok (.iload_n 3, 1) := by decide +kernel
theorem d_W_trialDigit_34 : decode b_W_trialDigit 34 = .ok (.invokevirtual 68, 3) := by decide +kernel
theorem d_W_trialDigit_37 : decode b_W_trialDigit 37 = .ok (.lstore 7, 2) := by decide +kernel
theorem d_W_trialDigit_39 : decode b_W_trialDigit 39 = .ok (.lload 5, 2) := by decide +kernel
theorem d_W_trialDigit_41 : decode b_W_trialDigit 41 = .ok (.lconst 0, 1) := by decide +kernel
theorem d_W_trialDigit_42 : decode b_W_trialDigit 42 = .ok (.lcmp, 1) := by decide +kernel
theorem d_W_trialDigit_43 : decode b_W_trialDigit 43 = .ok (.ifCond .gt 5, 3) := by decide +kernel
theorem d_W_trialDigit_46 : decode b_W_trialDigit 46 = .ok (.lconst 0, 1) := by decide +kernel
theorem d_W_trialDigit_47 : decode b_W_trialDigit 47 = .ok (.lreturn, 1) := by decide +kernel
theorem d_W_trialDigit_48 : decode b_W_trialDigit 48 = .ok (.aload_n 0, 1) := by decide +kernel
theorem d_W_trialDigit_49 : decode b_W_trialDigit 49 = .ok (.iload 4, 2) := by decide +kernel
theorem d_W_trialDigit_51 : decode b_W_trialDigit 51 = .ok (.iload_n 3, 1) := by decide +kernel
theorem d_W_trialDigit_52 : decode b_W_trialDigit 52 = .ok (.invokevirtual 68, 3) := by decide +kernel
theorem d_W_trialDigit_55 : decode b_W_trialDigit 55 = .ok (.bipush 31, 2) := by decide +kernel
theorem d_W_trialDigit_57 : decode b_W_trialDigit 57 = .ok (.lshl, 1) := by decide +kernel
theorem d_W_trialDigit_58 : decode b_W_trialDigit 58 = .ok (.aload_n 0, 1) := by decide +kernel
theorem d_W_trialDigit_59 : decode b_W_trialDigit 59 = .ok (.iload 4, 2) := by decide +kernel
theorem d_W_trialDigit_61 : decode b_W_trialDigit 61 = .ok (.iconst 1, 1) := by decide +kernel
theorem d_W_trialDigit_62 : decode b_W_trialDigit 62 = .ok (.isub, 1) := by decide +kernel
theorem d_W_trialDigit_63 : decode b_W_trialDigit 63 = .ok (.iload_n 3, 1) := by decide +kernel
theorem d_W_trialDigit_64 : decode b_W_trialDigit 64 = .ok (.invokevirtual 68, 3) := by decide +kernel
theorem d_W_trialDigit_67 : decode b_W_trialDigit 67 = .ok (.lor, 1) := by decide +kernel
theorem d_W_trialDigit_68 : decode b_W_trialDigit 68 = .ok (.lstore 9, 2) := by decide +kernel
theorem d_W_trialDigit_70 : decode b_W_trialDigit 70 = .ok (.aload_n 0, 1) := by decide +kernel
theorem d_W_trialDigit_71 : decode b_W_trialDigit 71 = .ok (.iload 4, 2) := by decide +kernel
theorem d_W_trialDigit_73 : decode b_W_trialDigit 73 = .ok (.iconst 2, 1) := by decide +kernel
theorem d_W_trialDigit_74 : decode b_W_trialDigit 74 = .ok (.isub, 1) := by decide +kernel
theorem d_W_trialDigit_75 : decode b_W_trialDigit 75 = .ok (.iload_n 3, 1) := by decide +kernel
theorem d_W_trialDigit_76 : decode b_W_trialDigit 76 = .ok (.invokevirtual 68, 3) := by decide +kernel
theorem d_W_trialDigit_79 : decode b_W_trialDigit 79 = .ok (.lstore 11, 2) := by decide +kernel
theorem d_W_trialDigit_81 : decode b_W_trialDigit 81 = .ok (.lload 9, 2) := by decide +kernel
theorem d_W_trialDigit_83 : decode b_W_trialDigit 83 = .ok (.lload 5, 2) := by decide +kernel
theorem d_W_trialDigit_85 : decode b_W_trialDigit 85 = .ok (.ldiv, 1) := by decide +kernel
theorem d_W_trialDigit_86 : decode b_W_trialDigit 86 = .ok (.lstore 13, 2) := by decide +kernel
theorem d_W_trialDigit_88 : decode b_W_trialDigit 88 = .ok (.lload 9, 2) := by decide +kernel
theorem d_W_trialDigit_90 : decode b_W_trialDigit 90 = .ok (.lload 5, 2) := by decide +kernel
theorem d_W_trialDigit_92 : decode b_W_trialDigit 92 = .ok (.lrem, 1) := by decide +kernel
theorem d_W_trialDigit_93 : decode b_W_trialDigit 93 = .ok (.lstore 15, 2) := by decide +kernel
theorem d_W_trialDigit_95 : decode b_W_trialDigit 95 = .ok (.iconst 0, 1) := by decide +kernel
theorem d_W_trialDigit_96 : decode b_W_trialDigit 96 = .ok (.istore 17, 2) := by decide +kernel
theorem d_W_trialDigit_98 : decode b_W_trialDigit 98 = .ok (.iload 17, 2) := by decide +kernel
theorem d_W_trialDigit_100 : decode b_W_trialDigit 100 = .ok (.iconst 2, 1) := by decide +kernel
theorem d_W_trialDigit_101 : decode b_W_trialDigit 101 = .ok (.if_icmp .ge 60, 3) := by decide +kernel
theorem d_W_trialDigit_104 : decode b_W_trialDigit 104 = .ok (.lload 15, 2) := by decide +kernel
theorem d_W_trialDigit_106 : decode b_W_trialDigit 106 = .ok (.ldc2_w 43, 3) := by decide +kernel
theorem d_W_trialDigit_109 : decode b_W_trialDigit 109 = .ok (.lcmp, 1) := by decide +kernel
theorem d_W_trialDigit_110 : decode b_W_trialDigit 110 = .ok (.ifCond .gt 51, 3) := by decide +kernel
theorem d_W_trialDigit_113 : decode b_W_trialDigit 113 = .ok (.lload 13, 2) := by decide +kernel
theorem d_W_trialDigit_115 : decode b_W_trialDigit 115 = .ok (.ldc2_w 43, 3) := by decide +kernel
theorem d_W_trialDigit_118 : decode b_W_trialDigit 118 = .ok (.lcmp, 1) := by decide +kernel
theorem d_W_trialDigit_119 : decode b_W_trialDigit 119 = .ok (.ifCond .gt 23, 3) := by decide +kernel
theorem d_W_trialDigit_122 : decode b_W_trialDigit 122 = .ok (.lload 13, 2) := by decide +kernel
theorem d_W_trialDigit_124 : decode b_W_trialDigit 124 = .ok (.lload 7, 2) := by decide +kernel
theorem d_W_trialDigit_126 : decode b_W_trialDigit 126 = .ok (.lmul, 1) := by decide +kernel
theorem d_W_trialDigit_127 : decode b_W_trialDigit 127 = .ok (.lload 15, 2) := by decide +kernel
theorem d_W_trialDigit_129 : decode b_W_trialDigit 129 = .ok (.bipush 31, 2) := by decide +kernel
theorem d_W_trialDigit_131 : decode b_W_trialDigit 131 = .ok (.lshl, 1) := by decide +kernel
theorem d_W_trialDigit_132 : decode b_W_trialDigit 132 = .ok (.lload 11, 2) := by decide +kernel
theorem d_W_trialDigit_134 : decode b_W_trialDigit 134 = .ok (.lor, 1) := by decide +kernel
theorem d_W_trialDigit_135 : decode b_W_trialDigit 135 = .ok (.lcmp, 1) := by decide +kernel
theorem d_W_trialDigit_136 : decode b_W_trialDigit 136 = .ok (.ifCond .gt 6, 3) := by decide +kernel
theorem d_W_trialDigit_139 : decode b_W_trialDigit 139 = .ok (.goto 22, 3) := by decide +kernel
theorem d_W_trialDigit_142 : decode b_W_trialDigit 142 = .ok (.lload 13, 2) := by decide +kernel
theorem d_W_trialDigit_144 : decode b_W_trialDigit 144 = .ok (.lconst 1, 1) := by decide +kernel
theorem d_W_trialDigit_145 : decode b_W_trialDigit 145 = .ok (.lsub, 1) := by decide +kernel
theorem d_W_trialDigit_146 : decode b_W_trialDigit 146 = .ok (.lstore 13, 2) := by decide +kernel
theorem d_W_trialDigit_148 : decode b_W_trialDigit 148 = .ok (.lload 15, 2) := by decide +kernel
theorem d_W_trialDigit_150 : decode b_W_trialDigit 150 = .ok (.lload 5, 2) := by decide +kernel
theorem d_W_trialDigit_152 : decode b_W_trialDigit 152 = .ok (.ladd, 1) := by decide +kernel
theorem d_W_trialDigit_153 : decode b_W_trialDigit 153 = .ok (.lstore 15, 2) := by decide +kernel
theorem d_W_trialDigit_155 : decode b_W_trialDigit 155 = .ok (.iinc 17 1, 3) := by decide +kernel
theorem d_W_trialDigit_158 : decode b_W_trialDigit 158 = .ok (.goto (-60), 3) := by decide +kernel
theorem d_W_trialDigit_161 : decode b_W_trialDigit 161 = .ok (.lload 13, 2) := by decide +kernel
theorem d_W_trialDigit_163 : decode b_W_trialDigit 163 = .ok (.lreturn, 1) := by decide +kernel
theorem d_W_takeAway_0 : decode b_W_takeAway 0 = .ok (.iload 4, 2) := by decide +kernel
theorem d_W_takeAway_2 : decode b_W_takeAway 2 = .ok (.aload_n 1, 1) := by decide +kernel
theorem d_W_takeAway_3 : decode b_W_takeAway 3 = .ok (.getfield 21, 3) := by decide +kernel
theorem d_W_takeAway_6 : decode b_W_takeAway 6 = .ok (.iadd, 1) := by decide +kernel
theorem d_W_takeAway_7 : decode b_W_takeAway 7 = .ok (.istore 5, 2) := by decide +kernel
theorem d_W_takeAway_9 : decode b_W_takeAway 9 = .ok (.iload 4, 2) := by decide +kernel
theorem d_W_takeAway_11 : decode b_W_takeAway 11 = .ok (.ifCond .lt 13, 3) := by decide +kernel
theorem d_W_takeAway_14 : decode b_W_takeAway 14 = .ok (.iload 5, 2) := by decide +kernel
theorem d_W_takeAway_16 : decode b_W_takeAway 16 = .ok (.aload_n 0, 1) := by decide +kernel
theorem d_W_takeAway_17 : decode b_W_takeAway 17 = .ok (.getfield 17, 3) := by decide +kernel
theorem d_W_takeAway_20 : decode b_W_takeAway 20 = .ok (.arraylength, 1) := by decide +kernel
theorem d_W_takeAway_21 : decode b_W_takeAway 21 = .ok (.if_icmp .lt 5, 3) := by decide +kernel
theorem d_W_takeAway_24 : decode b_W_takeAway 24 = .ok (.iconst 0, 1) := by decide +kernel
theorem d_W_takeAway_25 : decode b_W_takeAway 25 = .ok (.ireturn, 1) := by decide +kernel
theorem d_W_takeAway_26 : decode b_W_takeAway 26 = .ok (.lconst 0, 1) := by decide +kernel
theorem d_W_takeAway_27 : decode b_W_takeAway 27 = .ok (.lstore 6, 2) := by decide +kernel
theorem d_W_takeAway_29 : decode b_W_takeAway 29 = .ok (.iconst 0, 1) := by decide +kernel
theorem d_W_takeAway_30 : decode b_W_takeAway 30 = .ok (.istore 8, 2) := by decide +kernel
theorem d_W_takeAway_32 : decode b_W_takeAway 32 = .ok (.iload 8, 2) := by decide +kernel
theorem d_W_takeAway_34 : decode b_W_takeAway 34 = .ok (.aload_n 1, 1) := by decide +kernel
theorem d_W_takeAway_35 : decode b_W_takeAway 35 = .ok (.getfield 21, 3) := by decide +kernel
theorem d_W_takeAway_38 : decode b_W_takeAway 38 = .ok (.if_icmp .ge 60, 3) := by decide +kernel
theorem d_W_takeAway_41 : decode b_W_takeAway 41 = .ok (.aload_n 0, 1) := by decide +kernel
theorem d_W_takeAway_42 : decode b_W_takeAway 42 = .ok (.getfield 17, 3) := by decide +kernel
theorem d_W_takeAway_45 : decode b_W_takeAway 45 = .ok (.iload 4, 2) := by decide +kernel
theorem d_W_takeAway_47 : decode b_W_takeAway 47 = .ok (.iload 8, 2) := by decide +kernel
theorem d_W_takeAway_49 : decode b_W_takeAway 49 = .ok (.iadd, 1) := by decide +kernel
theorem d_W_takeAway_50 : decode b_W_takeAway 50 = .ok (.iaload, 1) := by decide +kernel
theorem d_W_takeAway_51 : decode b_W_takeAway 51 = .ok (.i2l, 1) := by decide +kernel
theorem d_W_takeAway_52 : decode b_W_takeAway 52 = .ok (.lload_n 2, 1) := by decide +kernel
theorem d_W_takeAway_53 : decode b_W_takeAway 53 = .ok (.aload_n 1, 1) := by decide +kernel
theorem d_W_takeAway_54 : decode b_W_takeAway 54 = .ok (.getfield 17, 3) := by decide +kernel
theorem d_W_takeAway_57 : decode b_W_takeAway 57 = .ok (.iload 8, 2) := by decide +kernel
theorem d_W_takeAway_59 : decode b_W_takeAway 59 = .ok (.iaload, 1) := by decide +kernel
theorem d_W_takeAway_60 : decode b_W_takeAway 60 = .ok (.i2l, 1) := by decide +kernel
theorem d_W_takeAway_61 : decode b_W_takeAway 61 = .ok (.lmul, 1) := by decide +kernel
theorem d_W_takeAway_62 : decode b_W_takeAway 62 = .ok (.lsub, 1) := by decide +kernel
theorem d_W_takeAway_63 : decode b_W_takeAway 63 = .ok (.lload 6, 2) := by decide +kernel
theorem d_W_takeAway_65 : decode b_W_takeAway 65 = .ok (.ladd, 1) := by decide +kernel
theorem d_W_takeAway_66 : decode b_W_takeAway 66 = .ok (.lstore 9, 2) := by decide +kernel
theorem d_W_takeAway_68 : decode b_W_takeAway 68 = .ok (.aload_n 0, 1) := by decide +kernel
theorem d_W_takeAway_69 : decode b_W_takeAway 69 = .ok (.getfield 17, 3) := by decide +kernel
theorem d_W_takeAway_72 : decode b_W_takeAway 72 = .ok (.iload 4, 2) := by decide +kernel
theorem d_W_takeAway_74 : decode b_W_takeAway 74 = .ok (.iload 8, 2) := by decide +kernel
theorem d_W_takeAway_76 : decode b_W_takeAway 76 = .ok (.iadd, 1) := by decide +kernel
theorem d_W_takeAway_77 : decode b_W_takeAway 77 = .ok (.lload 9, 2) := by decide +kernel
theorem d_W_takeAway_79 : decode b_W_takeAway 79 = .ok (.ldc2_w 43, 3) := by decide +kernel
theorem d_W_takeAway_82 : decode b_W_takeAway 82 = .ok (.land, 1) := by decide +kernel
theorem d_W_takeAway_83 : decode b_W_takeAway 83 = .ok (.l2i, 1) := by decide +kernel
theorem d_W_takeAway_84 : decode b_W_takeAway 84 = .ok (.iastore, 1) := by decide +kernel
theorem d_W_takeAway_85 : decode b_W_takeAway 85 = .ok (.lload 9, 2) := by decide +kernel
theorem d_W_takeAway_87 : decode b_W_takeAway 87 = .ok (.bipush 31, 2) := by decide +kernel
theorem d_W_takeAway_89 : decode b_W_takeAway 89 = .ok (.lshr, 1) := by decide +kernel
theorem d_W_takeAway_90 : decode b_W_takeAway 90 = .ok (.lstore 6, 2) := by decide +kernel
theorem d_W_takeAway_92 : decode b_W_takeAway 92 = .ok (.iinc 8 1, 3) := by decide +kernel
theorem d_W_takeAway_95 : decode b_W_takeAway 95 = .ok (.goto (-63), 3) := by decide +kernel
theorem d_W_takeAway_98 : decode b_W_takeAway 98 = .ok (.aload_n 0, 1) := by decide +kernel
theorem d_W_takeAway_99 : decode b_W_takeAway 99 = .ok (.getfield 17, 3) := by decide +kernel
theorem d_W_takeAway_102 : decode b_W_takeAway 102 = .ok (.iload 5, 2) := by decide +kernel
theorem d_W_takeAway_104 : decode b_W_takeAway 104 = .ok (.iaload, 1) := by decide +kernel
theorem d_W_takeAway_105 : decode b_W_takeAway 105 = .ok (.i2l, 1) := by decide +kernel
theorem d_W_takeAway_106 : decode b_W_takeAway 106 = .ok (.lload 6, 2) := by decide +kernel
theorem d_W_takeAway_108 : decode b_W_takeAway 108 = .ok (.ladd, 1) := by decide +kernel
theorem d_W_takeAway_109 : decode b_W_takeAway 109 = .ok (.lconst 0, 1) := by decide +kernel
theorem d_W_takeAway_110 : decode b_W_takeAway 110 = .ok (.lcmp, 1) := by decide +kernel
theorem d_W_takeAway_111 : decode b_W_takeAway 111 = .ok (.ifCond .ge 7, 3) := by decide +kernel
theorem d_W_takeAway_114 : decode b_W_takeAway 114 = .ok (.iconst 1, 1) := by decide +kernel
theorem d_W_takeAway_115 : decode b_W_takeAway 115 = .ok (.goto 4, 3) := by decide +kernel
theorem d_W_takeAway_118 : decode b_W_takeAway 118 = .ok (.iconst 0, 1) := by decide +kernel
theorem d_W_takeAway_119 : decode b_W_takeAway 119 = .ok (.ireturn, 1) := by decide +kernel
theorem d_B_divideOut_0 : decode b_B_divideOut 0 = .ok (.aload_n 2, 1) := by decide +kernel
theorem d_B_divideOut_1 : decode b_B_divideOut 1 = .ok (.invokevirtual 43, 3) := by decide +kernel
theorem d_B_divideOut_4 : decode b_B_divideOut 4 = .ok (.ifCond .ne 20, 3) := by decide +kernel
theorem d_B_divideOut_7 : decode b_B_divideOut 7 = .ok (.aload_n 1, 1) := by decide +kernel
theorem d_B_divideOut_8 : decode b_B_divideOut 8 = .ok (.aload_n 2, 1) := by decide +kernel
theorem d_B_divideOut_9 : decode b_B_divideOut 9 = .ok (.aload_n 0, 1) := by decide +kernel
theorem d_B_divideOut_10 : decode b_B_divideOut 10 = .ok (.getfield 29, 3) := by decide +kernel
theorem d_B_divideOut_13 : decode b_B_divideOut 13 = .ok (.invokevirtual 63, 3) := by decide +kernel
theorem d_B_divideOut_16 : decode b_B_divideOut 16 = .ok (.aload_n 1, 1) := by decide +kernel
theorem d_B_divideOut_17 : decode b_B_divideOut 17 = .ok (.aload_n 0, 1) := by decide +kernel
theorem d_B_divideOut_18 : decode b_B_divideOut 18 = .ok (.getfield 29, 3) := by decide +kernel
theorem d_B_divideOut_21 : decode b_B_divideOut 21 = .ok (.invokevirtual 47, 3) := by decide +kernel
theorem d_B_divideOut_24 : decode b_B_divideOut 24 = .ok (.return_, 1) := by decide +kernel
theorem d_B_keep_0 : decode b_B_keep 0 = .ok (.aload_n 0, 1) := by decide +kernel
theorem d_B_keep_1 : decode b_B_keep 1 = .ok (.getfield 16, 3) := by decide +kernel
theorem d_B_keep_4 : decode b_B_keep 4 = .ok (.invokevirtual 66, 3) := by decide +kernel
theorem d_B_keep_7 : decode b_B_keep 7 = .ok (.ifCond .eq 13, 3) := by decide +kernel
theorem d_B_keep_10 : decode b_B_keep 10 = .ok (.aload_n 0, 1) := by decide +kernel
theorem d_B_keep_11 : decode b_B_keep 11 = .ok (.getfield 20, 3) := by decide +kernel
theorem d_B_keep_14 : decode b_B_keep 14 = .ok (.invokevirtual 66, 3) := by decide +kernel
theorem d_B_keep_17 : decode b_B_keep 17 = .ok (.ifCond .ne 5, 3) := by decide +kernel
theorem d_B_keep_20 : decode b_B_keep 20 = .ok (.iconst (-1), 1) := by decide +kernel
theorem d_B_keep_21 : decode b_B_keep 21 = .ok (.ireturn, 1) := by decide +kernel
theorem d_B_keep_22 : decode b_B_keep 22 = .ok (.aload_n 1, 1) := by decide +kernel
theorem d_B_keep_23 : decode b_B_keep 23 = .ok (.getfield 69, 3) := by decide +kernel
theorem d_B_keep_26 : decode b_B_keep 26 = .ok (.aload_n 0, 1) := by decide +kernel
theorem d_B_keep_27 : decode b_B_keep 27 = .ok (.getfield 16, 3) := by decide +kernel
theorem d_B_keep_30 : decode b_B_keep 30 = .ok (.invokevirtual 47, 3) := by decide +kernel
theorem d_B_keep_33 : decode b_B_keep 33 = .ok (.aload_n 1, 1) := by decide +kernel
theorem d_B_keep_34 : decode b_B_keep 34 = .ok (.getfield 72, 3) := by decide +kernel
theorem d_B_keep_37 : decode b_B_keep 37 = .ok (.aload_n 0, 1) := by decide +kernel
theorem d_B_keep_38 : decode b_B_keep 38 = .ok (.getfield 20, 3) := by decide +kernel
theorem d_B_keep_41 : decode b_B_keep 41 = .ok (.invokevirtual 47, 3) := by decide +kernel
theorem d_B_keep_44 : decode b_B_keep 44 = .ok (.aload_n 1, 1) := by decide +kernel
theorem d_B_keep_45 : decode b_B_keep 45 = .ok (.aload_n 0, 1) := by decide +kernel
theorem d_B_keep_46 : decode b_B_keep 46 = .ok (.getfield 39, 3) := by decide +kernel
theorem d_B_keep_49 : decode b_B_keep 49 = .ok (.ifCond .eq 17, 3) := by decide +kernel
theorem d_B_keep_52 : decode b_B_keep 52 = .ok (.aload_n 0, 1) := by decide +kernel
theorem d_B_keep_53 : decode b_B_keep 53 = .ok (.getfield 16, 3) := by decide +kernel
theorem d_B_keep_56 : decode b_B_keep 56 = .ok (.invokevirtual 73, 3) := by decide +kernel
theorem d_B_keep_59 : decode b_B_keep 59 = .ok (.ifCond .ne 7, 3) := by decide +kernel
theorem d_B_keep_62 : decode b_B_keep 62 = .ok (.iconst 1, 1) := by decide +kernel
theorem d_B_keep_63 : decode b_B_keep 63 = .ok (.goto 4, 3) := by decide +kernel
theorem d_B_keep_66 : decode b_B_keep 66 = .ok (.iconst 0, 1) := by decide +kernel
theorem d_B_keep_67 : decode b_B_keep 67 = .ok (.putfield 76, 3) := by decide +kernel
theorem d_B_keep_70 : decode b_B_keep 70 = .ok (.iconst 0, 1) := by decide +kernel
theorem d_B_keep_71 : decode b_B_keep 71 = .ok (.ireturn, 1) := by decide +kernel
theorem d_W_isSmallEnough_0 : decode b_W_isSmallEnough 0 = .ok (.aload_n 0, 1) := by decide +kernel
theorem d_W_isSmallEnough_1 : decode b_W_isSmallEnough 1 = .ok (.invokevirtual 25, 3) := by decide +kernel
theorem d_W_isSmallEnough_4 : decode b_W_isSmallEnough 4 = .ok (.sipush 2048, 3) := by decide +kernel
theorem d_W_isSmallEnough_7 : decode b_W_isSmallEnough 7 = .ok (.if_icmp .gt 7, 3) := by decide +kernel
theorem d_W_isSmallEnough_10 : decode b_W_isSmallEnough 10 = .ok (.iconst 1, 1) := by decide +kernel
theorem d_W_isSmallEnough_11 : decode b_W_isSmallEnough 11 = .ok (.goto 4, 3) := by decide +kernel
theorem d_W_isSmallEnough_14 : decode b_W_isSmallEnough 14 = .ok (.iconst 0, 1) := by decide +kernel
theorem d_W_isSmallEnough_15 : decode b_W_isSmallEnough 15 = .ok (.ireturn, 1) := by decide +kernel
theorem d_W_bits_0 : decode b_W_bits 0 = .ok (.aload_n 0, 1) := by decide +kernel
theorem d_W_bits_1 : decode b_W_bits 1 = .ok (.getfield 21, 3) := by decide +kernel
theorem d_W_bits_4 : decode b_W_bits 4 = .ok (.ifCond .ne 5, 3) := by decide +kernel
theorem d_W_bits_7 : decode b_W_bits 7 = .ok (.iconst 0, 1) := by decide +kernel
theorem d_W_bits_8 : decode b_W_bits 8 = .ok (.ireturn, 1) := by decide +kernel
theorem d_W_bits_9 : decode b_W_bits 9 = .ok (.aload_n 0, 1) := by decide +kernel
theorem d_W_bits_10 : decode b_W_bits 10 = .ok (.getfield 21, 3) := by decide +kernel
theorem d_W_bits_13 : decode b_W_bits 13 = .ok (.bipush 31, 2) := by decide +kernel
theorem d_W_bits_15 : decode b_W_bits 15 = .ok (.imul, 1) := by decide +kernel
theorem d_W_bits_16 : decode b_W_bits 16 = .ok (.aload_n 0, 1) := by decide +kernel
theorem d_W_bits_17 : decode b_W_bits 17 = .ok (.invokevirtual 29, 3) := by decide +kernel
theorem d_W_bits_20 : decode b_W_bits 20 = .ok (.isub, 1) := by decide +kernel
theorem d_W_bits_21 : decode b_W_bits 21 = .ok (.ireturn, 1) := by decide +kernel
theorem d_L_combine_0 : decode b_L_combine 0 = .ok (.aload 5, 2) := by decide +kernel
theorem d_L_combine_2 : decode b_L_combine 2 = .ok (.iconst 0, 1) := by decide +kernel
theorem d_L_combine_3 : decode b_L_combine 3 = .ok (.aload_n 0, 1) := by decide +kernel
theorem d_L_combine_4 : decode b_L_combine 4 = .ok (.iload_n 1, 1) := by decide +kernel
theorem d_L_combine_5 : decode b_L_combine 5 = .ok (.iload_n 2, 1) := by decide +kernel
theorem d_L_combine_6 : decode b_L_combine 6 = .ok (.iload_n 3, 1) := by decide +kernel
theorem d_L_combine_7 : decode b_L_combine 7 = .ok (.iload 4, 2) := by decide +kernel
theorem d_L_combine_9 : decode b_L_combine 9 = .ok (.invokevirtual 15, 3) := by decide +kernel
theorem d_L_combine_12 : decode b_L_combine 12 = .ok (.i2l, 1) := by decide +kernel
theorem d_L_combine_13 : decode b_L_combine 13 = .ok (.lastore, 1) := by decide +kernel
theorem d_L_combine_14 : decode b_L_combine 14 = .ok (.goto 7, 3) := by decide +kernel
theorem d_L_combine_17 : decode b_L_combine 17 = .ok (.astore 6, 2) := by decide +kernel
theorem d_L_combine_19 : decode b_L_combine 19 = .ok (.iconst 1, 1) := by decide +kernel
theorem d_L_combine_20 : decode b_L_combine 20 = .ok (.ireturn, 1) := by decide +kernel
theorem d_L_combine_21 : decode b_L_combine 21 = .ok (.iconst 0, 1) := by decide +kernel
theorem d_L_combine_22 : decode b_L_combine 22 = .ok (.ireturn, 1) := by decide +kernel
theorem d_K_combine_0 : decode b_K_combine 0 = .ok (.aload_n 0, 1) := by decide +kernel
theorem d_K_combine_1 : decode b_K_combine 1 = .ok (.iload_n 1, 1) := by decide +kernel
theorem d_K_combine_2 : decode b_K_combine 2 = .ok (.invokevirtual 34, 3) := by decide +kernel
theorem d_K_combine_5 : decode b_K_combine 5 = .ok (.astore 5, 2) := by decide +kernel
theorem d_K_combine_7 : decode b_K_combine 7 = .ok (.aload_n 0, 1) := by decide +kernel
theorem d_K_combine_8 : decode b_K_combine 8 = .ok (.iload_n 3, 1) := by decide +kernel
theorem d_K_combine_9 : decode b_K_combine 9 = .ok (.invokevirtual 34, 3) := by decide +kernel
theorem d_K_combine_12 : decode b_K_combine 12 = .ok (.astore 6, 2) := by decide +kernel
theorem d_K_combine_14 : decode b_K_combine 14 = .ok (.aload_n 0, 1) := by decide +kernel
theorem d_K_combine_15 : decode b_K_combine 15 = .ok (.iload 4, 2) := by decide +kernel
theorem d_K_combine_17 : decode b_K_combine 17 = .ok (.invokevirtual 34, 3) := by decide +kernel
theorem d_K_combine_20 : decode b_K_combine 20 = .ok (.astore 7, 2) := by decide +kernel
theorem d_K_combine_22 : decode b_K_combine 22 = .ok (.iload_n 2, 1) := by decide +kernel
theorem d_K_combine_23 : decode b_K_combine 23 = .ok (.ifCond .lt 9, 3) := by decide +kernel
theorem d_K_combine_26 : decode b_K_combine 26 = .ok (.iload_n 2, 1) := by decide +kernel
theorem d_K_combine_27 : decode b_K_combine 27 = .ok (.bipush 8, 2) := by decide +kernel
theorem d_K_combine_29 : decode b_K_combine 29 = .ok (.if_icmp .le 13, 3) := by decide +kernel
theorem d_K_combine_32 : decode b_K_combine 32 = .ok (.new 38, 3) := by decide +kernel
theorem d_K_combine_35 : decode b_K_combine 35 = .ok (.dup, 1) := by decide +kernel
theorem d_K_combine_36 : decode b_K_combine 36 = .ok (.ldc 53, 2) := by decide +kernel
theorem d_K_combine_38 : decode b_K_combine 38 = .ok (.invokespecial 42, 3) := by decide +kernel
theorem d_K_combine_41 : decode b_K_combine 41 = .ok (.athrow, 1) := by decide +kernel
theorem d_K_combine_42 : decode b_K_combine 42 = .ok (.iload_n 2, 1) := by decide +kernel
theorem d_K_combine_43 : decode b_K_combine 43 = .ok (.bipush 8, 2) := by decide +kernel
theorem d_K_combine_45 : decode b_K_combine 45 = .ok (.if_icmp .ne 29, 3) := by decide +kernel
theorem d_K_combine_48 : decode b_K_combine 48 = .ok (.aload 6, 2) := by decide +kernel
theorem d_K_combine_50 : decode b_K_combine 50 = .ok (.invokevirtual 55, 3) := by decide +kernel
theorem d_K_combine_53 : decode b_K_combine 53 = .ok (.ifCond .eq 11, 3) := by decide +kernel
theorem d_K_combine_56 : decode b_K_combine 56 = .ok (.aload 7, 2) := by decide +kernel
theorem d_K_combine_58 : decode b_K_combine 58 = .ok (.invokevirtual 55, 3) := by decide +kernel
theorem d_K_combine_61 : decode b_K_combine 61 = .ok (.ifCond .ne 13, 3) := by decide +kernel
theorem d_K_combine_64 : decode b_K_combine 64 = .ok (.new 38, 3) := by decide +kernel
theorem d_K_combine_67 : decode b_K_combine 67 = .ok (.dup, 1) := by decide +kernel
theorem d_K_combine_68 : decode b_K_combine 68 = .ok (.ldc 59, 2) := by decide +kernel
theorem d_K_combine_70 : decode b_K_combine 70 = .ok (.invokespecial 42, 3) := by decide +kernel
theorem d_K_combine_73 : decode b_K_combine 73 = .ok (.athrow, 1) := by decide +kernel
theorem d_K_combine_74 : decode b_K_combine 74 = .ok (.iload_n 2, 1) := by decide +kernel
theorem d_K_combine_75 : decode b_K_combine 75 = .ok (.iconst 3, 1) := by decide +kernel
theorem d_K_combine_76 : decode b_K_combine 76 = .ok (.if_icmp .eq 15, 3) := by decide +kernel
theorem d_K_combine_79 : decode b_K_combine 79 = .ok (.iload_n 2, 1) := by decide +kernel
theorem d_K_combine_80 : decode b_K_combine 80 = .ok (.bipush 6, 2) := by decide +kernel
theorem d_K_combine_82 : decode b_K_combine 82 = .ok (.if_icmp .eq 9, 3) := by decide +kernel
theorem d_K_combine_85 : decode b_K_combine 85 = .ok (.iload_n 2, 1) := by decide +kernel
theorem d_K_combine_86 : decode b_K_combine 86 = .ok (.bipush 7, 2) := by decide +kernel
theorem d_K_combine_88 : decode b_K_combine 88 = .ok (.if_icmp .ne 7, 3) := by decide +kernel
theorem d_K_combine_91 : decode b_K_combine 91 = .ok (.iconst 1, 1) := by decide +kernel
theorem d_K_combine_92 : decode b_K_combine 92 = .ok (.goto 4, 3) := by decide +kernel
theorem d_K_combine_95 : decode b_K_combine 95 = .ok (.iconst 0, 1) := by decide +kernel
theorem d_K_combine_96 : decode b_K_combine 96 = .ok (.istore 8, 2) := by decide +kernel
theorem d_K_combine_98 : decode b_K_combine 98 = .ok (.iload 8, 2) := by decide +kernel
theorem d_K_combine_100 : decode b_K_combine 100 = .ok (.ifCond .eq 14, 3) := by decide +kernel
theorem d_K_combine_103 : decode b_K_combine 103 = .ok (.aload 7, 2) := by decide +kernel
theorem d_K_combine_105 : decode b_K_combine 105 = .ok (.invokevirtual 61, 3) := by decide +kernel
theorem d_K_combine_108 : decode b_K_combine 108 = .ok (.ifCond .ne 6, 3) := by decide +kernel
theorem d_K_combine_111 : decode b_K_combine 111 = .ok (.bipush (-2), 2) := by decide +kernel
theorem d_K_combine_113 : decode b_K_combine 113 = .ok (.ireturn, 1) := by decide +kernel
theorem d_K_combine_114 : decode b_K_combine 114 = .ok (.iload_n 2, 1) := by decide +kernel
theorem d_K_combine_115 : decode b_K_combine 115 = .ok (.tableswitch 265 0 7 #[45, 71, 105, 126, 147, 185, 223, 244], 45) := by decide +kernel
theorem d_K_combine_160 : decode b_K_combine 160 = .ok (.aload_n 0, 1) := by decide +kernel
theorem d_K_combine_161 : decode b_K_combine 161 = .ok (.getfield 19, 3) := by decide +kernel
theorem d_K_combine_164 : decode b_K_combine 164 = .ok (.aload 6, 2) := by decide +kernel
theorem d_K_combine_166 : decode b_K_combine 166 = .ok (.aload 7, 2) := by decide +kernel
theorem d_K_combine_168 : decode b_K_combine 168 = .ok (.aload 7, 2) := by decide +kernel
theorem d_K_combine_170 : decode b_K_combine 170 = .ok (.getfield 65, 3) := by decide +kernel
theorem d_K_combine_173 : decode b_K_combine 173 = .ok (.invokevirtual 69, 3) := by decide +kernel
theorem d_K_combine_176 : decode b_K_combine 176 = .ok (.aload_n 0, 1) := by decide +kernel
theorem d_K_combine_177 : decode b_K_combine 177 = .ok (.getfield 19, 3) := by decide +kernel
theorem d_K_combine_180 : decode b_K_combine 180 = .ok (.aload 5, 2) := by decide +kernel
theorem d_K_combine_182 : decode b_K_combine 182 = .ok (.invokevirtual 49, 3) := by decide +kernel
theorem d_K_combine_185 : decode b_K_combine 185 = .ok (.ireturn, 1) := by decide +kernel
theorem d_K_combine_186 : decode b_K_combine 186 = .ok (.aload_n 0, 1) := by decide +kernel
theorem d_K_combine_187 : decode b_K_combine 187 = .ok (.getfield 19, 3) := by decide +kernel
theorem d_K_combine_190 : decode b_K_combine 190 = .ok (.aload 6, 2) := by decide +kernel
theorem d_K_combine_192 : decode b_K_combine 192 = .ok (.aload 7, 2) := by decide +kernel
theorem d_K_combine_194 : decode b_K_combine 194 = .ok (.aload 7, 2) := by decide +kernel
theorem d_K_combine_196 : decode b_K_combine 196 = .ok (.getfield 65, 3) := by decide +kernel
theorem d_K_combine_199 : decode b_K_combine 199 = .ok (.ifCond .ne 7, 3) := by decide +kernel
theorem d_K_combine_202 : decode b_K_combine 202 = .ok (.iconst 1, 1) := by decide +kernel
theorem d_K_combine_203 : decode b_K_combine 203 = .ok (.goto 4, 3) := by decide +kernel
theorem d_K_combine_206 : decode b_K_combine 206 = .ok (.iconst 0, 1) := by decide +kernel
theorem d_K_combine_207 : decode b_K_combine 207 = .ok (.invokevirtual 69, 3) := by decide +kernel
theorem d_K_combine_210 : decode b_K_combine 210 = .ok (.aload_n 0, 1) := by decide +kernel
theorem d_K_combine_211 : decode b_K_combine 211 = .ok (.getfield 19, 3) := by decide +kernel
theorem d_K_combine_214 : decode b_K_combine 214 = .ok (.aload 5, 2) := by decide +kernel
theorem d_K_combine_216 : decode b_K_combine 216 = .ok (.invokevirtual 49, 3) := by decide +kernel
theorem d_K_combine_219 : decode b_K_combine 219 = .ok (.ireturn, 1) := by decide +kernel
theorem d_K_combine_220 : decode b_K_combine 220 = .ok (.aload_n 0, 1) := by decide +kernel
theorem d_K_combine_221 : decode b_K_combine 221 = .ok (.getfield 19, 3) := by decide +kernel
theorem d_K_combine_224 : decode b_K_combine 224 = .ok (.aload 6, 2) := by decide +kernel
theorem d_K_combine_226 : decode b_K_combine 226 = .ok (.aload 7, 2) := by decide +kernel
theorem d_K_combine_228 : decode b_K_combine 228 = .ok (.invokevirtual 73, 3) := by decide +kernel
theorem d_K_combine_231 : decode b_K_combine 231 = .ok (.aload_n 0, 1) := by decide +kernel
theorem d_K_combine_232 : decode b_K_combine 232 = .ok (.getfield 19, 3) := by decide +kernel
theorem d_K_combine_235 : decode b_K_combine 235 = .ok (.aload 5, 2) := by decide +kernel
theorem d_K_combine_237 : decode b_K_combine 237 = .ok (.invokevirtual 49, 3) := by decide +kernel
theorem d_K_combine_240 : decode b_K_combine 240 = .ok (.ireturn, 1) := by decide +kernel
theorem d_K_combine_241 : decode b_K_combine 241 = .ok (.aload_n 0, 1) := by decide +kernel
theorem d_K_combine_242 : decode b_K_combine 242 = .ok (.getfield 19, 3) := by decide +kernel
theorem d_K_combine_245 : decode b_K_combine 245 = .ok (.aload 6, 2) := by decide +kernel
theorem d_K_combine_247 : decode b_K_combine 247 = .ok (.aload 7, 2) := by decide +kernel
theorem d_K_combine_249 : decode b_K_combine 249 = .ok (.invokevirtual 77, 3) := by decide +kernel
theorem d_K_combine_252 : decode b_K_combine 252 = .ok (.aload_n 0, 1) := by decide +kernel
theorem d_K_combine_253 : decode b_K_combine 253 = .ok (.getfield 19, 3) := by decide +kernel
theorem d_K_combine_256 : decode b_K_combine 256 = .ok (.aload 5, 2) := by decide +kernel
theorem d_K_combine_258 : decode b_K_combine 258 = .ok (.invokevirtual 49, 3) := by decide +kernel
theorem d_K_combine_261 : decode b_K_combine 261 = .ok (.ireturn, 1) := by decide +kernel
theorem d_K_combine_262 : decode b_K_combine 262 = .ok (.aload_n 0, 1) := by decide +kernel
theorem d_K_combine_263 : decode b_K_combine 263 = .ok (.getfield 19, 3) := by decide +kernel
theorem d_K_combine_266 : decode b_K_combine 266 = .ok (.aload_n 0, 1) := by decide +kernel
theorem d_K_combine_267 : decode b_K_combine 267 = .ok (.getfield 19, 3) := by decide +kernel
theorem d_K_combine_270 : decode b_K_combine 270 = .ok (.aload 6, 2) := by decide +kernel
theorem d_K_combine_272 : decode b_K_combine 272 = .ok (.aload 7, 2) := by decide +kernel
theorem d_K_combine_274 : decode b_K_combine 274 = .ok (.invokevirtual 80, 3) := by decide +kernel
theorem d_K_combine_277 : decode b_K_combine 277 = .ok (.ifCond .gt 8, 3) := by decide +kernel
theorem d_K_combine_280 : decode b_K_combine 280 = .ok (.aload 6, 2) := by decide +kernel
theorem d_K_combine_282 : decode b_K_combine 282 = .ok (.goto 5, 3) := by decide +kernel
theorem d_K_combine_285 : decode b_K_combine 285 = .ok (.aload 7, 2) := by decide +kernel
theorem d_K_combine_287 : decode b_K_combine 287 = .ok (.invokevirtual 84, 3) := by decide +kernel
theorem d_K_combine_290 : decode b_K_combine 290 = .ok (.aload_n 0, 1) := by decide +kernel
theorem d_K_combine_291 : decode b_K_combine 291 = .ok (.getfield 19, 3) := by decide +kernel
theorem d_K_combine_294 : decode b_K_combine 294 = .ok (.aload 5, 2) := by decide +kernel
theorem d_K_combine_296 : decode b_K_combine 296 = .ok (.invokevirtual 88, 3) := by decide +kernel
theorem d_K_combine_299 : decode b_K_combine 299 = .ok (.ireturn, 1) := by decide +kernel
theorem d_K_combine_300 : decode b_K_combine 300 = .ok (.aload_n 0, 1) := by decide +kernel
theorem d_K_combine_301 : decode b_K_combine 301 = .ok (.getfield 19, 3) := by decide +kernel
theorem d_K_combine_304 : decode b_K_combine 304 = .ok (.aload_n 0, 1) := by decide +kernel
theorem d_K_combine_305 : decode b_K_combine 305 = .ok (.getfield 19, 3) := by decide +kernel
theorem d_K_combine_308 : decode b_K_combine 308 = .ok (.aload 6, 2) := by decide +kernel
theorem d_K_combine_310 : decode b_K_combine 310 = .ok (.aload 7, 2) := by decide +kernel
theorem d_K_combine_312 : decode b_K_combine 312 = .ok (.invokevirtual 80, 3) := by decide +kernel
theorem d_K_combine_315 : decode b_K_combine 315 = .ok (.ifCond .lt 8, 3) := by decide +kernel
theorem d_K_combine_318 : decode b_K_combine 318 = .ok (.aload 6, 2) := by decide +kernel
theorem d_K_combine_320 : decode b_K_combine 320 = .ok (.goto 5, 3) := by decide +kernel
theorem d_K_combine_323 : decode b_K_combine 323 = .ok (.aload 7, 2) := by decide +kernel
theorem d_K_combine_325 : decode b_K_combine 325 = .ok (.invokevirtual 84, 3) := by decide +kernel
theorem d_K_combine_328 : decode b_K_combine 328 = .ok (.aload_n 0, 1) := by decide +kernel
theorem d_K_combine_329 : decode b_K_combine 329 = .ok (.getfield 19, 3) := by decide +kernel
theorem d_K_combine_332 : decode b_K_combine 332 = .ok (.aload 5, 2) := by decide +kernel
theorem d_K_combine_334 : decode b_K_combine 334 = .ok (.invokevirtual 88, 3) := by decide +kernel
theorem d_K_combine_337 : decode b_K_combine 337 = .ok (.ireturn, 1) := by decide +kernel
theorem d_K_combine_338 : decode b_K_combine 338 = .ok (.aload_n 0, 1) := by decide +kernel
theorem d_K_combine_339 : decode b_K_combine 339 = .ok (.getfield 19, 3) := by decide +kernel
theorem d_K_combine_342 : decode b_K_combine 342 = .ok (.aload 6, 2) := by decide +kernel
theorem d_K_combine_344 : decode b_K_combine 344 = .ok (.aload 7, 2) := by decide +kernel
theorem d_K_combine_346 : decode b_K_combine 346 = .ok (.invokevirtual 91, 3) := by decide +kernel
theorem d_K_combine_349 : decode b_K_combine 349 = .ok (.aload_n 0, 1) := by decide +kernel
theorem d_K_combine_350 : decode b_K_combine 350 = .ok (.getfield 19, 3) := by decide +kernel
theorem d_K_combine_353 : decode b_K_combine 353 = .ok (.aload 5, 2) := by decide +kernel
theorem d_K_combine_355 : decode b_K_combine 355 = .ok (.invokevirtual 88, 3) := by decide +kernel
theorem d_K_combine_358 : decode b_K_combine 358 = .ok (.ireturn, 1) := by decide +kernel
theorem d_K_combine_359 : decode b_K_combine 359 = .ok (.aload_n 0, 1) := by decide +kernel
theorem d_K_combine_360 : decode b_K_combine 360 = .ok (.getfield 19, 3) := by decide +kernel
theorem d_K_combine_363 : decode b_K_combine 363 = .ok (.aload 6, 2) := by decide +kernel
theorem d_K_combine_365 : decode b_K_combine 365 = .ok (.aload 7, 2) := by decide +kernel
theorem d_K_combine_367 : decode b_K_combine 367 = .ok (.invokevirtual 94, 3) := by decide +kernel
theorem d_K_combine_370 : decode b_K_combine 370 = .ok (.aload_n 0, 1) := by decide +kernel
theorem d_K_combine_371 : decode b_K_combine 371 = .ok (.getfield 19, 3) := by decide +kernel
theorem d_K_combine_374 : decode b_K_combine 374 = .ok (.aload 5, 2) := by decide +kernel
theorem d_K_combine_376 : decode b_K_combine 376 = .ok (.invokevirtual 49, 3) := by decide +kernel
theorem d_K_combine_379 : decode b_K_combine 379 = .ok (.ireturn, 1) := by decide +kernel
theorem d_K_combine_380 : decode b_K_combine 380 = .ok (.aload_n 0, 1) := by decide +kernel
theorem d_K_combine_381 : decode b_K_combine 381 = .ok (.getfield 19, 3) := by decide +kernel
theorem d_K_combine_384 : decode b_K_combine 384 = .ok (.aload 6, 2) := by decide +kernel
theorem d_K_combine_386 : decode b_K_combine 386 = .ok (.aload 7, 2) := by decide +kernel
theorem d_K_combine_388 : decode b_K_combine 388 = .ok (.invokevirtual 97, 3) := by decide +kernel
theorem d_K_combine_391 : decode b_K_combine 391 = .ok (.aload_n 0, 1) := by decide +kernel
theorem d_K_combine_392 : decode b_K_combine 392 = .ok (.getfield 19, 3) := by decide +kernel
theorem d_K_combine_395 : decode b_K_combine 395 = .ok (.aload 5, 2) := by decide +kernel
theorem d_K_combine_397 : decode b_K_combine 397 = .ok (.invokevirtual 88, 3) := by decide +kernel
theorem d_K_combine_400 : decode b_K_combine 400 = .ok (.ireturn, 1) := by decide +kernel
theorem d_F_isWhole_0 : decode b_F_isWhole 0 = .ok (.aload_n 0, 1) := by decide +kernel
theorem d_F_isWhole_1 : decode b_F_isWhole 1 = .ok (.getfield 18, 3) := by decide +kernel
theorem d_F_isWhole_4 : decode b_F_isWhole 4 = .ok (.invokevirtual 29, 3) := by decide +kernel
theorem d_F_isWhole_7 : decode b_F_isWhole 7 = .ok (.ireturn, 1) := by decide +kernel
theorem d_F_signum_0 : decode b_F_signum 0 = .ok (.aload_n 0, 1) := by decide +kernel
theorem d_F_signum_1 : decode b_F_signum 1 = .ok (.getfield 14, 3) := by decide +kernel
theorem d_F_signum_4 : decode b_F_signum 4 = .ok (.invokevirtual 33, 3) := by decide +kernel
theorem d_F_signum_7 : decode b_F_signum 7 = .ok (.ifCond .eq 5, 3) := by decide +kernel
theorem d_F_signum_10 : decode b_F_signum 10 = .ok (.iconst 0, 1) := by decide +kernel
theorem d_F_signum_11 : decode b_F_signum 11 = .ok (.ireturn, 1) := by decide +kernel
theorem d_F_signum_12 : decode b_F_signum 12 = .ok (.aload_n 0, 1) := by decide +kernel
theorem d_F_signum_13 : decode b_F_signum 13 = .ok (.getfield 25, 3) := by decide +kernel
theorem d_F_signum_16 : decode b_F_signum 16 = .ok (.ifCond .eq 7, 3) := by decide +kernel
theorem d_F_signum_19 : decode b_F_signum 19 = .ok (.iconst (-1), 1) := by decide +kernel
theorem d_F_signum_20 : decode b_F_signum 20 = .ok (.goto 4, 3) := by decide +kernel
theorem d_F_signum_23 : decode b_F_signum 23 = .ok (.iconst 1, 1) := by decide +kernel
theorem d_F_signum_24 : decode b_F_signum 24 = .ok (.ireturn, 1) := by decide +kernel
theorem d_B_add_0 : decode b_B_add 0 = .ok (.aload_n 0, 1) := by decide +kernel
theorem d_B_add_1 : decode b_B_add 1 = .ok (.aload_n 1, 1) := by decide +kernel
theorem d_B_add_2 : decode b_B_add 2 = .ok (.aload_n 2, 1) := by decide +kernel
theorem d_B_add_3 : decode b_B_add 3 = .ok (.invokevirtual 115, 3) := by decide +kernel
theorem d_B_add_6 : decode b_B_add 6 = .ok (.aload_n 0, 1) := by decide +kernel
theorem d_B_add_7 : decode b_B_add 7 = .ok (.getfield 20, 3) := by decide +kernel
theorem d_B_add_10 : decode b_B_add 10 = .ok (.aload_n 1, 1) := by decide +kernel
theorem d_B_add_11 : decode b_B_add 11 = .ok (.getfield 72, 3) := by decide +kernel
theorem d_B_add_14 : decode b_B_add 14 = .ok (.aload_n 2, 1) := by decide +kernel
theorem d_B_add_15 : decode b_B_add 15 = .ok (.getfield 72, 3) := by decide +kernel
theorem d_B_add_18 : decode b_B_add 18 = .ok (.invokevirtual 109, 3) := by decide +kernel
theorem d_B_add_21 : decode b_B_add 21 = .ok (.aload_n 0, 1) := by decide +kernel
theorem d_B_add_22 : decode b_B_add 22 = .ok (.aload_n 1, 1) := by decide +kernel
theorem d_B_add_23 : decode b_B_add 23 = .ok (.getfield 76, 3) := by decide +kernel
theorem d_B_add_26 : decode b_B_add 26 = .ok (.putfield 39, 3) := by decide +kernel
theorem d_B_add_29 : decode b_B_add 29 = .ok (.aload_n 1, 1) := by decide +kernel
theorem d_B_add_30 : decode b_B_add 30 = .ok (.getfield 76, 3) := by decide +kernel
theorem d_B_add_33 : decode b_B_add 33 = .ok (.iload_n 3, 1) := by decide +kernel
theorem d_B_add_34 : decode b_B_add 34 = .ok (.if_icmp .ne 23, 3) := by decide +kernel
theorem d_B_add_37 : decode b_B_add 37 = .ok (.aload_n 0, 1) := by decide +kernel
theorem d_B_add_38 : decode b_B_add 38 = .ok (.getfield 16, 3) := by decide +kernel
theorem d_B_add_41 : decode b_B_add 41 = .ok (.lconst 1, 1) := by decide +kernel
theorem d_B_add_42 : decode b_B_add 42 = .ok (.aload_n 0, 1) := by decide +kernel
theorem d_B_add_43 : decode b_B_add 43 = .ok (.getfield 23, 3) := by decide +kernel
theorem d_B_add_46 : decode b_B_add 46 = .ok (.lconst 1, 1) := by decide +kernel
theorem d_B_add_47 : decode b_B_add 47 = .ok (.aload_n 0, 1) := by decide +kernel
theorem d_B_add_48 : decode b_B_add 48 = .ok (.getfield 26, 3) := by decide +kernel
theorem d_B_add_51 : decode b_B_add 51 = .ok (.invokevirtual 123, 3) := by decide +kernel
theorem d_B_add_54 : decode b_B_add 54 = .ok (.goto 63, 3) := by decide +kernel
theorem d_B_add_57 : decode b_B_add 57 = .ok (.aload_n 0, 1) := by decide +kernel
theorem d_B_add_58 : decode b_B_add 58 = .ok (.getfield 23, 3) := by decide +kernel
theorem d_B_add_61 : decode b_B_add 61 = .ok (.aload_n 0, 1) := by decide +kernel
theorem d_B_add_62 : decode b_B_add 62 = .ok (.getfield 26, 3) := by decide +kernel
theorem d_B_add_65 : decode b_B_add 65 = .ok (.invokestatic 119, 3) := by decide +kernel
theorem d_B_add_68 : decode b_B_add 68 = .ok (.ifCond .lt 25, 3) := by decide +kernel
theorem d_B_add_71 : decode b_B_add 71 = .ok (.aload_n 0, 1) := by decide +kernel
theorem d_B_add_72 : decode b_B_add 72 = .ok (.getfield 16, 3) := by decide +kernel
theorem d_B_add_75 : decode b_B_add 75 = .ok (.lconst 1, 1) := by decide +kernel
theorem d_B_add_76 : decode b_B_add 76 = .ok (.aload_n 0, 1) := by decide +kernel
theorem d_B_add_77 : decode b_B_add 77 = .ok (.getfield 23, 3) := by decide +kernel
theorem d_B_add_80 : decode b_B_add 80 = .ok (.ldc2_w 127, 3) := by decide +kernel
theorem d_B_add_83 : decode b_B_add 83 = .ok (.aload_n 0, 1) := by decide +kernel
theorem d_B_add_84 : decode b_B_add 84 = .ok (.getfield 26, 3) := by decide +kernel
theorem d_B_add_87 : decode b_B_add 87 = .ok (.invokevirtual 123, 3) := by decide +kernel
theorem d_B_add_90 : decode b_B_add 90 = .ok (.goto 27, 3) := by decide +kernel
theorem d_B_add_93 : decode b_B_add 93 = .ok (.aload_n 0, 1) := by decide +kernel
theorem d_B_add_94 : decode b_B_add 94 = .ok (.getfield 16, 3) := by decide +kernel
theorem d_B_add_97 : decode b_B_add 97 = .ok (.lconst 1, 1) := by decide +kernel
theorem d_B_add_98 : decode b_B_add 98 = .ok (.aload_n 0, 1) := by decide +kernel
theorem d_B_add_99 : decode b_B_add 99 = .ok (.getfield 26, 3) := by decide +kernel
theorem d_B_add_102 : decode b_B_add 102 = .ok (.ldc2_w 127, 3) := by decide +kernel
theorem d_B_add_105 : decode b_B_add 105 = .ok (.aload_n 0, 1) := by decide +kernel
theorem d_B_add_106 : decode b_B_add 106 = .ok (.getfield 23, 3) := by decide +kernel
theorem d_B_add_109 : decode b_B_add 109 = .ok (.invokevirtual 123, 3) := by decide +kernel
theorem d_B_add_112 : decode b_B_add 112 = .ok (.aload_n 0, 1) := by decide +kernel
theorem d_B_add_113 : decode b_B_add 113 = .ok (.iload_n 3, 1) := by decide +kernel
theorem d_B_add_114 : decode b_B_add 114 = .ok (.putfield 39, 3) := by decide +kernel
theorem d_B_add_117 : decode b_B_add 117 = .ok (.return_, 1) := by decide +kernel
theorem d_B_cross_0 : decode b_B_cross 0 = .ok (.aload_n 0, 1) := by decide +kernel
theorem d_B_cross_1 : decode b_B_cross 1 = .ok (.getfield 23, 3) := by decide +kernel
theorem d_B_cross_4 : decode b_B_cross 4 = .ok (.aload_n 1, 1) := by decide +kernel
theorem d_B_cross_5 : decode b_B_cross 5 = .ok (.getfield 69, 3) := by decide +kernel
theorem d_B_cross_8 : decode b_B_cross 8 = .ok (.aload_n 2, 1) := by decide +kernel
theorem d_B_cross_9 : decode b_B_cross 9 = .ok (.getfield 72, 3) := by decide +kernel
theorem d_B_cross_12 : decode b_B_cross 12 = .ok (.invokevirtual 109, 3) := by decide +kernel
theorem d_B_cross_15 : decode b_B_cross 15 = .ok (.aload_n 0, 1) := by decide +kernel
theorem d_B_cross_16 : decode b_B_cross 16 = .ok (.getfield 26, 3) := by decide +kernel
theorem d_B_cross_19 : decode b_B_cross 19 = .ok (.aload_n 2, 1) := by decide +kernel
theorem d_B_cross_20 : decode b_B_cross 20 = .ok (.getfield 69, 3) := by decide +kernel
theorem d_B_cross_23 : decode b_B_cross 23 = .ok (.aload_n 1, 1) := by decide +kernel
theorem d_B_cross_24 : decode b_B_cross 24 = .ok (.getfield 72, 3) := by decide +kernel
theorem d_B_cross_27 : decode b_B_cross 27 = .ok (.invokevirtual 109, 3) := by decide +kernel
theorem d_B_cross_30 : decode b_B_cross 30 = .ok (.return_, 1) := by decide +kernel
theorem d_W_becomeProduct_0 : decode b_W_becomeProduct 0 = .ok (.aload_n 1, 1) := by decide +kernel
theorem d_W_becomeProduct_1 : decode b_W_becomeProduct 1 = .ok (.getfield 21, 3) := by decide +kernel
theorem d_W_becomeProduct_4 : decode b_W_becomeProduct 4 = .ok (.aload_n 2, 1) := by decide +kernel
theorem d_W_becomeProduct_5 : decode b_W_becomeProduct 5 = .ok (.getfield 21, 3) := by decide +kernel
theorem d_W_becomeProduct_8 : decode b_W_becomeProduct 8 = .ok (.iadd, 1) := by decide +kernel
theorem d_W_becomeProduct_9 : decode b_W_becomeProduct 9 = .ok (.istore_n 3, 1) := by decide +kernel
theorem d_W_becomeProduct_10 : decode b_W_becomeProduct 10 = .ok (.iload_n 3, 1) := by decide +kernel
theorem d_W_becomeProduct_11 : decode b_W_becomeProduct 11 = .ok (.aload_n 0, 1) := by decide +kernel
theorem d_W_becomeProduct_12 : decode b_W_becomeProduct 12 = .ok (.getfield 17, 3) := by decide +kernel
theorem d_W_becomeProduct_15 : decode b_W_becomeProduct 15 = .ok (.arraylength, 1) := by decide +kernel
theorem d_W_becomeProduct_16 : decode b_W_becomeProduct 16 = .ok (.if_icmp .le 9, 3) := by decide +kernel
theorem d_W_becomeProduct_19 : decode b_W_becomeProduct 19 = .ok (.aload_n 0, 1) := by decide +kernel
theorem d_W_becomeProduct_20 : decode b_W_becomeProduct 20 = .ok (.iconst 0, 1) := by decide +kernel
theorem d_W_becomeProduct_21 : decode b_W_becomeProduct 21 = .ok (.putfield 21, 3) := by decide +kernel
theorem d_W_becomeProduct_24 : decode b_W_becomeProduct 24 = .ok (.return_, 1) := by decide +kernel
theorem d_W_becomeProduct_25 : decode b_W_becomeProduct 25 = .ok (.iconst 0, 1) := by decide +kernel
theorem d_W_becomeProduct_26 : decode b_W_becomeProduct 26 = .ok (.istore 4, 2) := by decide +kernel
theorem d_W_becomeProduct_28 : decode b_W_becomeProduct 28 = .ok (.iload 4, 2) := by decide +kernel
theorem d_W_becomeProduct_30 : decode b_W_becomeProduct 30 = .ok (.aload_n 2, 1) := by decide +kernel
theorem d_W_becomeProduct_31 : decode b_W_becomeProduct 31 = .ok (.getfield 21, 3) := by decide +kernel
theorem d_W_becomeProduct_34 : decode b_W_becomeProduct 34 = .ok (.if_icmp .ge 17, 3) := by decide +kernel
theorem d_W_becomeProduct_37 : decode b_W_becomeProduct 37 = .ok (.aload_n 0, 1) := by decide +kernel
theorem d_W_becomeProduct_38 : decode b_W_becomeProduct 38 = .ok (.getfield 17, 3) := by decide +kernel
theorem d_W_becomeProduct_41 : decode b_W_becomeProduct 41 = .ok (.iload 4, 2) := by decide +kernel
theorem d_W_becomeProduct_43 : decode b_W_becomeProduct 43 = .ok (.iconst 0, 1) := by decide +kernel
theorem d_W_becomeProduct_44 : decode b_W_becomeProduct 44 = .ok (.iastore, 1) := by decide +kernel
theorem d_W_becomeProduct_45 : decode b_W_becomeProduct 45 = .ok (.iinc 4 1, 3) := by decide +kernel
theorem d_W_becomeProduct_48 : decode b_W_becomeProduct 48 = .ok (.goto (-20), 3) := by decide +kernel
theorem d_W_becomeProduct_51 : decode b_W_becomeProduct 51 = .ok (.iconst 0, 1) := by decide +kernel
theorem d_W_becomeProduct_52 : decode b_W_becomeProduct 52 = .ok (.istore 4, 2) := by decide +kernel
theorem d_W_becomeProduct_54 : decode b_W_becomeProduct 54 = .ok (.iload 4, 2) := by decide +kernel
theorem d_W_becomeProduct_56 : decode b_W_becomeProduct 56 = .ok (.aload_n 1, 1) := by decide +kernel
theorem d_W_becomeProduct_57 : decode b_W_becomeProduct 57 = .ok (.getfield 21, 3) := by decide +kernel
theorem d_W_becomeProduct_60 : decode b_W_becomeProduct 60 = .ok (.if_icmp .ge 107, 3) := by decide +kernel
theorem d_W_becomeProduct_63 : decode b_W_becomeProduct 63 = .ok (.aload_n 1, 1) := by decide +kernel
theorem d_W_becomeProduct_64 : decode b_W_becomeProduct 64 = .ok (.getfield 17, 3) := by decide +kernel
theorem d_W_becomeProduct_67 : decode b_W_becomeProduct 67 = .ok (.iload 4, 2) := by decide +kernel
theorem d_W_becomeProduct_69 : decode b_W_becomeProduct 69 = .ok (.iaload, 1) := by decide +kernel
theorem d_W_becomeProduct_70 : decode b_W_becomeProduct 70 = .ok (.i2l, 1) := by decide +kernel
theorem d_W_becomeProduct_71 : decode b_W_becomeProduct 71 = .ok (.lstore 5, 2) := by decide +kernel
theorem d_W_becomeProduct_73 : decode b_W_becomeProduct 73 = .ok (.lconst 0, 1) := by decide +kernel
theorem d_W_becomeProduct_74 : decode b_W_becomeProduct 74 = .ok (.lstore 7, 2) := by decide +kernel
theorem d_W_becomeProduct_76 : decode b_W_becomeProduct 76 = .ok (.iconst 0, 1) := by decide +kernel
theorem d_W_becomeProduct_77 : decode b_W_becomeProduct 77 = .ok (.istore 9, 2) := by decide +kernel
theorem d_W_becomeProduct_79 : decode b_W_becomeProduct 79 = .ok (.iload 9, 2) := by decide +kernel
theorem d_W_becomeProduct_81 : decode b_W_becomeProduct 81 = .ok (.aload_n 2, 1) := by decide +kernel
theorem d_W_becomeProduct_82 : decode b_W_becomeProduct 82 = .ok (.getfield 21, 3) := by decide +kernel
theorem d_W_becomeProduct_85 : decode b_W_becomeProduct 85 = .ok (.if_icmp .ge 61, 3) := by decide +kernel
theorem d_W_becomeProduct_88 : decode b_W_becomeProduct 88 = .ok (.lload 5, 2) := by decide +kernel
theorem d_W_becomeProduct_90 : decode b_W_becomeProduct 90 = .ok (.aload_n 2, 1) := by decide +kernel
theorem d_W_becomeProduct_91 : decode b_W_becomeProduct 91 = .ok (.getfield 17, 3) := by decide +kernel
theorem d_W_becomeProduct_94 : decode b_W_becomeProduct 94 = .ok (.iload 9, 2) := by decide +kernel
theorem d_W_becomeProduct_96 : decode b_W_becomeProduct 96 = .ok (.iaload, 1) := by decide +kernel
theorem d_W_becomeProduct_97 : decode b_W_becomeProduct 97 = .ok (.i2l, 1) := by decide +kernel
theorem d_W_becomeProduct_98 : decode b_W_becomeProduct 98 = .ok (.lmul, 1) := by decide +kernel
theorem d_W_becomeProduct_99 : decode b_W_becomeProduct 99 = .ok (.aload_n 0, 1) := by decide +kernel
theorem d_W_becomeProduct_100 : decode b_W_becomeProduct 100 = .ok (.getfield 17, 3) := by decide +kernel
theorem d_W_becomeProduct_103 : decode b_W_becomeProduct 103 = .ok (.iload 4, 2) := by decide +kernel
theorem d_W_becomeProduct_105 : decode b_W_becomeProduct 105 = .ok (.iload 9, 2) := by decide +kernel
theorem d_W_becomeProduct_107 : decode b_W_becomeProduct 107 = .ok (.iadd, 1) := by decide +kernel
theorem d_W_becomeProduct_108 : decode b_W_becomeProduct 108 = .ok (.iaload, 1) := by decide +kernel
theorem d_W_becomeProduct_109 : decode b_W_becomeProduct 109 = .ok (.i2l, 1) := by decide +kernel
theorem d_W_becomeProduct_110 : decode b_W_becomeProduct 110 = .ok (.ladd, 1) := by decide +kernel
theorem d_W_becomeProduct_111 : decode b_W_becomeProduct 111 = .ok (.lload 7, 2) := by decide +kernel
theorem d_W_becomeProduct_113 : decode b_W_becomeProduct 113 = .ok (.ladd, 1) := by decide +kernel
theorem d_W_becomeProduct_114 : decode b_W_becomeProduct 114 = .ok (.lstore 10, 2) := by decide +kernel
theorem d_W_becomeProduct_116 : decode b_W_becomeProduct 116 = .ok (.aload_n 0, 1) := by decide +kernel
theorem d_W_becomeProduct_117 : decode b_W_becomeProduct 117 = .ok (.getfield 17, 3) := by decide +kernel
theorem d_W_becomeProduct_120 : decode b_W_becomeProduct 120 = .ok (.iload 4, 2) := by decide +kernel
theorem d_W_becomeProduct_122 : decode b_W_becomeProduct 122 = .ok (.iload 9, 2) := by decide +kernel
theorem d_W_becomeProduct_124 : decode b_W_becomeProduct 124 = .ok (.iadd, 1) := by decide +kernel
theorem d_W_becomeProduct_125 : decode b_W_becomeProduct 125 = .ok (.lload 10, 2) := by decide +kernel
theorem d_W_becomeProduct_127 : decode b_W_becomeProduct 127 = .ok (.ldc2_w 43, 3) := by decide +kernel
theorem d_W_becomeProduct_130 : decode b_W_becomeProduct 130 = .ok (.land, 1) := by decide +kernel
theorem d_W_becomeProduct_131 : decode b_W_becomeProduct 131 = .ok (.l2i, 1) := by decide +kernel
theorem d_W_becomeProduct_132 : decode b_W_becomeProduct 132 = .ok (.iastore, 1) := by decide +kernel
theorem d_W_becomeProduct_133 : decode b_W_becomeProduct 133 = .ok (.lload 10, 2) := by decide +kernel
theorem d_W_becomeProduct_135 : decode b_W_becomeProduct 135 = .ok (.bipush 31, 2) := by decide +kernel
theorem d_W_becomeProduct_137 : decode b_W_becomeProduct 137 = .ok (.lushr, 1) := by decide +kernel
theorem d_W_becomeProduct_138 : decode b_W_becomeProduct 138 = .ok (.lstore 7, 2) := by decide +kernel
theorem d_W_becomeProduct_140 : decode b_W_becomeProduct 140 = .ok (.iinc 9 1, 3) := by decide +kernel
theorem d_W_becomeProduct_143 : decode b_W_becomeProduct 143 = .ok (.goto (-64), 3) := by decide +kernel
theorem d_W_becomeProduct_146 : decode b_W_becomeProduct 146 = .ok (.aload_n 0, 1) := by decide +kernel
theorem d_W_becomeProduct_147 : decode b_W_becomeProduct 147 = .ok (.getfield 17, 3) := by decide +kernel
theorem d_W_becomeProduct_150 : decode b_W_becomeProduct 150 = .ok (.iload 4, 2) := by decide +kernel
theorem d_W_becomeProduct_152 : decode b_W_becomeProduct 152 = .ok (.aload_n 2, 1) := by decide +kernel
theorem d_W_becomeProduct_153 : decode b_W_becomeProduct 153 = .ok (.getfield 21, 3) := by decide +kernel
theorem d_W_becomeProduct_156 : decode b_W_becomeProduct 156 = .ok (.iadd, 1) := by decide +kernel
theorem d_W_becomeProduct_157 : decode b_W_becomeProduct 157 = .ok (.lload 7, 2) := by decide +kernel
theorem d_W_becomeProduct_159 : decode b_W_becomeProduct 159 = .ok (.l2i, 1) := by decide +kernel
