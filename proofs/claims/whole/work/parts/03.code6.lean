/-! the instructions, by program -/
theorem d_M_part_25 : decode b_M_part 25 = .ok (.lreturn, 1) := by decide +kernel
theorem d_M_part_26 : decode b_M_part 26 = .ok (.iload_n 2, 1) := by decide +kernel
theorem d_M_part_27 : decode b_M_part 27 = .ok (.ifCond .ne 7, 3) := by decide +kernel
theorem d_M_part_30 : decode b_M_part 30 = .ok (.iload_n 1, 1) := by decide +kernel
theorem d_M_part_31 : decode b_M_part 31 = .ok (.goto 7, 3) := by decide +kernel
theorem d_M_part_34 : decode b_M_part 34 = .ok (.iload_n 1, 1) := by decide +kernel
theorem d_M_part_35 : decode b_M_part 35 = .ok (.invokestatic 82, 3) := by decide +kernel
theorem d_M_part_38 : decode b_M_part 38 = .ok (.istore 4, 2) := by decide +kernel
theorem d_M_part_40 : decode b_M_part 40 = .ok (.aload_n 0, 1) := by decide +kernel
theorem d_M_part_41 : decode b_M_part 41 = .ok (.iload 4, 2) := by decide +kernel
theorem d_M_part_43 : decode b_M_part 43 = .ok (.iconst 2, 1) := by decide +kernel
theorem d_M_part_44 : decode b_M_part 44 = .ok (.iload_n 3, 1) := by decide +kernel
theorem d_M_part_45 : decode b_M_part 45 = .ok (.imul, 1) := by decide +kernel
theorem d_M_part_46 : decode b_M_part 46 = .ok (.invokevirtual 121, 3) := by decide +kernel
theorem d_M_part_49 : decode b_M_part 49 = .ok (.ldc2_w 37, 3) := by decide +kernel
theorem d_M_part_52 : decode b_M_part 52 = .ok (.aload_n 0, 1) := by decide +kernel
theorem d_M_part_53 : decode b_M_part 53 = .ok (.iload 4, 2) := by decide +kernel
theorem d_M_part_55 : decode b_M_part 55 = .ok (.iconst 2, 1) := by decide +kernel
theorem d_M_part_56 : decode b_M_part 56 = .ok (.iload_n 3, 1) := by decide +kernel
theorem d_M_part_57 : decode b_M_part 57 = .ok (.imul, 1) := by decide +kernel
theorem d_M_part_58 : decode b_M_part 58 = .ok (.iconst 1, 1) := by decide +kernel
theorem d_M_part_59 : decode b_M_part 59 = .ok (.iadd, 1) := by decide +kernel
theorem d_M_part_60 : decode b_M_part 60 = .ok (.invokevirtual 121, 3) := by decide +kernel
theorem d_M_part_63 : decode b_M_part 63 = .ok (.lmul, 1) := by decide +kernel
theorem d_M_part_64 : decode b_M_part 64 = .ok (.ladd, 1) := by decide +kernel
theorem d_M_part_65 : decode b_M_part 65 = .ok (.lreturn, 1) := by decide +kernel
theorem d_M_partAt_0 : decode b_M_partAt 0 = .ok (.iload_n 2, 1) := by decide +kernel
theorem d_M_partAt_1 : decode b_M_partAt 1 = .ok (.aload_n 0, 1) := by decide +kernel
theorem d_M_partAt_2 : decode b_M_partAt 2 = .ok (.getfield 13, 3) := by decide +kernel
theorem d_M_partAt_5 : decode b_M_partAt 5 = .ok (.iload_n 1, 1) := by decide +kernel
theorem d_M_partAt_6 : decode b_M_partAt 6 = .ok (.iaload, 1) := by decide +kernel
theorem d_M_partAt_7 : decode b_M_partAt 7 = .ok (.if_icmp .ge 19, 3) := by decide +kernel
theorem d_M_partAt_10 : decode b_M_partAt 10 = .ok (.aload_n 0, 1) := by decide +kernel
theorem d_M_partAt_11 : decode b_M_partAt 11 = .ok (.getfield 7, 3) := by decide +kernel
theorem d_M_partAt_14 : decode b_M_partAt 14 = .ok (.sipush 300, 3) := by decide +kernel
theorem d_M_partAt_17 : decode b_M_partAt 17 = .ok (.iload_n 1, 1) := by decide +kernel
theorem d_M_partAt_18 : decode b_M_partAt 18 = .ok (.imul, 1) := by decide +kernel
theorem d_M_partAt_19 : decode b_M_partAt 19 = .ok (.iload_n 2, 1) := by decide +kernel
theorem d_M_partAt_20 : decode b_M_partAt 20 = .ok (.iadd, 1) := by decide +kernel
theorem d_M_partAt_21 : decode b_M_partAt 21 = .ok (.iaload, 1) := by decide +kernel
theorem d_M_partAt_22 : decode b_M_partAt 22 = .ok (.i2l, 1) := by decide +kernel
theorem d_M_partAt_23 : decode b_M_partAt 23 = .ok (.goto 4, 3) := by decide +kernel
theorem d_M_partAt_26 : decode b_M_partAt 26 = .ok (.lconst 0, 1) := by decide +kernel
theorem d_M_partAt_27 : decode b_M_partAt 27 = .ok (.lreturn, 1) := by decide +kernel
theorem d_M_write_0 : decode b_M_write 0 = .ok (.aload_n 0, 1) := by decide +kernel
theorem d_M_write_1 : decode b_M_write 1 = .ok (.iload_n 1, 1) := by decide +kernel
theorem d_M_write_2 : decode b_M_write 2 = .ok (.invokestatic 86, 3) := by decide +kernel
theorem d_M_write_5 : decode b_M_write 5 = .ok (.ifCond .eq 7, 3) := by decide +kernel
theorem d_M_write_8 : decode b_M_write 8 = .ok (.iconst 0, 1) := by decide +kernel
theorem d_M_write_9 : decode b_M_write 9 = .ok (.goto 4, 3) := by decide +kernel
theorem d_M_write_12 : decode b_M_write 12 = .ok (.iconst 1, 1) := by decide +kernel
theorem d_M_write_13 : decode b_M_write 13 = .ok (.putfield 34, 3) := by decide +kernel
theorem d_M_write_16 : decode b_M_write 16 = .ok (.aload_n 0, 1) := by decide +kernel
theorem d_M_write_17 : decode b_M_write 17 = .ok (.getfield 34, 3) := by decide +kernel
theorem d_M_write_20 : decode b_M_write 20 = .ok (.ifCond .le 5, 3) := by decide +kernel
theorem d_M_write_23 : decode b_M_write 23 = .ok (.iconst 0, 1) := by decide +kernel
theorem d_M_write_24 : decode b_M_write 24 = .ok (.ireturn, 1) := by decide +kernel
theorem d_M_write_25 : decode b_M_write 25 = .ok (.aload_n 0, 1) := by decide +kernel
theorem d_M_write_26 : decode b_M_write 26 = .ok (.iconst 0, 1) := by decide +kernel
theorem d_M_write_27 : decode b_M_write 27 = .ok (.putfield 125, 3) := by decide +kernel
theorem d_M_write_30 : decode b_M_write 30 = .ok (.aload_n 0, 1) := by decide +kernel
theorem d_M_write_31 : decode b_M_write 31 = .ok (.getfield 16, 3) := by decide +kernel
theorem d_M_write_34 : decode b_M_write 34 = .ok (.iload_n 1, 1) := by decide +kernel
theorem d_M_write_35 : decode b_M_write 35 = .ok (.baload, 1) := by decide +kernel
theorem d_M_write_36 : decode b_M_write 36 = .ok (.ifCond .eq 9, 3) := by decide +kernel
theorem d_M_write_39 : decode b_M_write 39 = .ok (.aload_n 0, 1) := by decide +kernel
theorem d_M_write_40 : decode b_M_write 40 = .ok (.bipush 45, 2) := by decide +kernel
theorem d_M_write_42 : decode b_M_write 42 = .ok (.invokevirtual 128, 3) := by decide +kernel
theorem d_M_write_45 : decode b_M_write 45 = .ok (.aload_n 0, 1) := by decide +kernel
theorem d_M_write_46 : decode b_M_write 46 = .ok (.iload_n 1, 1) := by decide +kernel
theorem d_M_write_47 : decode b_M_write 47 = .ok (.invokevirtual 131, 3) := by decide +kernel
theorem d_M_write_50 : decode b_M_write 50 = .ok (.aload_n 0, 1) := by decide +kernel
theorem d_M_write_51 : decode b_M_write 51 = .ok (.iload_n 1, 1) := by decide +kernel
theorem d_M_write_52 : decode b_M_write 52 = .ok (.invokestatic 82, 3) := by decide +kernel
theorem d_M_write_55 : decode b_M_write 55 = .ok (.invokevirtual 98, 3) := by decide +kernel
theorem d_M_write_58 : decode b_M_write 58 = .ok (.ifCond .ne 17, 3) := by decide +kernel
theorem d_M_write_61 : decode b_M_write 61 = .ok (.aload_n 0, 1) := by decide +kernel
theorem d_M_write_62 : decode b_M_write 62 = .ok (.bipush 47, 2) := by decide +kernel
theorem d_M_write_64 : decode b_M_write 64 = .ok (.invokevirtual 128, 3) := by decide +kernel
theorem d_M_write_67 : decode b_M_write 67 = .ok (.aload_n 0, 1) := by decide +kernel
theorem d_M_write_68 : decode b_M_write 68 = .ok (.iload_n 1, 1) := by decide +kernel
theorem d_M_write_69 : decode b_M_write 69 = .ok (.invokestatic 82, 3) := by decide +kernel
theorem d_M_write_72 : decode b_M_write 72 = .ok (.invokevirtual 131, 3) := by decide +kernel
theorem d_M_write_75 : decode b_M_write 75 = .ok (.aload_n 0, 1) := by decide +kernel
theorem d_M_write_76 : decode b_M_write 76 = .ok (.getfield 125, 3) := by decide +kernel
theorem d_M_write_79 : decode b_M_write 79 = .ok (.ireturn, 1) := by decide +kernel
theorem d_M_print_0 : decode b_M_print 0 = .ok (.aload_n 0, 1) := by decide +kernel
theorem d_M_print_1 : decode b_M_print 1 = .ok (.getfield 20, 3) := by decide +kernel
theorem d_M_print_4 : decode b_M_print 4 = .ok (.aload_n 0, 1) := by decide +kernel
theorem d_M_print_5 : decode b_M_print 5 = .ok (.getfield 125, 3) := by decide +kernel
theorem d_M_print_8 : decode b_M_print 8 = .ok (.iload_n 1, 1) := by decide +kernel
theorem d_M_print_9 : decode b_M_print 9 = .ok (.iastore, 1) := by decide +kernel
theorem d_M_print_10 : decode b_M_print 10 = .ok (.aload_n 0, 1) := by decide +kernel
theorem d_M_print_11 : decode b_M_print 11 = .ok (.dup, 1) := by decide +kernel
theorem d_M_print_12 : decode b_M_print 12 = .ok (.getfield 125, 3) := by decide +kernel
theorem d_M_print_15 : decode b_M_print 15 = .ok (.iconst 1, 1) := by decide +kernel
theorem d_M_print_16 : decode b_M_print 16 = .ok (.iadd, 1) := by decide +kernel
theorem d_M_print_17 : decode b_M_print 17 = .ok (.putfield 125, 3) := by decide +kernel
theorem d_M_print_20 : decode b_M_print 20 = .ok (.return_, 1) := by decide +kernel
theorem d_M_printDigits_0 : decode b_M_printDigits 0 = .ok (.aload_n 0, 1) := by decide +kernel
theorem d_M_printDigits_1 : decode b_M_printDigits 1 = .ok (.bipush 41, 2) := by decide +kernel
theorem d_M_printDigits_3 : decode b_M_printDigits 3 = .ok (.iload_n 1, 1) := by decide +kernel
theorem d_M_printDigits_4 : decode b_M_printDigits 4 = .ok (.invokevirtual 55, 3) := by decide +kernel
theorem d_M_printDigits_7 : decode b_M_printDigits 7 = .ok (.iconst 0, 1) := by decide +kernel
theorem d_M_printDigits_8 : decode b_M_printDigits 8 = .ok (.istore_n 2, 1) := by decide +kernel
theorem d_M_printDigits_9 : decode b_M_printDigits 9 = .ok (.aload_n 0, 1) := by decide +kernel
theorem d_M_printDigits_10 : decode b_M_printDigits 10 = .ok (.getfield 13, 3) := by decide +kernel
theorem d_M_printDigits_13 : decode b_M_printDigits 13 = .ok (.bipush 41, 2) := by decide +kernel
theorem d_M_printDigits_15 : decode b_M_printDigits 15 = .ok (.iaload, 1) := by decide +kernel
theorem d_M_printDigits_16 : decode b_M_printDigits 16 = .ok (.ifCond .le 86, 3) := by decide +kernel
theorem d_M_printDigits_19 : decode b_M_printDigits 19 = .ok (.iconst 0, 1) := by decide +kernel
theorem d_M_printDigits_20 : decode b_M_printDigits 20 = .ok (.istore_n 3, 1) := by decide +kernel
theorem d_M_printDigits_21 : decode b_M_printDigits 21 = .ok (.aload_n 0, 1) := by decide +kernel
theorem d_M_printDigits_22 : decode b_M_printDigits 22 = .ok (.getfield 13, 3) := by decide +kernel
theorem d_M_printDigits_25 : decode b_M_printDigits 25 = .ok (.bipush 41, 2) := by decide +kernel
theorem d_M_printDigits_27 : decode b_M_printDigits 27 = .ok (.iaload, 1) := by decide +kernel
theorem d_M_printDigits_28 : decode b_M_printDigits 28 = .ok (.iconst 1, 1) := by decide +kernel
theorem d_M_printDigits_29 : decode b_M_printDigits 29 = .ok (.isub, 1) := by decide +kernel
theorem d_M_printDigits_30 : decode b_M_printDigits 30 = .ok (.istore 4, 2) := by decide +kernel
theorem d_M_printDigits_32 : decode b_M_printDigits 32 = .ok (.iload 4, 2) := by decide +kernel
theorem d_M_printDigits_34 : decode b_M_printDigits 34 = .ok (.ifCond .lt 49, 3) := by decide +kernel
theorem d_M_printDigits_37 : decode b_M_printDigits 37 = .ok (.iload_n 3, 1) := by decide +kernel
theorem d_M_printDigits_38 : decode b_M_printDigits 38 = .ok (.ldc 43, 2) := by decide +kernel
theorem d_M_printDigits_40 : decode b_M_printDigits 40 = .ok (.imul, 1) := by decide +kernel
theorem d_M_printDigits_41 : decode b_M_printDigits 41 = .ok (.aload_n 0, 1) := by decide +kernel
theorem d_M_printDigits_42 : decode b_M_printDigits 42 = .ok (.getfield 7, 3) := by decide +kernel
theorem d_M_printDigits_45 : decode b_M_printDigits 45 = .ok (.sipush 12300, 3) := by decide +kernel
theorem d_M_printDigits_48 : decode b_M_printDigits 48 = .ok (.iload 4, 2) := by decide +kernel
theorem d_M_printDigits_50 : decode b_M_printDigits 50 = .ok (.iadd, 1) := by decide +kernel
theorem d_M_printDigits_51 : decode b_M_printDigits 51 = .ok (.iaload, 1) := by decide +kernel
theorem d_M_printDigits_52 : decode b_M_printDigits 52 = .ok (.iadd, 1) := by decide +kernel
theorem d_M_printDigits_53 : decode b_M_printDigits 53 = .ok (.istore 5, 2) := by decide +kernel
theorem d_M_printDigits_55 : decode b_M_printDigits 55 = .ok (.aload_n 0, 1) := by decide +kernel
theorem d_M_printDigits_56 : decode b_M_printDigits 56 = .ok (.getfield 7, 3) := by decide +kernel
theorem d_M_printDigits_59 : decode b_M_printDigits 59 = .ok (.sipush 12300, 3) := by decide +kernel
theorem d_M_printDigits_62 : decode b_M_printDigits 62 = .ok (.iload 4, 2) := by decide +kernel
theorem d_M_printDigits_64 : decode b_M_printDigits 64 = .ok (.iadd, 1) := by decide +kernel
theorem d_M_printDigits_65 : decode b_M_printDigits 65 = .ok (.iload 5, 2) := by decide +kernel
theorem d_M_printDigits_67 : decode b_M_printDigits 67 = .ok (.bipush 10, 2) := by decide +kernel
theorem d_M_printDigits_69 : decode b_M_printDigits 69 = .ok (.idiv, 1) := by decide +kernel
theorem d_M_printDigits_70 : decode b_M_printDigits 70 = .ok (.iastore, 1) := by decide +kernel
theorem d_M_printDigits_71 : decode b_M_printDigits 71 = .ok (.iload 5, 2) := by decide +kernel
theorem d_M_printDigits_73 : decode b_M_printDigits 73 = .ok (.bipush 10, 2) := by decide +kernel
theorem d_M_printDigits_75 : decode b_M_printDigits 75 = .ok (.irem, 1) := by decide +kernel
theorem d_M_printDigits_76 : decode b_M_printDigits 76 = .ok (.istore_n 3, 1) := by decide +kernel
theorem d_M_printDigits_77 : decode b_M_printDigits 77 = .ok (.iinc 4 (-1), 3) := by decide +kernel
theorem d_M_printDigits_80 : decode b_M_printDigits 80 = .ok (.goto (-48), 3) := by decide +kernel
theorem d_M_printDigits_83 : decode b_M_printDigits 83 = .ok (.aload_n 0, 1) := by decide +kernel
theorem d_M_printDigits_84 : decode b_M_printDigits 84 = .ok (.bipush 41, 2) := by decide +kernel
theorem d_M_printDigits_86 : decode b_M_printDigits 86 = .ok (.invokevirtual 39, 3) := by decide +kernel
theorem d_M_printDigits_89 : decode b_M_printDigits 89 = .ok (.aload_n 0, 1) := by decide +kernel
theorem d_M_printDigits_90 : decode b_M_printDigits 90 = .ok (.getfield 27, 3) := by decide +kernel
theorem d_M_printDigits_93 : decode b_M_printDigits 93 = .ok (.iload_n 2, 1) := by decide +kernel
theorem d_M_printDigits_94 : decode b_M_printDigits 94 = .ok (.iload_n 3, 1) := by decide +kernel
theorem d_M_printDigits_95 : decode b_M_printDigits 95 = .ok (.iastore, 1) := by decide +kernel
theorem d_M_printDigits_96 : decode b_M_printDigits 96 = .ok (.iinc 2 1, 3) := by decide +kernel
theorem d_M_printDigits_99 : decode b_M_printDigits 99 = .ok (.goto (-90), 3) := by decide +kernel
theorem d_M_printDigits_102 : decode b_M_printDigits 102 = .ok (.iload_n 2, 1) := by decide +kernel
theorem d_M_printDigits_103 : decode b_M_printDigits 103 = .ok (.ifCond .ne 9, 3) := by decide +kernel
theorem d_M_printDigits_106 : decode b_M_printDigits 106 = .ok (.aload_n 0, 1) := by decide +kernel
theorem d_M_printDigits_107 : decode b_M_printDigits 107 = .ok (.bipush 48, 2) := by decide +kernel
theorem d_M_printDigits_109 : decode b_M_printDigits 109 = .ok (.invokevirtual 128, 3) := by decide +kernel
theorem d_M_printDigits_112 : decode b_M_printDigits 112 = .ok (.iload_n 2, 1) := by decide +kernel
theorem d_M_printDigits_113 : decode b_M_printDigits 113 = .ok (.iconst 1, 1) := by decide +kernel
theorem d_M_printDigits_114 : decode b_M_printDigits 114 = .ok (.isub, 1) := by decide +kernel
theorem d_M_printDigits_115 : decode b_M_printDigits 115 = .ok (.istore_n 3, 1) := by decide +kernel
theorem d_M_printDigits_116 : decode b_M_printDigits 116 = .ok (.iload_n 3, 1) := by decide +kernel
theorem d_M_printDigits_117 : decode b_M_printDigits 117 = .ok (.ifCond .lt 22, 3) := by decide +kernel
theorem d_M_printDigits_120 : decode b_M_printDigits 120 = .ok (.aload_n 0, 1) := by decide +kernel
theorem d_M_printDigits_121 : decode b_M_printDigits 121 = .ok (.bipush 48, 2) := by decide +kernel
theorem d_M_printDigits_123 : decode b_M_printDigits 123 = .ok (.aload_n 0, 1) := by decide +kernel
theorem d_M_printDigits_124 : decode b_M_printDigits 124 = .ok (.getfield 27, 3) := by decide +kernel
theorem d_M_printDigits_127 : decode b_M_printDigits 127 = .ok (.iload_n 3, 1) := by decide +kernel
theorem d_M_printDigits_128 : decode b_M_printDigits 128 = .ok (.iaload, 1) := by decide +kernel
theorem d_M_printDigits_129 : decode b_M_printDigits 129 = .ok (.iadd, 1) := by decide +kernel
theorem d_M_printDigits_130 : decode b_M_printDigits 130 = .ok (.invokevirtual 128, 3) := by decide +kernel
theorem d_M_printDigits_133 : decode b_M_printDigits 133 = .ok (.iinc 3 (-1), 3) := by decide +kernel
theorem d_M_printDigits_136 : decode b_M_printDigits 136 = .ok (.goto (-20), 3) := by decide +kernel
theorem d_M_printDigits_139 : decode b_M_printDigits 139 = .ok (.return_, 1) := by decide +kernel
theorem d_M_type_0 : decode b_M_type 0 = .ok (.aload_n 0, 1) := by decide +kernel
theorem d_M_type_1 : decode b_M_type 1 = .ok (.iconst 0, 1) := by decide +kernel
theorem d_M_type_2 : decode b_M_type 2 = .ok (.putfield 34, 3) := by decide +kernel
theorem d_M_type_5 : decode b_M_type 5 = .ok (.iload_n 3, 1) := by decide +kernel
theorem d_M_type_6 : decode b_M_type 6 = .ok (.iconst 1, 1) := by decide +kernel
theorem d_M_type_7 : decode b_M_type 7 = .ok (.if_icmp .lt 25, 3) := by decide +kernel
theorem d_M_type_10 : decode b_M_type 10 = .ok (.iload_n 3, 1) := by decide +kernel
theorem d_M_type_11 : decode b_M_type 11 = .ok (.bipush 8, 2) := by decide +kernel
theorem d_M_type_13 : decode b_M_type 13 = .ok (.if_icmp .gt 19, 3) := by decide +kernel
theorem d_M_type_16 : decode b_M_type 16 = .ok (.aload_n 0, 1) := by decide +kernel
theorem d_M_type_17 : decode b_M_type 17 = .ok (.getfield 125, 3) := by decide +kernel
theorem d_M_type_20 : decode b_M_type 20 = .ok (.iload_n 3, 1) := by decide +kernel
theorem d_M_type_21 : decode b_M_type 21 = .ok (.iadd, 1) := by decide +kernel
theorem d_M_type_22 : decode b_M_type 22 = .ok (.sipush 1400, 3) := by decide +kernel
theorem d_M_type_25 : decode b_M_type 25 = .ok (.if_icmp .gt 7, 3) := by decide +kernel
theorem d_M_type_28 : decode b_M_type 28 = .ok (.iconst 1, 1) := by decide +kernel
theorem d_M_type_29 : decode b_M_type 29 = .ok (.goto 4, 3) := by decide +kernel
theorem d_M_type_32 : decode b_M_type 32 = .ok (.iconst 0, 1) := by decide +kernel
theorem d_M_type_33 : decode b_M_type 33 = .ok (.istore 4, 2) := by decide +kernel
theorem d_M_type_35 : decode b_M_type 35 = .ok (.iconst 0, 1) := by decide +kernel
theorem d_M_type_36 : decode b_M_type 36 = .ok (.istore 5, 2) := by decide +kernel
theorem d_M_type_38 : decode b_M_type 38 = .ok (.iload 5, 2) := by decide +kernel
theorem d_M_type_40 : decode b_M_type 40 = .ok (.iload_n 3, 1) := by decide +kernel
theorem d_M_type_41 : decode b_M_type 41 = .ok (.if_icmp .ge 52, 3) := by decide +kernel
theorem d_M_type_44 : decode b_M_type 44 = .ok (.iload 4, 2) := by decide +kernel
theorem d_M_type_46 : decode b_M_type 46 = .ok (.ifCond .eq 47, 3) := by decide +kernel
theorem d_M_type_49 : decode b_M_type 49 = .ok (.lload_n 1, 1) := by decide +kernel
theorem d_M_type_50 : decode b_M_type 50 = .ok (.bipush 8, 2) := by decide +kernel
theorem d_M_type_52 : decode b_M_type 52 = .ok (.iload 5, 2) := by decide +kernel
theorem d_M_type_54 : decode b_M_type 54 = .ok (.imul, 1) := by decide +kernel
theorem d_M_type_55 : decode b_M_type 55 = .ok (.lshr, 1) := by decide +kernel
theorem d_M_type_56 : decode b_M_type 56 = .ok (.ldc2_w 134, 3) := by decide +kernel
theorem d_M_type_59 : decode b_M_type 59 = .ok (.land, 1) := by decide +kernel
theorem d_M_type_60 : decode b_M_type 60 = .ok (.lstore 6, 2) := by decide +kernel
theorem d_M_type_62 : decode b_M_type 62 = .ok (.lload 6, 2) := by decide +kernel
theorem d_M_type_64 : decode b_M_type 64 = .ok (.ldc2_w 136, 3) := by decide +kernel
theorem d_M_type_67 : decode b_M_type 67 = .ok (.lcmp, 1) := by decide +kernel
theorem d_M_type_68 : decode b_M_type 68 = .ok (.ifCond .lt 16, 3) := by decide +kernel
theorem d_M_type_71 : decode b_M_type 71 = .ok (.lload 6, 2) := by decide +kernel
theorem d_M_type_73 : decode b_M_type 73 = .ok (.ldc2_w 138, 3) := by decide +kernel
theorem d_M_type_76 : decode b_M_type 76 = .ok (.lcmp, 1) := by decide +kernel
theorem d_M_type_77 : decode b_M_type 77 = .ok (.ifCond .gt 7, 3) := by decide +kernel
theorem d_M_type_80 : decode b_M_type 80 = .ok (.iconst 1, 1) := by decide +kernel
theorem d_M_type_81 : decode b_M_type 81 = .ok (.goto 4, 3) := by decide +kernel
theorem d_M_type_84 : decode b_M_type 84 = .ok (.iconst 0, 1) := by decide +kernel
theorem d_M_type_85 : decode b_M_type 85 = .ok (.istore 4, 2) := by decide +kernel
theorem d_M_type_87 : decode b_M_type 87 = .ok (.iinc 5 1, 3) := by decide +kernel
theorem d_M_type_90 : decode b_M_type 90 = .ok (.goto (-52), 3) := by decide +kernel
theorem d_M_type_93 : decode b_M_type 93 = .ok (.iload 4, 2) := by decide +kernel
theorem d_M_type_95 : decode b_M_type 95 = .ok (.ifCond .ne 5, 3) := by decide +kernel
theorem d_M_type_98 : decode b_M_type 98 = .ok (.iconst (-1), 1) := by decide +kernel
theorem d_M_type_99 : decode b_M_type 99 = .ok (.ireturn, 1) := by decide +kernel
theorem d_M_type_100 : decode b_M_type 100 = .ok (.iload_n 3, 1) := by decide +kernel
theorem d_M_type_101 : decode b_M_type 101 = .ok (.iconst 1, 1) := by decide +kernel
theorem d_M_type_102 : decode b_M_type 102 = .ok (.isub, 1) := by decide +kernel
theorem d_M_type_103 : decode b_M_type 103 = .ok (.istore 5, 2) := by decide +kernel
theorem d_M_type_105 : decode b_M_type 105 = .ok (.iload 5, 2) := by decide +kernel
theorem d_M_type_107 : decode b_M_type 107 = .ok (.ifCond .lt 25, 3) := by decide +kernel
theorem d_M_type_110 : decode b_M_type 110 = .ok (.aload_n 0, 1) := by decide +kernel
theorem d_M_type_111 : decode b_M_type 111 = .ok (.lload_n 1, 1) := by decide +kernel
theorem d_M_type_112 : decode b_M_type 112 = .ok (.bipush 8, 2) := by decide +kernel
theorem d_M_type_114 : decode b_M_type 114 = .ok (.iload 5, 2) := by decide +kernel
theorem d_M_type_116 : decode b_M_type 116 = .ok (.imul, 1) := by decide +kernel
theorem d_M_type_117 : decode b_M_type 117 = .ok (.lshr, 1) := by decide +kernel
theorem d_M_type_118 : decode b_M_type 118 = .ok (.ldc2_w 134, 3) := by decide +kernel
theorem d_M_type_121 : decode b_M_type 121 = .ok (.land, 1) := by decide +kernel
theorem d_M_type_122 : decode b_M_type 122 = .ok (.l2i, 1) := by decide +kernel
theorem d_M_type_123 : decode b_M_type 123 = .ok (.invokevirtual 128, 3) := by decide +kernel
theorem d_M_type_126 : decode b_M_type 126 = .ok (.iinc 5 (-1), 3) := by decide +kernel
theorem d_M_type_129 : decode b_M_type 129 = .ok (.goto (-24), 3) := by decide +kernel
theorem d_M_type_132 : decode b_M_type 132 = .ok (.aload_n 0, 1) := by decide +kernel
theorem d_M_type_133 : decode b_M_type 133 = .ok (.getfield 125, 3) := by decide +kernel
theorem d_M_type_136 : decode b_M_type 136 = .ok (.ireturn, 1) := by decide +kernel
theorem d_M_wipe_0 : decode b_M_wipe 0 = .ok (.aload_n 0, 1) := by decide +kernel
theorem d_M_wipe_1 : decode b_M_wipe 1 = .ok (.iconst 0, 1) := by decide +kernel
theorem d_M_wipe_2 : decode b_M_wipe 2 = .ok (.putfield 34, 3) := by decide +kernel
theorem d_M_wipe_5 : decode b_M_wipe 5 = .ok (.aload_n 0, 1) := by decide +kernel
theorem d_M_wipe_6 : decode b_M_wipe 6 = .ok (.getfield 125, 3) := by decide +kernel
theorem d_M_wipe_9 : decode b_M_wipe 9 = .ok (.istore_n 1, 1) := by decide +kernel
theorem d_M_wipe_10 : decode b_M_wipe 10 = .ok (.aload_n 0, 1) := by decide +kernel
theorem d_M_wipe_11 : decode b_M_wipe 11 = .ok (.iconst 0, 1) := by decide +kernel
theorem d_M_wipe_12 : decode b_M_wipe 12 = .ok (.putfield 125, 3) := by decide +kernel
theorem d_M_wipe_15 : decode b_M_wipe 15 = .ok (.iload_n 1, 1) := by decide +kernel
theorem d_M_wipe_16 : decode b_M_wipe 16 = .ok (.ireturn, 1) := by decide +kernel
theorem d_M_character_0 : decode b_M_character 0 = .ok (.aload_n 0, 1) := by decide +kernel
theorem d_M_character_1 : decode b_M_character 1 = .ok (.iconst 0, 1) := by decide +kernel
theorem d_M_character_2 : decode b_M_character 2 = .ok (.putfield 34, 3) := by decide +kernel
theorem d_M_character_5 : decode b_M_character 5 = .ok (.iload_n 1, 1) := by decide +kernel
theorem d_M_character_6 : decode b_M_character 6 = .ok (.ifCond .lt 20, 3) := by decide +kernel
theorem d_M_character_9 : decode b_M_character 9 = .ok (.iload_n 1, 1) := by decide +kernel
theorem d_M_character_10 : decode b_M_character 10 = .ok (.aload_n 0, 1) := by decide +kernel
theorem d_M_character_11 : decode b_M_character 11 = .ok (.getfield 125, 3) := by decide +kernel
theorem d_M_character_14 : decode b_M_character 14 = .ok (.if_icmp .ge 12, 3) := by decide +kernel
theorem d_M_character_17 : decode b_M_character 17 = .ok (.aload_n 0, 1) := by decide +kernel
theorem d_M_character_18 : decode b_M_character 18 = .ok (.getfield 20, 3) := by decide +kernel
theorem d_M_character_21 : decode b_M_character 21 = .ok (.iload_n 1, 1) := by decide +kernel
theorem d_M_character_22 : decode b_M_character 22 = .ok (.iaload, 1) := by decide +kernel
theorem d_M_character_23 : decode b_M_character 23 = .ok (.goto 4, 3) := by decide +kernel
theorem d_M_character_26 : decode b_M_character 26 = .ok (.iconst (-1), 1) := by decide +kernel
theorem d_M_character_27 : decode b_M_character 27 = .ok (.ireturn, 1) := by decide +kernel
theorem d_M_read_0 : decode b_M_read 0 = .ok (.aload_n 0, 1) := by decide +kernel
theorem d_M_read_1 : decode b_M_read 1 = .ok (.iload_n 1, 1) := by decide +kernel
theorem d_M_read_2 : decode b_M_read 2 = .ok (.invokestatic 86, 3) := by decide +kernel
theorem d_M_read_5 : decode b_M_read 5 = .ok (.ifCond .eq 7, 3) := by decide +kernel
theorem d_M_read_8 : decode b_M_read 8 = .ok (.iconst 0, 1) := by decide +kernel
theorem d_M_read_9 : decode b_M_read 9 = .ok (.goto 4, 3) := by decide +kernel
theorem d_M_read_12 : decode b_M_read 12 = .ok (.iconst 1, 1) := by decide +kernel
theorem d_M_read_13 : decode b_M_read 13 = .ok (.putfield 34, 3) := by decide +kernel
theorem d_M_read_16 : decode b_M_read 16 = .ok (.aload_n 0, 1) := by decide +kernel
theorem d_M_read_17 : decode b_M_read 17 = .ok (.getfield 34, 3) := by decide +kernel
theorem d_M_read_20 : decode b_M_read 20 = .ok (.ifCond .le 5, 3) := by decide +kernel
theorem d_M_read_23 : decode b_M_read 23 = .ok (.iconst 0, 1) := by decide +kernel
theorem d_M_read_24 : decode b_M_read 24 = .ok (.ireturn, 1) := by decide +kernel
theorem d_M_read_25 : decode b_M_read 25 = .ok (.aload_n 0, 1) := by decide +kernel
theorem d_M_read_26 : decode b_M_read 26 = .ok (.getfield 125, 3) := by decide +kernel
theorem d_M_read_29 : decode b_M_read 29 = .ok (.ifCond .le 18, 3) := by decide +kernel
theorem d_M_read_32 : decode b_M_read 32 = .ok (.aload_n 0, 1) := by decide +kernel
theorem d_M_read_33 : decode b_M_read 33 = .ok (.getfield 20, 3) := by decide +kernel
theorem d_M_read_36 : decode b_M_read 36 = .ok (.iconst 0, 1) := by decide +kernel
theorem d_M_read_37 : decode b_M_read 37 = .ok (.iaload, 1) := by decide +kernel
theorem d_M_read_38 : decode b_M_read 38 = .ok (.bipush 45, 2) := by decide +kernel
theorem d_M_read_40 : decode b_M_read 40 = .ok (.if_icmp .ne 7, 3) := by decide +kernel
theorem d_M_read_43 : decode b_M_read 43 = .ok (.iconst 1, 1) := by decide +kernel
theorem d_M_read_44 : decode b_M_read 44 = .ok (.goto 4, 3) := by decide +kernel
theorem d_M_read_47 : decode b_M_read 47 = .ok (.iconst 0, 1) := by decide +kernel
theorem d_M_read_48 : decode b_M_read 48 = .ok (.istore_n 2, 1) := by decide +kernel
theorem d_M_read_49 : decode b_M_read 49 = .ok (.aload_n 0, 1) := by decide +kernel
theorem d_M_read_50 : decode b_M_read 50 = .ok (.iload_n 2, 1) := by decide +kernel
theorem d_M_read_51 : decode b_M_read 51 = .ok (.invokevirtual 143, 3) := by decide +kernel
theorem d_M_read_54 : decode b_M_read 54 = .ok (.istore_n 3, 1) := by decide +kernel
theorem d_M_read_55 : decode b_M_read 55 = .ok (.iload_n 3, 1) := by decide +kernel
theorem d_M_read_56 : decode b_M_read 56 = .ok (.iload_n 2, 1) := by decide +kernel
theorem d_M_read_57 : decode b_M_read 57 = .ok (.if_icmp .le 26, 3) := by decide +kernel
theorem d_M_read_60 : decode b_M_read 60 = .ok (.iload_n 3, 1) := by decide +kernel
theorem d_M_read_61 : decode b_M_read 61 = .ok (.aload_n 0, 1) := by decide +kernel
theorem d_M_read_62 : decode b_M_read 62 = .ok (.getfield 125, 3) := by decide +kernel
theorem d_M_read_65 : decode b_M_read 65 = .ok (.if_icmp .ge 18, 3) := by decide +kernel
theorem d_M_read_68 : decode b_M_read 68 = .ok (.aload_n 0, 1) := by decide +kernel
theorem d_M_read_69 : decode b_M_read 69 = .ok (.getfield 20, 3) := by decide +kernel
theorem d_M_read_72 : decode b_M_read 72 = .ok (.iload_n 3, 1) := by decide +kernel
theorem d_M_read_73 : decode b_M_read 73 = .ok (.iaload, 1) := by decide +kernel
theorem d_M_read_74 : decode b_M_read 74 = .ok (.bipush 47, 2) := by decide +kernel
theorem d_M_read_76 : decode b_M_read 76 = .ok (.if_icmp .ne 7, 3) := by decide +kernel
theorem d_M_read_79 : decode b_M_read 79 = .ok (.iconst 1, 1) := by decide +kernel
theorem d_M_read_80 : decode b_M_read 80 = .ok (.goto 4, 3) := by decide +kernel
theorem d_M_read_83 : decode b_M_read 83 = .ok (.iconst 0, 1) := by decide +kernel
theorem d_M_read_84 : decode b_M_read 84 = .ok (.istore 4, 2) := by decide +kernel
theorem d_M_read_86 : decode b_M_read 86 = .ok (.iload 4, 2) := by decide +kernel
theorem d_M_read_88 : decode b_M_read 88 = .ok (.ifCond .eq 13, 3) := by decide +kernel
theorem d_M_read_91 : decode b_M_read 91 = .ok (.aload_n 0, 1) := by decide +kernel
theorem d_M_read_92 : decode b_M_read 92 = .ok (.iload_n 3, 1) := by decide +kernel
theorem d_M_read_93 : decode b_M_read 93 = .ok (.iconst 1, 1) := by decide +kernel
theorem d_M_read_94 : decode b_M_read 94 = .ok (.iadd, 1) := by decide +kernel
theorem d_M_read_95 : decode b_M_read 95 = .ok (.invokevirtual 143, 3) := by decide +kernel
theorem d_M_read_98 : decode b_M_read 98 = .ok (.goto 4, 3) := by decide +kernel
theorem d_M_read_101 : decode b_M_read 101 = .ok (.iload_n 3, 1) := by decide +kernel
theorem d_M_read_102 : decode b_M_read 102 = .ok (.istore 5, 2) := by decide +kernel
theorem d_M_read_104 : decode b_M_read 104 = .ok (.iload_n 3, 1) := by decide +kernel
theorem d_M_read_105 : decode b_M_read 105 = .ok (.iload_n 2, 1) := by decide +kernel
theorem d_M_read_106 : decode b_M_read 106 = .ok (.if_icmp .le 33, 3) := by decide +kernel
theorem d_M_read_109 : decode b_M_read 109 = .ok (.iload 5, 2) := by decide +kernel
theorem d_M_read_111 : decode b_M_read 111 = .ok (.aload_n 0, 1) := by decide +kernel
theorem d_M_read_112 : decode b_M_read 112 = .ok (.getfield 125, 3) := by decide +kernel
theorem d_M_read_115 : decode b_M_read 115 = .ok (.if_icmp .ne 24, 3) := by decide +kernel
theorem d_M_read_118 : decode b_M_read 118 = .ok (.iload 4, 2) := by decide +kernel
theorem d_M_read_120 : decode b_M_read 120 = .ok (.ifCond .eq 15, 3) := by decide +kernel
theorem d_M_read_123 : decode b_M_read 123 = .ok (.aload_n 0, 1) := by decide +kernel
theorem d_M_read_124 : decode b_M_read 124 = .ok (.iload_n 3, 1) := by decide +kernel
theorem d_M_read_125 : decode b_M_read 125 = .ok (.iconst 1, 1) := by decide +kernel
theorem d_M_read_126 : decode b_M_read 126 = .ok (.iadd, 1) := by decide +kernel
theorem d_M_read_127 : decode b_M_read 127 = .ok (.iload 5, 2) := by decide +kernel
theorem d_M_read_129 : decode b_M_read 129 = .ok (.invokevirtual 146, 3) := by decide +kernel
theorem d_M_read_132 : decode b_M_read 132 = .ok (.ifCond .eq 7, 3) := by decide +kernel
theorem d_M_read_135 : decode b_M_read 135 = .ok (.iconst 1, 1) := by decide +kernel
theorem d_M_read_136 : decode b_M_read 136 = .ok (.goto 4, 3) := by decide +kernel
theorem d_M_read_139 : decode b_M_read 139 = .ok (.iconst 0, 1) := by decide +kernel
theorem d_M_read_140 : decode b_M_read 140 = .ok (.istore 6, 2) := by decide +kernel
theorem d_M_read_142 : decode b_M_read 142 = .ok (.iload 6, 2) := by decide +kernel
theorem d_M_read_144 : decode b_M_read 144 = .ok (.ifCond .ne 16, 3) := by decide +kernel
theorem d_M_read_147 : decode b_M_read 147 = .ok (.aload_n 0, 1) := by decide +kernel
theorem d_M_read_148 : decode b_M_read 148 = .ok (.iconst 2, 1) := by decide +kernel
theorem d_M_read_149 : decode b_M_read 149 = .ok (.putfield 34, 3) := by decide +kernel
theorem d_M_read_152 : decode b_M_read 152 = .ok (.aload_n 0, 1) := by decide +kernel
theorem d_M_read_153 : decode b_M_read 153 = .ok (.iload 5, 2) := by decide +kernel
theorem d_M_read_155 : decode b_M_read 155 = .ok (.putfield 23, 3) := by decide +kernel
theorem d_M_read_158 : decode b_M_read 158 = .ok (.iconst 0, 1) := by decide +kernel
theorem d_M_read_159 : decode b_M_read 159 = .ok (.ireturn, 1) := by decide +kernel
theorem d_M_read_160 : decode b_M_read 160 = .ok (.aload_n 0, 1) := by decide +kernel
theorem d_M_read_161 : decode b_M_read 161 = .ok (.bipush 33, 2) := by decide +kernel
theorem d_M_read_163 : decode b_M_read 163 = .ok (.lconst 1, 1) := by decide +kernel
theorem d_M_read_164 : decode b_M_read 164 = .ok (.invokevirtual 30, 3) := by decide +kernel
theorem d_M_read_167 : decode b_M_read 167 = .ok (.aload_n 0, 1) := by decide +kernel
theorem d_M_read_168 : decode b_M_read 168 = .ok (.bipush 32, 2) := by decide +kernel
theorem d_M_read_170 : decode b_M_read 170 = .ok (.iload_n 2, 1) := by decide +kernel
theorem d_M_read_171 : decode b_M_read 171 = .ok (.iload_n 3, 1) := by decide +kernel
theorem d_M_read_172 : decode b_M_read 172 = .ok (.invokevirtual 150, 3) := by decide +kernel
theorem d_M_read_175 : decode b_M_read 175 = .ok (.ifCond .eq 22, 3) := by decide +kernel
theorem d_M_read_178 : decode b_M_read 178 = .ok (.iload 4, 2) := by decide +kernel
theorem d_M_read_180 : decode b_M_read 180 = .ok (.ifCond .eq 19, 3) := by decide +kernel
theorem d_M_read_183 : decode b_M_read 183 = .ok (.aload_n 0, 1) := by decide +kernel
theorem d_M_read_184 : decode b_M_read 184 = .ok (.bipush 33, 2) := by decide +kernel
theorem d_M_read_186 : decode b_M_read 186 = .ok (.iload_n 3, 1) := by decide +kernel
theorem d_M_read_187 : decode b_M_read 187 = .ok (.iconst 1, 1) := by decide +kernel
theorem d_M_read_188 : decode b_M_read 188 = .ok (.iadd, 1) := by decide +kernel
theorem d_M_read_189 : decode b_M_read 189 = .ok (.iload 5, 2) := by decide +kernel
theorem d_M_read_191 : decode b_M_read 191 = .ok (.invokevirtual 150, 3) := by decide +kernel
theorem d_M_read_194 : decode b_M_read 194 = .ok (.ifCond .ne 5, 3) := by decide +kernel
theorem d_M_read_197 : decode b_M_read 197 = .ok (.iconst (-1), 1) := by decide +kernel
theorem d_M_read_198 : decode b_M_read 198 = .ok (.ireturn, 1) := by decide +kernel
theorem d_M_read_199 : decode b_M_read 199 = .ok (.aload_n 0, 1) := by decide +kernel
theorem d_M_read_200 : decode b_M_read 200 = .ok (.getfield 16, 3) := by decide +kernel
theorem d_M_read_203 : decode b_M_read 203 = .ok (.bipush 32, 2) := by decide +kernel
theorem d_M_read_205 : decode b_M_read 205 = .ok (.iload_n 2, 1) := by decide +kernel
theorem d_M_read_206 : decode b_M_read 206 = .ok (.iconst 1, 1) := by decide +kernel
theorem d_M_read_207 : decode b_M_read 207 = .ok (.if_icmp .ne 17, 3) := by decide +kernel
theorem d_M_read_210 : decode b_M_read 210 = .ok (.aload_n 0, 1) := by decide +kernel
theorem d_M_read_211 : decode b_M_read 211 = .ok (.getfield 13, 3) := by decide +kernel
theorem d_M_read_214 : decode b_M_read 214 = .ok (.bipush 32, 2) := by decide +kernel
theorem d_M_read_216 : decode b_M_read 216 = .ok (.iaload, 1) := by decide +kernel
theorem d_M_read_217 : decode b_M_read 217 = .ok (.ifCond .le 7, 3) := by decide +kernel
theorem d_M_read_220 : decode b_M_read 220 = .ok (.iconst 1, 1) := by decide +kernel
theorem d_M_read_221 : decode b_M_read 221 = .ok (.goto 4, 3) := by decide +kernel
theorem d_M_read_224 : decode b_M_read 224 = .ok (.iconst 0, 1) := by decide +kernel
theorem d_M_read_225 : decode b_M_read 225 = .ok (.bastore, 1) := by decide +kernel
theorem d_M_read_226 : decode b_M_read 226 = .ok (.aload_n 0, 1) := by decide +kernel
theorem d_M_read_227 : decode b_M_read 227 = .ok (.iload_n 1, 1) := by decide +kernel
theorem d_M_read_228 : decode b_M_read 228 = .ok (.invokevirtual 89, 3) := by decide +kernel
theorem d_M_read_231 : decode b_M_read 231 = .ok (.pop, 1) := by decide +kernel
theorem d_M_read_232 : decode b_M_read 232 = .ok (.aload_n 0, 1) := by decide +kernel
theorem d_M_read_233 : decode b_M_read 233 = .ok (.iconst 0, 1) := by decide +kernel
theorem d_M_read_234 : decode b_M_read 234 = .ok (.putfield 125, 3) := by decide +kernel
theorem d_M_read_237 : decode b_M_read 237 = .ok (.iconst 0, 1) := by decide +kernel
theorem d_M_read_238 : decode b_M_read 238 = .ok (.ireturn, 1) := by decide +kernel
theorem d_M_endOf_0 : decode b_M_endOf 0 = .ok (.iload_n 1, 1) := by decide +kernel
theorem d_M_endOf_1 : decode b_M_endOf 1 = .ok (.istore_n 2, 1) := by decide +kernel
theorem d_M_endOf_2 : decode b_M_endOf 2 = .ok (.aload_n 0, 1) := by decide +kernel
theorem d_M_endOf_3 : decode b_M_endOf 3 = .ok (.iload_n 2, 1) := by decide +kernel
theorem d_M_endOf_4 : decode b_M_endOf 4 = .ok (.invokevirtual 140, 3) := by decide +kernel
theorem d_M_endOf_7 : decode b_M_endOf 7 = .ok (.ifCond .eq 9, 3) := by decide +kernel
theorem d_M_endOf_10 : decode b_M_endOf 10 = .ok (.iinc 2 1, 3) := by decide +kernel
theorem d_M_endOf_13 : decode b_M_endOf 13 = .ok (.goto (-11), 3) := by decide +kernel
theorem d_M_endOf_16 : decode b_M_endOf 16 = .ok (.iload_n 2, 1) := by decide +kernel
theorem d_M_endOf_17 : decode b_M_endOf 17 = .ok (.ireturn, 1) := by decide +kernel
theorem d_M_isDigit_0 : decode b_M_isDigit 0 = .ok (.iload_n 1, 1) := by decide +kernel
theorem d_M_isDigit_1 : decode b_M_isDigit 1 = .ok (.aload_n 0, 1) := by decide +kernel
theorem d_M_isDigit_2 : decode b_M_isDigit 2 = .ok (.getfield 125, 3) := by decide +kernel
theorem d_M_isDigit_5 : decode b_M_isDigit 5 = .ok (.if_icmp .ge 29, 3) := by decide +kernel
theorem d_M_isDigit_8 : decode b_M_isDigit 8 = .ok (.aload_n 0, 1) := by decide +kernel
theorem d_M_isDigit_9 : decode b_M_isDigit 9 = .ok (.getfield 20, 3) := by decide +kernel
theorem d_M_isDigit_12 : decode b_M_isDigit 12 = .ok (.iload_n 1, 1) := by decide +kernel
theorem d_M_isDigit_13 : decode b_M_isDigit 13 = .ok (.iaload, 1) := by decide +kernel
theorem d_M_isDigit_14 : decode b_M_isDigit 14 = .ok (.bipush 48, 2) := by decide +kernel
theorem d_M_isDigit_16 : decode b_M_isDigit 16 = .ok (.if_icmp .lt 18, 3) := by decide +kernel
theorem d_M_isDigit_19 : decode b_M_isDigit 19 = .ok (.aload_n 0, 1) := by decide +kernel
theorem d_M_isDigit_20 : decode b_M_isDigit 20 = .ok (.getfield 20, 3) := by decide +kernel
theorem d_M_isDigit_23 : decode b_M_isDigit 23 = .ok (.iload_n 1, 1) := by decide +kernel
theorem d_M_isDigit_24 : decode b_M_isDigit 24 = .ok (.iaload, 1) := by decide +kernel
theorem d_M_isDigit_25 : decode b_M_isDigit 25 = .ok (.bipush 57, 2) := by decide +kernel
theorem d_M_isDigit_27 : decode b_M_isDigit 27 = .ok (.if_icmp .gt 7, 3) := by decide +kernel
theorem d_M_isDigit_30 : decode b_M_isDigit 30 = .ok (.iconst 1, 1) := by decide +kernel
theorem d_M_isDigit_31 : decode b_M_isDigit 31 = .ok (.goto 4, 3) := by decide +kernel
theorem d_M_isDigit_34 : decode b_M_isDigit 34 = .ok (.iconst 0, 1) := by decide +kernel
theorem d_M_isDigit_35 : decode b_M_isDigit 35 = .ok (.ireturn, 1) := by decide +kernel
theorem d_M_hasMore_0 : decode b_M_hasMore 0 = .ok (.iconst 0, 1) := by decide +kernel
theorem d_M_hasMore_1 : decode b_M_hasMore 1 = .ok (.istore_n 3, 1) := by decide +kernel
theorem d_M_hasMore_2 : decode b_M_hasMore 2 = .ok (.iload_n 1, 1) := by decide +kernel
theorem d_M_hasMore_3 : decode b_M_hasMore 3 = .ok (.istore 4, 2) := by decide +kernel
theorem d_M_hasMore_5 : decode b_M_hasMore 5 = .ok (.iload 4, 2) := by decide +kernel
theorem d_M_hasMore_7 : decode b_M_hasMore 7 = .ok (.iload_n 2, 1) := by decide +kernel
theorem d_M_hasMore_8 : decode b_M_hasMore 8 = .ok (.if_icmp .ge 31, 3) := by decide +kernel
theorem d_M_hasMore_11 : decode b_M_hasMore 11 = .ok (.iload_n 3, 1) := by decide +kernel
theorem d_M_hasMore_12 : decode b_M_hasMore 12 = .ok (.ifCond .ne 15, 3) := by decide +kernel
theorem d_M_hasMore_15 : decode b_M_hasMore 15 = .ok (.aload_n 0, 1) := by decide +kernel
theorem d_M_hasMore_16 : decode b_M_hasMore 16 = .ok (.getfield 20, 3) := by decide +kernel
theorem d_M_hasMore_19 : decode b_M_hasMore 19 = .ok (.iload 4, 2) := by decide +kernel
theorem d_M_hasMore_21 : decode b_M_hasMore 21 = .ok (.iaload, 1) := by decide +kernel
theorem d_M_hasMore_22 : decode b_M_hasMore 22 = .ok (.bipush 48, 2) := by decide +kernel
theorem d_M_hasMore_24 : decode b_M_hasMore 24 = .ok (.if_icmp .eq 7, 3) := by decide +kernel
theorem d_M_hasMore_27 : decode b_M_hasMore 27 = .ok (.iconst 1, 1) := by decide +kernel
theorem d_M_hasMore_28 : decode b_M_hasMore 28 = .ok (.goto 4, 3) := by decide +kernel
theorem d_M_hasMore_31 : decode b_M_hasMore 31 = .ok (.iconst 0, 1) := by decide +kernel
theorem d_M_hasMore_32 : decode b_M_hasMore 32 = .ok (.istore_n 3, 1) := by decide +kernel
theorem d_M_hasMore_33 : decode b_M_hasMore 33 = .ok (.iinc 4 1, 3) := by decide +kernel
theorem d_M_hasMore_36 : decode b_M_hasMore 36 = .ok (.goto (-31), 3) := by decide +kernel
theorem d_M_hasMore_39 : decode b_M_hasMore 39 = .ok (.iload_n 3, 1) := by decide +kernel
theorem d_M_hasMore_40 : decode b_M_hasMore 40 = .ok (.ireturn, 1) := by decide +kernel
theorem d_M_tell_0 : decode b_M_tell 0 = .ok (.aload_n 0, 1) := by decide +kernel
theorem d_M_tell_1 : decode b_M_tell 1 = .ok (.iload_n 1, 1) := by decide +kernel
theorem d_M_tell_2 : decode b_M_tell 2 = .ok (.lconst 0, 1) := by decide +kernel
theorem d_M_tell_3 : decode b_M_tell 3 = .ok (.invokevirtual 30, 3) := by decide +kernel
theorem d_M_tell_6 : decode b_M_tell 6 = .ok (.iload_n 2, 1) := by decide +kernel
theorem d_M_tell_7 : decode b_M_tell 7 = .ok (.istore 4, 2) := by decide +kernel
theorem d_M_tell_9 : decode b_M_tell 9 = .ok (.iload 4, 2) := by decide +kernel
theorem d_M_tell_11 : decode b_M_tell 11 = .ok (.iload_n 3, 1) := by decide +kernel
theorem d_M_tell_12 : decode b_M_tell 12 = .ok (.if_icmp .ge 135, 3) := by decide +kernel
theorem d_M_tell_15 : decode b_M_tell 15 = .ok (.aload_n 0, 1) := by decide +kernel
theorem d_M_tell_16 : decode b_M_tell 16 = .ok (.getfield 20, 3) := by decide +kernel
theorem d_M_tell_19 : decode b_M_tell 19 = .ok (.iload 4, 2) := by decide +kernel
theorem d_M_tell_21 : decode b_M_tell 21 = .ok (.iaload, 1) := by decide +kernel
theorem d_M_tell_22 : decode b_M_tell 22 = .ok (.bipush 48, 2) := by decide +kernel
theorem d_M_tell_24 : decode b_M_tell 24 = .ok (.isub, 1) := by decide +kernel
theorem d_M_tell_25 : decode b_M_tell 25 = .ok (.istore 5, 2) := by decide +kernel
theorem d_M_tell_27 : decode b_M_tell 27 = .ok (.iconst 0, 1) := by decide +kernel
theorem d_M_tell_28 : decode b_M_tell 28 = .ok (.istore 6, 2) := by decide +kernel
theorem d_M_tell_30 : decode b_M_tell 30 = .ok (.iload 6, 2) := by decide +kernel
theorem d_M_tell_32 : decode b_M_tell 32 = .ok (.aload_n 0, 1) := by decide +kernel
theorem d_M_tell_33 : decode b_M_tell 33 = .ok (.getfield 13, 3) := by decide +kernel
theorem d_M_tell_36 : decode b_M_tell 36 = .ok (.iload_n 1, 1) := by decide +kernel
theorem d_M_tell_37 : decode b_M_tell 37 = .ok (.iaload, 1) := by decide +kernel
theorem d_M_tell_38 : decode b_M_tell 38 = .ok (.if_icmp .ge 55, 3) := by decide +kernel
theorem d_M_tell_41 : decode b_M_tell 41 = .ok (.bipush 10, 2) := by decide +kernel
theorem d_M_tell_43 : decode b_M_tell 43 = .ok (.aload_n 0, 1) := by decide +kernel
theorem d_M_tell_44 : decode b_M_tell 44 = .ok (.getfield 7, 3) := by decide +kernel
theorem d_M_tell_47 : decode b_M_tell 47 = .ok (.sipush 300, 3) := by decide +kernel
theorem d_M_tell_50 : decode b_M_tell 50 = .ok (.iload_n 1, 1) := by decide +kernel
theorem d_M_tell_51 : decode b_M_tell 51 = .ok (.imul, 1) := by decide +kernel
theorem d_M_tell_52 : decode b_M_tell 52 = .ok (.iload 6, 2) := by decide +kernel
theorem d_M_tell_54 : decode b_M_tell 54 = .ok (.iadd, 1) := by decide +kernel
theorem d_M_tell_55 : decode b_M_tell 55 = .ok (.iaload, 1) := by decide +kernel
theorem d_M_tell_56 : decode b_M_tell 56 = .ok (.imul, 1) := by decide +kernel
theorem d_M_tell_57 : decode b_M_tell 57 = .ok (.iload 5, 2) := by decide +kernel
theorem d_M_tell_59 : decode b_M_tell 59 = .ok (.iadd, 1) := by decide +kernel
theorem d_M_tell_60 : decode b_M_tell 60 = .ok (.istore 7, 2) := by decide +kernel
theorem d_M_tell_62 : decode b_M_tell 62 = .ok (.aload_n 0, 1) := by decide +kernel
theorem d_M_tell_63 : decode b_M_tell 63 = .ok (.getfield 7, 3) := by decide +kernel
theorem d_M_tell_66 : decode b_M_tell 66 = .ok (.sipush 300, 3) := by decide +kernel
theorem d_M_tell_69 : decode b_M_tell 69 = .ok (.iload_n 1, 1) := by decide +kernel
theorem d_M_tell_70 : decode b_M_tell 70 = .ok (.imul, 1) := by decide +kernel
theorem d_M_tell_71 : decode b_M_tell 71 = .ok (.iload 6, 2) := by decide +kernel
theorem d_M_tell_73 : decode b_M_tell 73 = .ok (.iadd, 1) := by decide +kernel
theorem d_M_tell_74 : decode b_M_tell 74 = .ok (.iload 7, 2) := by decide +kernel
theorem d_M_tell_76 : decode b_M_tell 76 = .ok (.ldc 43, 2) := by decide +kernel
theorem d_M_tell_78 : decode b_M_tell 78 = .ok (.irem, 1) := by decide +kernel
theorem d_M_tell_79 : decode b_M_tell 79 = .ok (.iastore, 1) := by decide +kernel
theorem d_M_tell_80 : decode b_M_tell 80 = .ok (.iload 7, 2) := by decide +kernel
theorem d_M_tell_82 : decode b_M_tell 82 = .ok (.ldc 43, 2) := by decide +kernel
theorem d_M_tell_84 : decode b_M_tell 84 = .ok (.idiv, 1) := by decide +kernel
theorem d_M_tell_85 : decode b_M_tell 85 = .ok (.istore 5, 2) := by decide +kernel
theorem d_M_tell_87 : decode b_M_tell 87 = .ok (.iinc 6 1, 3) := by decide +kernel
theorem d_M_tell_90 : decode b_M_tell 90 = .ok (.goto (-60), 3) := by decide +kernel
theorem d_M_tell_93 : decode b_M_tell 93 = .ok (.iload 5, 2) := by decide +kernel
theorem d_M_tell_95 : decode b_M_tell 95 = .ok (.ifCond .le 32, 3) := by decide +kernel
theorem d_M_tell_98 : decode b_M_tell 98 = .ok (.aload_n 0, 1) := by decide +kernel
theorem d_M_tell_99 : decode b_M_tell 99 = .ok (.getfield 7, 3) := by decide +kernel
theorem d_M_tell_102 : decode b_M_tell 102 = .ok (.sipush 300, 3) := by decide +kernel
theorem d_M_tell_105 : decode b_M_tell 105 = .ok (.iload_n 1, 1) := by decide +kernel
theorem d_M_tell_106 : decode b_M_tell 106 = .ok (.imul, 1) := by decide +kernel
theorem d_M_tell_107 : decode b_M_tell 107 = .ok (.aload_n 0, 1) := by decide +kernel
theorem d_M_tell_108 : decode b_M_tell 108 = .ok (.getfield 13, 3) := by decide +kernel
theorem d_M_tell_111 : decode b_M_tell 111 = .ok (.iload_n 1, 1) := by decide +kernel
theorem d_M_tell_112 : decode b_M_tell 112 = .ok (.iaload, 1) := by decide +kernel
theorem d_M_tell_113 : decode b_M_tell 113 = .ok (.iadd, 1) := by decide +kernel
theorem d_M_tell_114 : decode b_M_tell 114 = .ok (.iload 5, 2) := by decide +kernel
theorem d_M_tell_116 : decode b_M_tell 116 = .ok (.iastore, 1) := by decide +kernel
theorem d_M_tell_117 : decode b_M_tell 117 = .ok (.aload_n 0, 1) := by decide +kernel
theorem d_M_tell_118 : decode b_M_tell 118 = .ok (.getfield 13, 3) := by decide +kernel
theorem d_M_tell_121 : decode b_M_tell 121 = .ok (.iload_n 1, 1) := by decide +kernel
theorem d_M_tell_122 : decode b_M_tell 122 = .ok (.dup2, 1) := by decide +kernel
theorem d_M_tell_123 : decode b_M_tell 123 = .ok (.iaload, 1) := by decide +kernel
theorem d_M_tell_124 : decode b_M_tell 124 = .ok (.iconst 1, 1) := by decide +kernel
theorem d_M_tell_125 : decode b_M_tell 125 = .ok (.iadd, 1) := by decide +kernel
theorem d_M_tell_126 : decode b_M_tell 126 = .ok (.iastore, 1) := by decide +kernel
theorem d_M_tell_127 : decode b_M_tell 127 = .ok (.aload_n 0, 1) := by decide +kernel
theorem d_M_tell_128 : decode b_M_tell 128 = .ok (.getfield 13, 3) := by decide +kernel
theorem d_M_tell_131 : decode b_M_tell 131 = .ok (.iload_n 1, 1) := by decide +kernel
theorem d_M_tell_132 : decode b_M_tell 132 = .ok (.iaload, 1) := by decide +kernel
theorem d_M_tell_133 : decode b_M_tell 133 = .ok (.sipush 128, 3) := by decide +kernel
theorem d_M_tell_136 : decode b_M_tell 136 = .ok (.if_icmp .le 5, 3) := by decide +kernel
theorem d_M_tell_139 : decode b_M_tell 139 = .ok (.iconst 0, 1) := by decide +kernel
theorem d_M_tell_140 : decode b_M_tell 140 = .ok (.ireturn, 1) := by decide +kernel
theorem d_M_tell_141 : decode b_M_tell 141 = .ok (.iinc 4 1, 3) := by decide +kernel
theorem d_M_tell_144 : decode b_M_tell 144 = .ok (.goto (-135), 3) := by decide +kernel
theorem d_M_tell_147 : decode b_M_tell 147 = .ok (.iconst 1, 1) := by decide +kernel
theorem d_M_tell_148 : decode b_M_tell 148 = .ok (.ireturn, 1) := by decide +kernel
theorem d_M_place_0 : decode b_M_place 0 = .ok (.aload_n 0, 1) := by decide +kernel
theorem d_M_place_1 : decode b_M_place 1 = .ok (.iconst 0, 1) := by decide +kernel
theorem d_M_place_2 : decode b_M_place 2 = .ok (.putfield 34, 3) := by decide +kernel
theorem d_M_place_5 : decode b_M_place 5 = .ok (.aload_n 0, 1) := by decide +kernel
theorem d_M_place_6 : decode b_M_place 6 = .ok (.getfield 23, 3) := by decide +kernel
theorem d_M_place_9 : decode b_M_place 9 = .ok (.ireturn, 1) := by decide +kernel
theorem d_L_law_0 : decode code 0 = .ok (.new 8, 3) := by decide +kernel
theorem d_L_law_3 : decode code 3 = .ok (.dup, 1) := by decide +kernel
theorem d_L_law_4 : decode code 4 = .ok (.invokespecial 49, 3) := by decide +kernel
theorem d_L_law_7 : decode code 7 = .ok (.astore_n 1, 1) := by decide +kernel
theorem d_L_law_8 : decode code 8 = .ok (.new 50, 3) := by decide +kernel
theorem d_L_law_11 : decode code 11 = .ok (.dup, 1) := by decide +kernel
theorem d_L_law_12 : decode code 12 = .ok (.invokespecial 52, 3) := by decide +kernel
theorem d_L_law_15 : decode code 15 = .ok (.astore_n 2, 1) := by decide +kernel
theorem d_L_law_16 : decode code 16 = .ok (.iconst 1, 1) := by decide +kernel
theorem d_L_law_17 : decode code 17 = .ok (.newarray .long, 2) := by decide +kernel
theorem d_L_law_19 : decode code 19 = .ok (.astore_n 3, 1) := by decide +kernel
theorem d_L_law_20 : decode code 20 = .ok (.iconst 0, 1) := by decide +kernel
theorem d_L_law_21 : decode code 21 = .ok (.istore 4, 2) := by decide +kernel
theorem d_L_law_23 : decode code 23 = .ok (.iload 4, 2) := by decide +kernel
theorem d_L_law_25 : decode code 25 = .ok (.aload_n 0, 1) := by decide +kernel
theorem d_L_law_26 : decode code 26 = .ok (.arraylength, 1) := by decide +kernel
theorem d_L_law_27 : decode code 27 = .ok (.bipush 6, 2) := by decide +kernel
theorem d_L_law_29 : decode code 29 = .ok (.isub, 1) := by decide +kernel
theorem d_L_law_30 : decode code 30 = .ok (.if_icmp .gt 967, 3) := by decide +kernel
theorem d_L_law_33 : decode code 33 = .ok (.aload_n 0, 1) := by decide +kernel
theorem d_L_law_34 : decode code 34 = .ok (.iload 4, 2) := by decide +kernel
theorem d_L_law_36 : decode code 36 = .ok (.iaload, 1) := by decide +kernel
theorem d_L_law_37 : decode code 37 = .ok (.bipush 15, 2) := by decide +kernel
theorem d_L_law_39 : decode code 39 = .ok (.iand, 1) := by decide +kernel
theorem d_L_law_40 : decode code 40 = .ok (.tableswitch 951 0 13 #[72, 196, 288, 368, 448, 516, 572, 640, 719, 775, 844, 857, 882, 938], 72) := by decide +kernel
theorem d_L_law_112 : decode code 112 = .ok (.aload_n 1, 1) := by decide +kernel
theorem d_L_law_113 : decode code 113 = .ok (.aload_n 0, 1) := by decide +kernel
theorem d_L_law_114 : decode code 114 = .ok (.iload 4, 2) := by decide +kernel
theorem d_L_law_116 : decode code 116 = .ok (.iconst 1, 1) := by decide +kernel
theorem d_L_law_117 : decode code 117 = .ok (.iadd, 1) := by decide +kernel
theorem d_L_law_118 : decode code 118 = .ok (.iaload, 1) := by decide +kernel
theorem d_L_law_119 : decode code 119 = .ok (.aload_n 0, 1) := by decide +kernel
theorem d_L_law_120 : decode code 120 = .ok (.iload 4, 2) := by decide +kernel
theorem d_L_law_122 : decode code 122 = .ok (.iconst 2, 1) := by decide +kernel
theorem d_L_law_123 : decode code 123 = .ok (.iadd, 1) := by decide +kernel
theorem d_L_law_124 : decode code 124 = .ok (.iaload, 1) := by decide +kernel
theorem d_L_law_125 : decode code 125 = .ok (.i2l, 1) := by decide +kernel
theorem d_L_law_126 : decode code 126 = .ok (.bipush 32, 2) := by decide +kernel
theorem d_L_law_128 : decode code 128 = .ok (.lshl, 1) := by decide +kernel
theorem d_L_law_129 : decode code 129 = .ok (.aload_n 0, 1) := by decide +kernel
theorem d_L_law_130 : decode code 130 = .ok (.iload 4, 2) := by decide +kernel
theorem d_L_law_132 : decode code 132 = .ok (.iconst 3, 1) := by decide +kernel
theorem d_L_law_133 : decode code 133 = .ok (.iadd, 1) := by decide +kernel
theorem d_L_law_134 : decode code 134 = .ok (.iaload, 1) := by decide +kernel
theorem d_L_law_135 : decode code 135 = .ok (.i2l, 1) := by decide +kernel
theorem d_L_law_136 : decode code 136 = .ok (.ldc2_w 53, 3) := by decide +kernel
theorem d_L_law_139 : decode code 139 = .ok (.land, 1) := by decide +kernel
theorem d_L_law_140 : decode code 140 = .ok (.lor, 1) := by decide +kernel
theorem d_L_law_141 : decode code 141 = .ok (.aload_n 0, 1) := by decide +kernel
theorem d_L_law_142 : decode code 142 = .ok (.iload 4, 2) := by decide +kernel
theorem d_L_law_144 : decode code 144 = .ok (.iconst 4, 1) := by decide +kernel
theorem d_L_law_145 : decode code 145 = .ok (.iadd, 1) := by decide +kernel
theorem d_L_law_146 : decode code 146 = .ok (.iaload, 1) := by decide +kernel
theorem d_L_law_147 : decode code 147 = .ok (.i2l, 1) := by decide +kernel
theorem d_L_law_148 : decode code 148 = .ok (.bipush 32, 2) := by decide +kernel
theorem d_L_law_150 : decode code 150 = .ok (.lshl, 1) := by decide +kernel
theorem d_L_law_151 : decode code 151 = .ok (.aload_n 0, 1) := by decide +kernel
theorem d_L_law_152 : decode code 152 = .ok (.iload 4, 2) := by decide +kernel
theorem d_L_law_154 : decode code 154 = .ok (.iconst 5, 1) := by decide +kernel
theorem d_L_law_155 : decode code 155 = .ok (.iadd, 1) := by decide +kernel
theorem d_L_law_156 : decode code 156 = .ok (.iaload, 1) := by decide +kernel
theorem d_L_law_157 : decode code 157 = .ok (.i2l, 1) := by decide +kernel
theorem d_L_law_158 : decode code 158 = .ok (.ldc2_w 53, 3) := by decide +kernel
theorem d_L_law_161 : decode code 161 = .ok (.land, 1) := by decide +kernel
theorem d_L_law_162 : decode code 162 = .ok (.lor, 1) := by decide +kernel
theorem d_L_law_163 : decode code 163 = .ok (.invokestatic 55, 3) := by decide +kernel
theorem d_L_law_166 : decode code 166 = .ok (.istore 5, 2) := by decide +kernel
theorem d_L_law_168 : decode code 168 = .ok (.aload_n 2, 1) := by decide +kernel
theorem d_L_law_169 : decode code 169 = .ok (.aload_n 0, 1) := by decide +kernel
theorem d_L_law_170 : decode code 170 = .ok (.iload 4, 2) := by decide +kernel
theorem d_L_law_172 : decode code 172 = .ok (.iconst 1, 1) := by decide +kernel
theorem d_L_law_173 : decode code 173 = .ok (.iadd, 1) := by decide +kernel
theorem d_L_law_174 : decode code 174 = .ok (.iaload, 1) := by decide +kernel
theorem d_L_law_175 : decode code 175 = .ok (.aload_n 0, 1) := by decide +kernel
theorem d_L_law_176 : decode code 176 = .ok (.iload 4, 2) := by decide +kernel
theorem d_L_law_178 : decode code 178 = .ok (.iconst 2, 1) := by decide +kernel
theorem d_L_law_179 : decode code 179 = .ok (.iadd, 1) := by decide +kernel
theorem d_L_law_180 : decode code 180 = .ok (.iaload, 1) := by decide +kernel
theorem d_L_law_181 : decode code 181 = .ok (.i2l, 1) := by decide +kernel
theorem d_L_law_182 : decode code 182 = .ok (.bipush 32, 2) := by decide +kernel
theorem d_L_law_184 : decode code 184 = .ok (.lshl, 1) := by decide +kernel
theorem d_L_law_185 : decode code 185 = .ok (.aload_n 0, 1) := by decide +kernel
theorem d_L_law_186 : decode code 186 = .ok (.iload 4, 2) := by decide +kernel
theorem d_L_law_188 : decode code 188 = .ok (.iconst 3, 1) := by decide +kernel
theorem d_L_law_189 : decode code 189 = .ok (.iadd, 1) := by decide +kernel
theorem d_L_law_190 : decode code 190 = .ok (.iaload, 1) := by decide +kernel
theorem d_L_law_191 : decode code 191 = .ok (.i2l, 1) := by decide +kernel
theorem d_L_law_192 : decode code 192 = .ok (.ldc2_w 53, 3) := by decide +kernel
theorem d_L_law_195 : decode code 195 = .ok (.land, 1) := by decide +kernel
theorem d_L_law_196 : decode code 196 = .ok (.lor, 1) := by decide +kernel
theorem d_L_law_197 : decode code 197 = .ok (.aload_n 0, 1) := by decide +kernel
theorem d_L_law_198 : decode code 198 = .ok (.iload 4, 2) := by decide +kernel
theorem d_L_law_200 : decode code 200 = .ok (.iconst 4, 1) := by decide +kernel
theorem d_L_law_201 : decode code 201 = .ok (.iadd, 1) := by decide +kernel
theorem d_L_law_202 : decode code 202 = .ok (.iaload, 1) := by decide +kernel
theorem d_L_law_203 : decode code 203 = .ok (.i2l, 1) := by decide +kernel
theorem d_L_law_204 : decode code 204 = .ok (.bipush 32, 2) := by decide +kernel
theorem d_L_law_206 : decode code 206 = .ok (.lshl, 1) := by decide +kernel
theorem d_L_law_207 : decode code 207 = .ok (.aload_n 0, 1) := by decide +kernel
theorem d_L_law_208 : decode code 208 = .ok (.iload 4, 2) := by decide +kernel
theorem d_L_law_210 : decode code 210 = .ok (.iconst 5, 1) := by decide +kernel
theorem d_L_law_211 : decode code 211 = .ok (.iadd, 1) := by decide +kernel
theorem d_L_law_212 : decode code 212 = .ok (.iaload, 1) := by decide +kernel
theorem d_L_law_213 : decode code 213 = .ok (.i2l, 1) := by decide +kernel
theorem d_L_law_214 : decode code 214 = .ok (.ldc2_w 53, 3) := by decide +kernel
theorem d_L_law_217 : decode code 217 = .ok (.land, 1) := by decide +kernel
theorem d_L_law_218 : decode code 218 = .ok (.lor, 1) := by decide +kernel
theorem d_L_law_219 : decode code 219 = .ok (.invokevirtual 60, 3) := by decide +kernel
theorem d_L_law_222 : decode code 222 = .ok (.aload_n 2, 1) := by decide +kernel
theorem d_L_law_223 : decode code 223 = .ok (.invokevirtual 61, 3) := by decide +kernel
theorem d_L_law_226 : decode code 226 = .ok (.iload 5, 2) := by decide +kernel
theorem d_L_law_228 : decode code 228 = .ok (.if_icmp .eq 5, 3) := by decide +kernel
theorem d_L_law_231 : decode code 231 = .ok (.iconst 0, 1) := by decide +kernel
theorem d_L_law_232 : decode code 232 = .ok (.ireturn, 1) := by decide +kernel
theorem d_L_law_233 : decode code 233 = .ok (.goto 758, 3) := by decide +kernel
theorem d_L_law_236 : decode code 236 = .ok (.aload_n 1, 1) := by decide +kernel
theorem d_L_law_237 : decode code 237 = .ok (.aload_n 0, 1) := by decide +kernel
theorem d_L_law_238 : decode code 238 = .ok (.iload 4, 2) := by decide +kernel
theorem d_L_law_240 : decode code 240 = .ok (.iconst 1, 1) := by decide +kernel
theorem d_L_law_241 : decode code 241 = .ok (.iadd, 1) := by decide +kernel
theorem d_L_law_242 : decode code 242 = .ok (.iaload, 1) := by decide +kernel
theorem d_L_law_243 : decode code 243 = .ok (.aload_n 0, 1) := by decide +kernel
theorem d_L_law_244 : decode code 244 = .ok (.iload 4, 2) := by decide +kernel
theorem d_L_law_246 : decode code 246 = .ok (.iconst 2, 1) := by decide +kernel
theorem d_L_law_247 : decode code 247 = .ok (.iadd, 1) := by decide +kernel
theorem d_L_law_248 : decode code 248 = .ok (.iaload, 1) := by decide +kernel
theorem d_L_law_249 : decode code 249 = .ok (.aload_n 0, 1) := by decide +kernel
theorem d_L_law_250 : decode code 250 = .ok (.iload 4, 2) := by decide +kernel
theorem d_L_law_252 : decode code 252 = .ok (.iconst 3, 1) := by decide +kernel
theorem d_L_law_253 : decode code 253 = .ok (.iadd, 1) := by decide +kernel
theorem d_L_law_254 : decode code 254 = .ok (.iaload, 1) := by decide +kernel
theorem d_L_law_255 : decode code 255 = .ok (.aload_n 0, 1) := by decide +kernel
theorem d_L_law_256 : decode code 256 = .ok (.iload 4, 2) := by decide +kernel
theorem d_L_law_258 : decode code 258 = .ok (.iconst 4, 1) := by decide +kernel
theorem d_L_law_259 : decode code 259 = .ok (.iadd, 1) := by decide +kernel
theorem d_L_law_260 : decode code 260 = .ok (.iaload, 1) := by decide +kernel
theorem d_L_law_261 : decode code 261 = .ok (.aload_n 3, 1) := by decide +kernel
theorem d_L_law_262 : decode code 262 = .ok (.invokestatic 65, 3) := by decide +kernel
theorem d_L_law_265 : decode code 265 = .ok (.istore 5, 2) := by decide +kernel
theorem d_L_law_267 : decode code 267 = .ok (.aload_n 2, 1) := by decide +kernel
theorem d_L_law_268 : decode code 268 = .ok (.aload_n 0, 1) := by decide +kernel
theorem d_L_law_269 : decode code 269 = .ok (.iload 4, 2) := by decide +kernel
theorem d_L_law_271 : decode code 271 = .ok (.iconst 1, 1) := by decide +kernel
theorem d_L_law_272 : decode code 272 = .ok (.iadd, 1) := by decide +kernel
theorem d_L_law_273 : decode code 273 = .ok (.iaload, 1) := by decide +kernel
theorem d_L_law_274 : decode code 274 = .ok (.aload_n 0, 1) := by decide +kernel
theorem d_L_law_275 : decode code 275 = .ok (.iload 4, 2) := by decide +kernel
theorem d_L_law_277 : decode code 277 = .ok (.iconst 2, 1) := by decide +kernel
theorem d_L_law_278 : decode code 278 = .ok (.iadd, 1) := by decide +kernel
theorem d_L_law_279 : decode code 279 = .ok (.iaload, 1) := by decide +kernel
theorem d_L_law_280 : decode code 280 = .ok (.aload_n 0, 1) := by decide +kernel
theorem d_L_law_281 : decode code 281 = .ok (.iload 4, 2) := by decide +kernel
theorem d_L_law_283 : decode code 283 = .ok (.iconst 3, 1) := by decide +kernel
theorem d_L_law_284 : decode code 284 = .ok (.iadd, 1) := by decide +kernel
theorem d_L_law_285 : decode code 285 = .ok (.iaload, 1) := by decide +kernel
theorem d_L_law_286 : decode code 286 = .ok (.aload_n 0, 1) := by decide +kernel
theorem d_L_law_287 : decode code 287 = .ok (.iload 4, 2) := by decide +kernel
theorem d_L_law_289 : decode code 289 = .ok (.iconst 4, 1) := by decide +kernel
theorem d_L_law_290 : decode code 290 = .ok (.iadd, 1) := by decide +kernel
theorem d_L_law_291 : decode code 291 = .ok (.iaload, 1) := by decide +kernel
theorem d_L_law_292 : decode code 292 = .ok (.invokevirtual 68, 3) := by decide +kernel
theorem d_L_law_295 : decode code 295 = .ok (.istore 6, 2) := by decide +kernel
theorem d_L_law_297 : decode code 297 = .ok (.aload_n 2, 1) := by decide +kernel
theorem d_L_law_298 : decode code 298 = .ok (.invokevirtual 61, 3) := by decide +kernel
theorem d_L_law_301 : decode code 301 = .ok (.iload 5, 2) := by decide +kernel
theorem d_L_law_303 : decode code 303 = .ok (.if_icmp .eq 5, 3) := by decide +kernel
theorem d_L_law_306 : decode code 306 = .ok (.iconst 0, 1) := by decide +kernel
theorem d_L_law_307 : decode code 307 = .ok (.ireturn, 1) := by decide +kernel
theorem d_L_law_308 : decode code 308 = .ok (.iload 5, 2) := by decide +kernel
theorem d_L_law_310 : decode code 310 = .ok (.ifCond .ne 15, 3) := by decide +kernel
theorem d_L_law_313 : decode code 313 = .ok (.aload_n 3, 1) := by decide +kernel
theorem d_L_law_314 : decode code 314 = .ok (.iconst 0, 1) := by decide +kernel
theorem d_L_law_315 : decode code 315 = .ok (.laload, 1) := by decide +kernel
theorem d_L_law_316 : decode code 316 = .ok (.iload 6, 2) := by decide +kernel
theorem d_L_law_318 : decode code 318 = .ok (.i2l, 1) := by decide +kernel
theorem d_L_law_319 : decode code 319 = .ok (.lcmp, 1) := by decide +kernel
theorem d_L_law_320 : decode code 320 = .ok (.ifCond .eq 5, 3) := by decide +kernel
theorem d_L_law_323 : decode code 323 = .ok (.iconst 0, 1) := by decide +kernel
theorem d_L_law_324 : decode code 324 = .ok (.ireturn, 1) := by decide +kernel
theorem d_L_law_325 : decode code 325 = .ok (.goto 666, 3) := by decide +kernel
theorem d_L_law_328 : decode code 328 = .ok (.aload_n 1, 1) := by decide +kernel
theorem d_L_law_329 : decode code 329 = .ok (.aload_n 0, 1) := by decide +kernel
theorem d_L_law_330 : decode code 330 = .ok (.iload 4, 2) := by decide +kernel
theorem d_L_law_332 : decode code 332 = .ok (.iconst 1, 1) := by decide +kernel
theorem d_L_law_333 : decode code 333 = .ok (.iadd, 1) := by decide +kernel
theorem d_L_law_334 : decode code 334 = .ok (.iaload, 1) := by decide +kernel
theorem d_L_law_335 : decode code 335 = .ok (.aload_n 0, 1) := by decide +kernel
theorem d_L_law_336 : decode code 336 = .ok (.iload 4, 2) := by decide +kernel
theorem d_L_law_338 : decode code 338 = .ok (.iconst 2, 1) := by decide +kernel
theorem d_L_law_339 : decode code 339 = .ok (.iadd, 1) := by decide +kernel
theorem d_L_law_340 : decode code 340 = .ok (.iaload, 1) := by decide +kernel
theorem d_L_law_341 : decode code 341 = .ok (.aload_n 0, 1) := by decide +kernel
theorem d_L_law_342 : decode code 342 = .ok (.iload 4, 2) := by decide +kernel
theorem d_L_law_344 : decode code 344 = .ok (.iconst 3, 1) := by decide +kernel
theorem d_L_law_345 : decode code 345 = .ok (.iadd, 1) := by decide +kernel
theorem d_L_law_346 : decode code 346 = .ok (.iaload, 1) := by decide +kernel
theorem d_L_law_347 : decode code 347 = .ok (.aload_n 3, 1) := by decide +kernel
theorem d_L_law_348 : decode code 348 = .ok (.invokestatic 69, 3) := by decide +kernel
theorem d_L_law_351 : decode code 351 = .ok (.istore 5, 2) := by decide +kernel
theorem d_L_law_353 : decode code 353 = .ok (.aload_n 2, 1) := by decide +kernel
theorem d_L_law_354 : decode code 354 = .ok (.aload_n 0, 1) := by decide +kernel
theorem d_L_law_355 : decode code 355 = .ok (.iload 4, 2) := by decide +kernel
theorem d_L_law_357 : decode code 357 = .ok (.iconst 1, 1) := by decide +kernel
theorem d_L_law_358 : decode code 358 = .ok (.iadd, 1) := by decide +kernel
theorem d_L_law_359 : decode code 359 = .ok (.iaload, 1) := by decide +kernel
theorem d_L_law_360 : decode code 360 = .ok (.aload_n 0, 1) := by decide +kernel
theorem d_L_law_361 : decode code 361 = .ok (.iload 4, 2) := by decide +kernel
theorem d_L_law_363 : decode code 363 = .ok (.iconst 2, 1) := by decide +kernel
theorem d_L_law_364 : decode code 364 = .ok (.iadd, 1) := by decide +kernel
theorem d_L_law_365 : decode code 365 = .ok (.iaload, 1) := by decide +kernel
theorem d_L_law_366 : decode code 366 = .ok (.aload_n 0, 1) := by decide +kernel
theorem d_L_law_367 : decode code 367 = .ok (.iload 4, 2) := by decide +kernel
theorem d_L_law_369 : decode code 369 = .ok (.iconst 3, 1) := by decide +kernel
theorem d_L_law_370 : decode code 370 = .ok (.iadd, 1) := by decide +kernel
theorem d_L_law_371 : decode code 371 = .ok (.iaload, 1) := by decide +kernel
theorem d_L_law_372 : decode code 372 = .ok (.invokevirtual 72, 3) := by decide +kernel
theorem d_L_law_375 : decode code 375 = .ok (.istore 6, 2) := by decide +kernel
theorem d_L_law_377 : decode code 377 = .ok (.aload_n 2, 1) := by decide +kernel
theorem d_L_law_378 : decode code 378 = .ok (.invokevirtual 61, 3) := by decide +kernel
theorem d_L_law_381 : decode code 381 = .ok (.iload 5, 2) := by decide +kernel
theorem d_L_law_383 : decode code 383 = .ok (.if_icmp .eq 5, 3) := by decide +kernel
theorem d_L_law_386 : decode code 386 = .ok (.iconst 0, 1) := by decide +kernel
theorem d_L_law_387 : decode code 387 = .ok (.ireturn, 1) := by decide +kernel
theorem d_L_law_388 : decode code 388 = .ok (.iload 5, 2) := by decide +kernel
theorem d_L_law_390 : decode code 390 = .ok (.ifCond .ne 15, 3) := by decide +kernel
theorem d_L_law_393 : decode code 393 = .ok (.aload_n 3, 1) := by decide +kernel
theorem d_L_law_394 : decode code 394 = .ok (.iconst 0, 1) := by decide +kernel
theorem d_L_law_395 : decode code 395 = .ok (.laload, 1) := by decide +kernel
theorem d_L_law_396 : decode code 396 = .ok (.iload 6, 2) := by decide +kernel
theorem d_L_law_398 : decode code 398 = .ok (.i2l, 1) := by decide +kernel
theorem d_L_law_399 : decode code 399 = .ok (.lcmp, 1) := by decide +kernel
theorem d_L_law_400 : decode code 400 = .ok (.ifCond .eq 5, 3) := by decide +kernel
theorem d_L_law_403 : decode code 403 = .ok (.iconst 0, 1) := by decide +kernel
theorem d_L_law_404 : decode code 404 = .ok (.ireturn, 1) := by decide +kernel
theorem d_L_law_405 : decode code 405 = .ok (.goto 586, 3) := by decide +kernel
theorem d_L_law_408 : decode code 408 = .ok (.aload_n 1, 1) := by decide +kernel
theorem d_L_law_409 : decode code 409 = .ok (.aload_n 0, 1) := by decide +kernel
theorem d_L_law_410 : decode code 410 = .ok (.iload 4, 2) := by decide +kernel
theorem d_L_law_412 : decode code 412 = .ok (.iconst 1, 1) := by decide +kernel
theorem d_L_law_413 : decode code 413 = .ok (.iadd, 1) := by decide +kernel
theorem d_L_law_414 : decode code 414 = .ok (.iaload, 1) := by decide +kernel
