/-! the instructions, by program -/
theorem d_M_times_212 : decode b_M_times 212 = .ok (.baload, 1) := by decide +kernel
theorem d_M_times_213 : decode b_M_times 213 = .ok (.aload_n 0, 1) := by decide +kernel
theorem d_M_times_214 : decode b_M_times 214 = .ok (.getfield 16, 3) := by decide +kernel
theorem d_M_times_217 : decode b_M_times 217 = .ok (.iload_n 3, 1) := by decide +kernel
theorem d_M_times_218 : decode b_M_times 218 = .ok (.baload, 1) := by decide +kernel
theorem d_M_times_219 : decode b_M_times 219 = .ok (.if_icmp .eq 7, 3) := by decide +kernel
theorem d_M_times_222 : decode b_M_times 222 = .ok (.iconst 1, 1) := by decide +kernel
theorem d_M_times_223 : decode b_M_times 223 = .ok (.goto 4, 3) := by decide +kernel
theorem d_M_times_226 : decode b_M_times 226 = .ok (.iconst 0, 1) := by decide +kernel
theorem d_M_times_227 : decode b_M_times 227 = .ok (.bastore, 1) := by decide +kernel
theorem d_M_times_228 : decode b_M_times 228 = .ok (.aload_n 0, 1) := by decide +kernel
theorem d_M_times_229 : decode b_M_times 229 = .ok (.iload_n 1, 1) := by decide +kernel
theorem d_M_times_230 : decode b_M_times 230 = .ok (.invokevirtual 39, 3) := by decide +kernel
theorem d_M_times_233 : decode b_M_times 233 = .ok (.return_, 1) := by decide +kernel
theorem d_M_join_0 : decode b_M_join 0 = .ok (.aload_n 0, 1) := by decide +kernel
theorem d_M_join_1 : decode b_M_join 1 = .ok (.getfield 16, 3) := by decide +kernel
theorem d_M_join_4 : decode b_M_join 4 = .ok (.iload_n 2, 1) := by decide +kernel
theorem d_M_join_5 : decode b_M_join 5 = .ok (.baload, 1) := by decide +kernel
theorem d_M_join_6 : decode b_M_join 6 = .ok (.istore 5, 2) := by decide +kernel
theorem d_M_join_8 : decode b_M_join 8 = .ok (.aload_n 0, 1) := by decide +kernel
theorem d_M_join_9 : decode b_M_join 9 = .ok (.getfield 16, 3) := by decide +kernel
theorem d_M_join_12 : decode b_M_join 12 = .ok (.iload_n 3, 1) := by decide +kernel
theorem d_M_join_13 : decode b_M_join 13 = .ok (.baload, 1) := by decide +kernel
theorem d_M_join_14 : decode b_M_join 14 = .ok (.iload 4, 2) := by decide +kernel
theorem d_M_join_16 : decode b_M_join 16 = .ok (.if_icmp .eq 7, 3) := by decide +kernel
theorem d_M_join_19 : decode b_M_join 19 = .ok (.iconst 1, 1) := by decide +kernel
theorem d_M_join_20 : decode b_M_join 20 = .ok (.goto 4, 3) := by decide +kernel
theorem d_M_join_23 : decode b_M_join 23 = .ok (.iconst 0, 1) := by decide +kernel
theorem d_M_join_24 : decode b_M_join 24 = .ok (.istore 6, 2) := by decide +kernel
theorem d_M_join_26 : decode b_M_join 26 = .ok (.iload 5, 2) := by decide +kernel
theorem d_M_join_28 : decode b_M_join 28 = .ok (.iload 6, 2) := by decide +kernel
theorem d_M_join_30 : decode b_M_join 30 = .ok (.if_icmp .ne 21, 3) := by decide +kernel
theorem d_M_join_33 : decode b_M_join 33 = .ok (.aload_n 0, 1) := by decide +kernel
theorem d_M_join_34 : decode b_M_join 34 = .ok (.iload_n 1, 1) := by decide +kernel
theorem d_M_join_35 : decode b_M_join 35 = .ok (.iload_n 2, 1) := by decide +kernel
theorem d_M_join_36 : decode b_M_join 36 = .ok (.iload_n 3, 1) := by decide +kernel
theorem d_M_join_37 : decode b_M_join 37 = .ok (.invokevirtual 44, 3) := by decide +kernel
theorem d_M_join_40 : decode b_M_join 40 = .ok (.aload_n 0, 1) := by decide +kernel
theorem d_M_join_41 : decode b_M_join 41 = .ok (.getfield 16, 3) := by decide +kernel
theorem d_M_join_44 : decode b_M_join 44 = .ok (.iload_n 1, 1) := by decide +kernel
theorem d_M_join_45 : decode b_M_join 45 = .ok (.iload 5, 2) := by decide +kernel
theorem d_M_join_47 : decode b_M_join 47 = .ok (.bastore, 1) := by decide +kernel
theorem d_M_join_48 : decode b_M_join 48 = .ok (.goto 45, 3) := by decide +kernel
theorem d_M_join_51 : decode b_M_join 51 = .ok (.aload_n 0, 1) := by decide +kernel
theorem d_M_join_52 : decode b_M_join 52 = .ok (.iload_n 2, 1) := by decide +kernel
theorem d_M_join_53 : decode b_M_join 53 = .ok (.iload_n 3, 1) := by decide +kernel
theorem d_M_join_54 : decode b_M_join 54 = .ok (.invokevirtual 48, 3) := by decide +kernel
theorem d_M_join_57 : decode b_M_join 57 = .ok (.ifCond .lt 21, 3) := by decide +kernel
theorem d_M_join_60 : decode b_M_join 60 = .ok (.aload_n 0, 1) := by decide +kernel
theorem d_M_join_61 : decode b_M_join 61 = .ok (.iload_n 1, 1) := by decide +kernel
theorem d_M_join_62 : decode b_M_join 62 = .ok (.iload_n 2, 1) := by decide +kernel
theorem d_M_join_63 : decode b_M_join 63 = .ok (.iload_n 3, 1) := by decide +kernel
theorem d_M_join_64 : decode b_M_join 64 = .ok (.invokevirtual 52, 3) := by decide +kernel
theorem d_M_join_67 : decode b_M_join 67 = .ok (.aload_n 0, 1) := by decide +kernel
theorem d_M_join_68 : decode b_M_join 68 = .ok (.getfield 16, 3) := by decide +kernel
theorem d_M_join_71 : decode b_M_join 71 = .ok (.iload_n 1, 1) := by decide +kernel
theorem d_M_join_72 : decode b_M_join 72 = .ok (.iload 5, 2) := by decide +kernel
theorem d_M_join_74 : decode b_M_join 74 = .ok (.bastore, 1) := by decide +kernel
theorem d_M_join_75 : decode b_M_join 75 = .ok (.goto 18, 3) := by decide +kernel
theorem d_M_join_78 : decode b_M_join 78 = .ok (.aload_n 0, 1) := by decide +kernel
theorem d_M_join_79 : decode b_M_join 79 = .ok (.iload_n 1, 1) := by decide +kernel
theorem d_M_join_80 : decode b_M_join 80 = .ok (.iload_n 3, 1) := by decide +kernel
theorem d_M_join_81 : decode b_M_join 81 = .ok (.iload_n 2, 1) := by decide +kernel
theorem d_M_join_82 : decode b_M_join 82 = .ok (.invokevirtual 52, 3) := by decide +kernel
theorem d_M_join_85 : decode b_M_join 85 = .ok (.aload_n 0, 1) := by decide +kernel
theorem d_M_join_86 : decode b_M_join 86 = .ok (.getfield 16, 3) := by decide +kernel
theorem d_M_join_89 : decode b_M_join 89 = .ok (.iload_n 1, 1) := by decide +kernel
theorem d_M_join_90 : decode b_M_join 90 = .ok (.iload 6, 2) := by decide +kernel
theorem d_M_join_92 : decode b_M_join 92 = .ok (.bastore, 1) := by decide +kernel
theorem d_M_join_93 : decode b_M_join 93 = .ok (.aload_n 0, 1) := by decide +kernel
theorem d_M_join_94 : decode b_M_join 94 = .ok (.iload_n 1, 1) := by decide +kernel
theorem d_M_join_95 : decode b_M_join 95 = .ok (.invokevirtual 39, 3) := by decide +kernel
theorem d_M_join_98 : decode b_M_join 98 = .ok (.return_, 1) := by decide +kernel
theorem d_M_addSizes_0 : decode b_M_addSizes 0 = .ok (.aload_n 0, 1) := by decide +kernel
theorem d_M_addSizes_1 : decode b_M_addSizes 1 = .ok (.getfield 13, 3) := by decide +kernel
theorem d_M_addSizes_4 : decode b_M_addSizes 4 = .ok (.iload_n 2, 1) := by decide +kernel
theorem d_M_addSizes_5 : decode b_M_addSizes 5 = .ok (.iaload, 1) := by decide +kernel
theorem d_M_addSizes_6 : decode b_M_addSizes 6 = .ok (.aload_n 0, 1) := by decide +kernel
theorem d_M_addSizes_7 : decode b_M_addSizes 7 = .ok (.getfield 13, 3) := by decide +kernel
theorem d_M_addSizes_10 : decode b_M_addSizes 10 = .ok (.iload_n 3, 1) := by decide +kernel
theorem d_M_addSizes_11 : decode b_M_addSizes 11 = .ok (.iaload, 1) := by decide +kernel
theorem d_M_addSizes_12 : decode b_M_addSizes 12 = .ok (.if_icmp .le 12, 3) := by decide +kernel
theorem d_M_addSizes_15 : decode b_M_addSizes 15 = .ok (.aload_n 0, 1) := by decide +kernel
theorem d_M_addSizes_16 : decode b_M_addSizes 16 = .ok (.getfield 13, 3) := by decide +kernel
theorem d_M_addSizes_19 : decode b_M_addSizes 19 = .ok (.iload_n 2, 1) := by decide +kernel
theorem d_M_addSizes_20 : decode b_M_addSizes 20 = .ok (.iaload, 1) := by decide +kernel
theorem d_M_addSizes_21 : decode b_M_addSizes 21 = .ok (.goto 9, 3) := by decide +kernel
theorem d_M_addSizes_24 : decode b_M_addSizes 24 = .ok (.aload_n 0, 1) := by decide +kernel
theorem d_M_addSizes_25 : decode b_M_addSizes 25 = .ok (.getfield 13, 3) := by decide +kernel
theorem d_M_addSizes_28 : decode b_M_addSizes 28 = .ok (.iload_n 3, 1) := by decide +kernel
theorem d_M_addSizes_29 : decode b_M_addSizes 29 = .ok (.iaload, 1) := by decide +kernel
theorem d_M_addSizes_30 : decode b_M_addSizes 30 = .ok (.istore 4, 2) := by decide +kernel
theorem d_M_addSizes_32 : decode b_M_addSizes 32 = .ok (.iconst 0, 1) := by decide +kernel
theorem d_M_addSizes_33 : decode b_M_addSizes 33 = .ok (.istore 5, 2) := by decide +kernel
theorem d_M_addSizes_35 : decode b_M_addSizes 35 = .ok (.iconst 0, 1) := by decide +kernel
theorem d_M_addSizes_36 : decode b_M_addSizes 36 = .ok (.istore 6, 2) := by decide +kernel
theorem d_M_addSizes_38 : decode b_M_addSizes 38 = .ok (.iload 6, 2) := by decide +kernel
theorem d_M_addSizes_40 : decode b_M_addSizes 40 = .ok (.iload 4, 2) := by decide +kernel
theorem d_M_addSizes_42 : decode b_M_addSizes 42 = .ok (.if_icmp .ge 96, 3) := by decide +kernel
theorem d_M_addSizes_45 : decode b_M_addSizes 45 = .ok (.iload 5, 2) := by decide +kernel
theorem d_M_addSizes_47 : decode b_M_addSizes 47 = .ok (.iload 6, 2) := by decide +kernel
theorem d_M_addSizes_49 : decode b_M_addSizes 49 = .ok (.aload_n 0, 1) := by decide +kernel
theorem d_M_addSizes_50 : decode b_M_addSizes 50 = .ok (.getfield 13, 3) := by decide +kernel
theorem d_M_addSizes_53 : decode b_M_addSizes 53 = .ok (.iload_n 2, 1) := by decide +kernel
theorem d_M_addSizes_54 : decode b_M_addSizes 54 = .ok (.iaload, 1) := by decide +kernel
theorem d_M_addSizes_55 : decode b_M_addSizes 55 = .ok (.if_icmp .ge 19, 3) := by decide +kernel
theorem d_M_addSizes_58 : decode b_M_addSizes 58 = .ok (.aload_n 0, 1) := by decide +kernel
theorem d_M_addSizes_59 : decode b_M_addSizes 59 = .ok (.getfield 7, 3) := by decide +kernel
theorem d_M_addSizes_62 : decode b_M_addSizes 62 = .ok (.sipush 300, 3) := by decide +kernel
theorem d_M_addSizes_65 : decode b_M_addSizes 65 = .ok (.iload_n 2, 1) := by decide +kernel
theorem d_M_addSizes_66 : decode b_M_addSizes 66 = .ok (.imul, 1) := by decide +kernel
theorem d_M_addSizes_67 : decode b_M_addSizes 67 = .ok (.iload 6, 2) := by decide +kernel
theorem d_M_addSizes_69 : decode b_M_addSizes 69 = .ok (.iadd, 1) := by decide +kernel
theorem d_M_addSizes_70 : decode b_M_addSizes 70 = .ok (.iaload, 1) := by decide +kernel
theorem d_M_addSizes_71 : decode b_M_addSizes 71 = .ok (.goto 4, 3) := by decide +kernel
theorem d_M_addSizes_74 : decode b_M_addSizes 74 = .ok (.iconst 0, 1) := by decide +kernel
theorem d_M_addSizes_75 : decode b_M_addSizes 75 = .ok (.iadd, 1) := by decide +kernel
theorem d_M_addSizes_76 : decode b_M_addSizes 76 = .ok (.iload 6, 2) := by decide +kernel
theorem d_M_addSizes_78 : decode b_M_addSizes 78 = .ok (.aload_n 0, 1) := by decide +kernel
theorem d_M_addSizes_79 : decode b_M_addSizes 79 = .ok (.getfield 13, 3) := by decide +kernel
theorem d_M_addSizes_82 : decode b_M_addSizes 82 = .ok (.iload_n 3, 1) := by decide +kernel
theorem d_M_addSizes_83 : decode b_M_addSizes 83 = .ok (.iaload, 1) := by decide +kernel
theorem d_M_addSizes_84 : decode b_M_addSizes 84 = .ok (.if_icmp .ge 19, 3) := by decide +kernel
theorem d_M_addSizes_87 : decode b_M_addSizes 87 = .ok (.aload_n 0, 1) := by decide +kernel
theorem d_M_addSizes_88 : decode b_M_addSizes 88 = .ok (.getfield 7, 3) := by decide +kernel
theorem d_M_addSizes_91 : decode b_M_addSizes 91 = .ok (.sipush 300, 3) := by decide +kernel
theorem d_M_addSizes_94 : decode b_M_addSizes 94 = .ok (.iload_n 3, 1) := by decide +kernel
theorem d_M_addSizes_95 : decode b_M_addSizes 95 = .ok (.imul, 1) := by decide +kernel
theorem d_M_addSizes_96 : decode b_M_addSizes 96 = .ok (.iload 6, 2) := by decide +kernel
theorem d_M_addSizes_98 : decode b_M_addSizes 98 = .ok (.iadd, 1) := by decide +kernel
theorem d_M_addSizes_99 : decode b_M_addSizes 99 = .ok (.iaload, 1) := by decide +kernel
theorem d_M_addSizes_100 : decode b_M_addSizes 100 = .ok (.goto 4, 3) := by decide +kernel
theorem d_M_addSizes_103 : decode b_M_addSizes 103 = .ok (.iconst 0, 1) := by decide +kernel
theorem d_M_addSizes_104 : decode b_M_addSizes 104 = .ok (.iadd, 1) := by decide +kernel
theorem d_M_addSizes_105 : decode b_M_addSizes 105 = .ok (.istore 7, 2) := by decide +kernel
theorem d_M_addSizes_107 : decode b_M_addSizes 107 = .ok (.aload_n 0, 1) := by decide +kernel
theorem d_M_addSizes_108 : decode b_M_addSizes 108 = .ok (.getfield 7, 3) := by decide +kernel
theorem d_M_addSizes_111 : decode b_M_addSizes 111 = .ok (.sipush 300, 3) := by decide +kernel
theorem d_M_addSizes_114 : decode b_M_addSizes 114 = .ok (.iload_n 1, 1) := by decide +kernel
theorem d_M_addSizes_115 : decode b_M_addSizes 115 = .ok (.imul, 1) := by decide +kernel
theorem d_M_addSizes_116 : decode b_M_addSizes 116 = .ok (.iload 6, 2) := by decide +kernel
theorem d_M_addSizes_118 : decode b_M_addSizes 118 = .ok (.iadd, 1) := by decide +kernel
theorem d_M_addSizes_119 : decode b_M_addSizes 119 = .ok (.iload 7, 2) := by decide +kernel
theorem d_M_addSizes_121 : decode b_M_addSizes 121 = .ok (.ldc 43, 2) := by decide +kernel
theorem d_M_addSizes_123 : decode b_M_addSizes 123 = .ok (.irem, 1) := by decide +kernel
theorem d_M_addSizes_124 : decode b_M_addSizes 124 = .ok (.iastore, 1) := by decide +kernel
theorem d_M_addSizes_125 : decode b_M_addSizes 125 = .ok (.iload 7, 2) := by decide +kernel
theorem d_M_addSizes_127 : decode b_M_addSizes 127 = .ok (.ldc 43, 2) := by decide +kernel
theorem d_M_addSizes_129 : decode b_M_addSizes 129 = .ok (.idiv, 1) := by decide +kernel
theorem d_M_addSizes_130 : decode b_M_addSizes 130 = .ok (.istore 5, 2) := by decide +kernel
theorem d_M_addSizes_132 : decode b_M_addSizes 132 = .ok (.iinc 6 1, 3) := by decide +kernel
theorem d_M_addSizes_135 : decode b_M_addSizes 135 = .ok (.goto (-97), 3) := by decide +kernel
theorem d_M_addSizes_138 : decode b_M_addSizes 138 = .ok (.aload_n 0, 1) := by decide +kernel
theorem d_M_addSizes_139 : decode b_M_addSizes 139 = .ok (.getfield 7, 3) := by decide +kernel
theorem d_M_addSizes_142 : decode b_M_addSizes 142 = .ok (.sipush 300, 3) := by decide +kernel
theorem d_M_addSizes_145 : decode b_M_addSizes 145 = .ok (.iload_n 1, 1) := by decide +kernel
theorem d_M_addSizes_146 : decode b_M_addSizes 146 = .ok (.imul, 1) := by decide +kernel
theorem d_M_addSizes_147 : decode b_M_addSizes 147 = .ok (.iload 4, 2) := by decide +kernel
theorem d_M_addSizes_149 : decode b_M_addSizes 149 = .ok (.iadd, 1) := by decide +kernel
theorem d_M_addSizes_150 : decode b_M_addSizes 150 = .ok (.iload 5, 2) := by decide +kernel
theorem d_M_addSizes_152 : decode b_M_addSizes 152 = .ok (.iastore, 1) := by decide +kernel
theorem d_M_addSizes_153 : decode b_M_addSizes 153 = .ok (.aload_n 0, 1) := by decide +kernel
theorem d_M_addSizes_154 : decode b_M_addSizes 154 = .ok (.getfield 13, 3) := by decide +kernel
theorem d_M_addSizes_157 : decode b_M_addSizes 157 = .ok (.iload_n 1, 1) := by decide +kernel
theorem d_M_addSizes_158 : decode b_M_addSizes 158 = .ok (.iload 4, 2) := by decide +kernel
theorem d_M_addSizes_160 : decode b_M_addSizes 160 = .ok (.iconst 1, 1) := by decide +kernel
theorem d_M_addSizes_161 : decode b_M_addSizes 161 = .ok (.iadd, 1) := by decide +kernel
theorem d_M_addSizes_162 : decode b_M_addSizes 162 = .ok (.iastore, 1) := by decide +kernel
theorem d_M_addSizes_163 : decode b_M_addSizes 163 = .ok (.return_, 1) := by decide +kernel
theorem d_M_takeSizes_0 : decode b_M_takeSizes 0 = .ok (.aload_n 0, 1) := by decide +kernel
theorem d_M_takeSizes_1 : decode b_M_takeSizes 1 = .ok (.getfield 13, 3) := by decide +kernel
theorem d_M_takeSizes_4 : decode b_M_takeSizes 4 = .ok (.iload_n 2, 1) := by decide +kernel
theorem d_M_takeSizes_5 : decode b_M_takeSizes 5 = .ok (.iaload, 1) := by decide +kernel
theorem d_M_takeSizes_6 : decode b_M_takeSizes 6 = .ok (.istore 4, 2) := by decide +kernel
theorem d_M_takeSizes_8 : decode b_M_takeSizes 8 = .ok (.iconst 0, 1) := by decide +kernel
theorem d_M_takeSizes_9 : decode b_M_takeSizes 9 = .ok (.istore 5, 2) := by decide +kernel
theorem d_M_takeSizes_11 : decode b_M_takeSizes 11 = .ok (.iconst 0, 1) := by decide +kernel
theorem d_M_takeSizes_12 : decode b_M_takeSizes 12 = .ok (.istore 6, 2) := by decide +kernel
theorem d_M_takeSizes_14 : decode b_M_takeSizes 14 = .ok (.iload 6, 2) := by decide +kernel
theorem d_M_takeSizes_16 : decode b_M_takeSizes 16 = .ok (.iload 4, 2) := by decide +kernel
theorem d_M_takeSizes_18 : decode b_M_takeSizes 18 = .ok (.if_icmp .ge 96, 3) := by decide +kernel
theorem d_M_takeSizes_21 : decode b_M_takeSizes 21 = .ok (.aload_n 0, 1) := by decide +kernel
theorem d_M_takeSizes_22 : decode b_M_takeSizes 22 = .ok (.getfield 7, 3) := by decide +kernel
theorem d_M_takeSizes_25 : decode b_M_takeSizes 25 = .ok (.sipush 300, 3) := by decide +kernel
theorem d_M_takeSizes_28 : decode b_M_takeSizes 28 = .ok (.iload_n 2, 1) := by decide +kernel
theorem d_M_takeSizes_29 : decode b_M_takeSizes 29 = .ok (.imul, 1) := by decide +kernel
theorem d_M_takeSizes_30 : decode b_M_takeSizes 30 = .ok (.iload 6, 2) := by decide +kernel
theorem d_M_takeSizes_32 : decode b_M_takeSizes 32 = .ok (.iadd, 1) := by decide +kernel
theorem d_M_takeSizes_33 : decode b_M_takeSizes 33 = .ok (.iaload, 1) := by decide +kernel
theorem d_M_takeSizes_34 : decode b_M_takeSizes 34 = .ok (.iload 5, 2) := by decide +kernel
theorem d_M_takeSizes_36 : decode b_M_takeSizes 36 = .ok (.isub, 1) := by decide +kernel
theorem d_M_takeSizes_37 : decode b_M_takeSizes 37 = .ok (.iload 6, 2) := by decide +kernel
theorem d_M_takeSizes_39 : decode b_M_takeSizes 39 = .ok (.aload_n 0, 1) := by decide +kernel
theorem d_M_takeSizes_40 : decode b_M_takeSizes 40 = .ok (.getfield 13, 3) := by decide +kernel
theorem d_M_takeSizes_43 : decode b_M_takeSizes 43 = .ok (.iload_n 3, 1) := by decide +kernel
theorem d_M_takeSizes_44 : decode b_M_takeSizes 44 = .ok (.iaload, 1) := by decide +kernel
theorem d_M_takeSizes_45 : decode b_M_takeSizes 45 = .ok (.if_icmp .ge 19, 3) := by decide +kernel
theorem d_M_takeSizes_48 : decode b_M_takeSizes 48 = .ok (.aload_n 0, 1) := by decide +kernel
theorem d_M_takeSizes_49 : decode b_M_takeSizes 49 = .ok (.getfield 7, 3) := by decide +kernel
theorem d_M_takeSizes_52 : decode b_M_takeSizes 52 = .ok (.sipush 300, 3) := by decide +kernel
theorem d_M_takeSizes_55 : decode b_M_takeSizes 55 = .ok (.iload_n 3, 1) := by decide +kernel
theorem d_M_takeSizes_56 : decode b_M_takeSizes 56 = .ok (.imul, 1) := by decide +kernel
theorem d_M_takeSizes_57 : decode b_M_takeSizes 57 = .ok (.iload 6, 2) := by decide +kernel
theorem d_M_takeSizes_59 : decode b_M_takeSizes 59 = .ok (.iadd, 1) := by decide +kernel
theorem d_M_takeSizes_60 : decode b_M_takeSizes 60 = .ok (.iaload, 1) := by decide +kernel
theorem d_M_takeSizes_61 : decode b_M_takeSizes 61 = .ok (.goto 4, 3) := by decide +kernel
theorem d_M_takeSizes_64 : decode b_M_takeSizes 64 = .ok (.iconst 0, 1) := by decide +kernel
theorem d_M_takeSizes_65 : decode b_M_takeSizes 65 = .ok (.isub, 1) := by decide +kernel
theorem d_M_takeSizes_66 : decode b_M_takeSizes 66 = .ok (.istore 7, 2) := by decide +kernel
theorem d_M_takeSizes_68 : decode b_M_takeSizes 68 = .ok (.iload 7, 2) := by decide +kernel
theorem d_M_takeSizes_70 : decode b_M_takeSizes 70 = .ok (.ifCond .ge 7, 3) := by decide +kernel
theorem d_M_takeSizes_73 : decode b_M_takeSizes 73 = .ok (.iconst 1, 1) := by decide +kernel
theorem d_M_takeSizes_74 : decode b_M_takeSizes 74 = .ok (.goto 4, 3) := by decide +kernel
theorem d_M_takeSizes_77 : decode b_M_takeSizes 77 = .ok (.iconst 0, 1) := by decide +kernel
theorem d_M_takeSizes_78 : decode b_M_takeSizes 78 = .ok (.istore 5, 2) := by decide +kernel
theorem d_M_takeSizes_80 : decode b_M_takeSizes 80 = .ok (.aload_n 0, 1) := by decide +kernel
theorem d_M_takeSizes_81 : decode b_M_takeSizes 81 = .ok (.getfield 7, 3) := by decide +kernel
theorem d_M_takeSizes_84 : decode b_M_takeSizes 84 = .ok (.sipush 300, 3) := by decide +kernel
theorem d_M_takeSizes_87 : decode b_M_takeSizes 87 = .ok (.iload_n 1, 1) := by decide +kernel
theorem d_M_takeSizes_88 : decode b_M_takeSizes 88 = .ok (.imul, 1) := by decide +kernel
theorem d_M_takeSizes_89 : decode b_M_takeSizes 89 = .ok (.iload 6, 2) := by decide +kernel
theorem d_M_takeSizes_91 : decode b_M_takeSizes 91 = .ok (.iadd, 1) := by decide +kernel
theorem d_M_takeSizes_92 : decode b_M_takeSizes 92 = .ok (.iload 7, 2) := by decide +kernel
theorem d_M_takeSizes_94 : decode b_M_takeSizes 94 = .ok (.ifCond .ge 11, 3) := by decide +kernel
theorem d_M_takeSizes_97 : decode b_M_takeSizes 97 = .ok (.iload 7, 2) := by decide +kernel
theorem d_M_takeSizes_99 : decode b_M_takeSizes 99 = .ok (.ldc 43, 2) := by decide +kernel
theorem d_M_takeSizes_101 : decode b_M_takeSizes 101 = .ok (.iadd, 1) := by decide +kernel
theorem d_M_takeSizes_102 : decode b_M_takeSizes 102 = .ok (.goto 5, 3) := by decide +kernel
theorem d_M_takeSizes_105 : decode b_M_takeSizes 105 = .ok (.iload 7, 2) := by decide +kernel
theorem d_M_takeSizes_107 : decode b_M_takeSizes 107 = .ok (.iastore, 1) := by decide +kernel
theorem d_M_takeSizes_108 : decode b_M_takeSizes 108 = .ok (.iinc 6 1, 3) := by decide +kernel
theorem d_M_takeSizes_111 : decode b_M_takeSizes 111 = .ok (.goto (-97), 3) := by decide +kernel
theorem d_M_takeSizes_114 : decode b_M_takeSizes 114 = .ok (.aload_n 0, 1) := by decide +kernel
theorem d_M_takeSizes_115 : decode b_M_takeSizes 115 = .ok (.getfield 13, 3) := by decide +kernel
theorem d_M_takeSizes_118 : decode b_M_takeSizes 118 = .ok (.iload_n 1, 1) := by decide +kernel
theorem d_M_takeSizes_119 : decode b_M_takeSizes 119 = .ok (.iload 4, 2) := by decide +kernel
theorem d_M_takeSizes_121 : decode b_M_takeSizes 121 = .ok (.iastore, 1) := by decide +kernel
theorem d_M_takeSizes_122 : decode b_M_takeSizes 122 = .ok (.return_, 1) := by decide +kernel
theorem d_M_compare_0 : decode b_M_compare 0 = .ok (.aload_n 0, 1) := by decide +kernel
theorem d_M_compare_1 : decode b_M_compare 1 = .ok (.bipush 39, 2) := by decide +kernel
theorem d_M_compare_3 : decode b_M_compare 3 = .ok (.iload_n 1, 1) := by decide +kernel
theorem d_M_compare_4 : decode b_M_compare 4 = .ok (.iload_n 2, 1) := by decide +kernel
theorem d_M_compare_5 : decode b_M_compare 5 = .ok (.invokestatic 82, 3) := by decide +kernel
theorem d_M_compare_8 : decode b_M_compare 8 = .ok (.invokevirtual 92, 3) := by decide +kernel
theorem d_M_compare_11 : decode b_M_compare 11 = .ok (.aload_n 0, 1) := by decide +kernel
theorem d_M_compare_12 : decode b_M_compare 12 = .ok (.bipush 40, 2) := by decide +kernel
theorem d_M_compare_14 : decode b_M_compare 14 = .ok (.iload_n 2, 1) := by decide +kernel
theorem d_M_compare_15 : decode b_M_compare 15 = .ok (.iload_n 1, 1) := by decide +kernel
theorem d_M_compare_16 : decode b_M_compare 16 = .ok (.invokestatic 82, 3) := by decide +kernel
theorem d_M_compare_19 : decode b_M_compare 19 = .ok (.invokevirtual 92, 3) := by decide +kernel
theorem d_M_compare_22 : decode b_M_compare 22 = .ok (.aload_n 0, 1) := by decide +kernel
theorem d_M_compare_23 : decode b_M_compare 23 = .ok (.bipush 41, 2) := by decide +kernel
theorem d_M_compare_25 : decode b_M_compare 25 = .ok (.bipush 39, 2) := by decide +kernel
theorem d_M_compare_27 : decode b_M_compare 27 = .ok (.bipush 40, 2) := by decide +kernel
theorem d_M_compare_29 : decode b_M_compare 29 = .ok (.iconst 1, 1) := by decide +kernel
theorem d_M_compare_30 : decode b_M_compare 30 = .ok (.invokevirtual 75, 3) := by decide +kernel
theorem d_M_compare_33 : decode b_M_compare 33 = .ok (.aload_n 0, 1) := by decide +kernel
theorem d_M_compare_34 : decode b_M_compare 34 = .ok (.getfield 13, 3) := by decide +kernel
theorem d_M_compare_37 : decode b_M_compare 37 = .ok (.bipush 41, 2) := by decide +kernel
theorem d_M_compare_39 : decode b_M_compare 39 = .ok (.iaload, 1) := by decide +kernel
theorem d_M_compare_40 : decode b_M_compare 40 = .ok (.ifCond .ne 7, 3) := by decide +kernel
theorem d_M_compare_43 : decode b_M_compare 43 = .ok (.iconst 0, 1) := by decide +kernel
theorem d_M_compare_44 : decode b_M_compare 44 = .ok (.goto 18, 3) := by decide +kernel
theorem d_M_compare_47 : decode b_M_compare 47 = .ok (.aload_n 0, 1) := by decide +kernel
theorem d_M_compare_48 : decode b_M_compare 48 = .ok (.getfield 16, 3) := by decide +kernel
theorem d_M_compare_51 : decode b_M_compare 51 = .ok (.bipush 41, 2) := by decide +kernel
theorem d_M_compare_53 : decode b_M_compare 53 = .ok (.baload, 1) := by decide +kernel
theorem d_M_compare_54 : decode b_M_compare 54 = .ok (.ifCond .eq 7, 3) := by decide +kernel
theorem d_M_compare_57 : decode b_M_compare 57 = .ok (.iconst (-1), 1) := by decide +kernel
theorem d_M_compare_58 : decode b_M_compare 58 = .ok (.goto 4, 3) := by decide +kernel
theorem d_M_compare_61 : decode b_M_compare 61 = .ok (.iconst 1, 1) := by decide +kernel
theorem d_M_compare_62 : decode b_M_compare 62 = .ok (.ireturn, 1) := by decide +kernel
theorem d_M_take_0 : decode b_M_take 0 = .ok (.aload_n 0, 1) := by decide +kernel
theorem d_M_take_1 : decode b_M_take 1 = .ok (.bipush 32, 2) := by decide +kernel
theorem d_M_take_3 : decode b_M_take 3 = .ok (.iload_n 2, 1) := by decide +kernel
theorem d_M_take_4 : decode b_M_take 4 = .ok (.invokevirtual 55, 3) := by decide +kernel
theorem d_M_take_7 : decode b_M_take 7 = .ok (.aload_n 0, 1) := by decide +kernel
theorem d_M_take_8 : decode b_M_take 8 = .ok (.bipush 33, 2) := by decide +kernel
theorem d_M_take_10 : decode b_M_take 10 = .ok (.iload_n 2, 1) := by decide +kernel
theorem d_M_take_11 : decode b_M_take 11 = .ok (.invokestatic 82, 3) := by decide +kernel
theorem d_M_take_14 : decode b_M_take 14 = .ok (.invokevirtual 55, 3) := by decide +kernel
theorem d_M_take_17 : decode b_M_take 17 = .ok (.aload_n 0, 1) := by decide +kernel
theorem d_M_take_18 : decode b_M_take 18 = .ok (.iload_n 1, 1) := by decide +kernel
theorem d_M_take_19 : decode b_M_take 19 = .ok (.invokevirtual 89, 3) := by decide +kernel
theorem d_M_take_22 : decode b_M_take 22 = .ok (.ireturn, 1) := by decide +kernel
theorem d_M_wholeQuotient_0 : decode b_M_wholeQuotient 0 = .ok (.aload_n 0, 1) := by decide +kernel
theorem d_M_wholeQuotient_1 : decode b_M_wholeQuotient 1 = .ok (.bipush 39, 2) := by decide +kernel
theorem d_M_wholeQuotient_3 : decode b_M_wholeQuotient 3 = .ok (.iload_n 1, 1) := by decide +kernel
theorem d_M_wholeQuotient_4 : decode b_M_wholeQuotient 4 = .ok (.iload_n 2, 1) := by decide +kernel
theorem d_M_wholeQuotient_5 : decode b_M_wholeQuotient 5 = .ok (.invokestatic 82, 3) := by decide +kernel
theorem d_M_wholeQuotient_8 : decode b_M_wholeQuotient 8 = .ok (.invokevirtual 92, 3) := by decide +kernel
theorem d_M_wholeQuotient_11 : decode b_M_wholeQuotient 11 = .ok (.aload_n 0, 1) := by decide +kernel
theorem d_M_wholeQuotient_12 : decode b_M_wholeQuotient 12 = .ok (.bipush 40, 2) := by decide +kernel
theorem d_M_wholeQuotient_14 : decode b_M_wholeQuotient 14 = .ok (.iload_n 2, 1) := by decide +kernel
theorem d_M_wholeQuotient_15 : decode b_M_wholeQuotient 15 = .ok (.iload_n 1, 1) := by decide +kernel
theorem d_M_wholeQuotient_16 : decode b_M_wholeQuotient 16 = .ok (.invokestatic 82, 3) := by decide +kernel
theorem d_M_wholeQuotient_19 : decode b_M_wholeQuotient 19 = .ok (.invokevirtual 92, 3) := by decide +kernel
theorem d_M_wholeQuotient_22 : decode b_M_wholeQuotient 22 = .ok (.aload_n 0, 1) := by decide +kernel
theorem d_M_wholeQuotient_23 : decode b_M_wholeQuotient 23 = .ok (.getfield 16, 3) := by decide +kernel
theorem d_M_wholeQuotient_26 : decode b_M_wholeQuotient 26 = .ok (.bipush 40, 2) := by decide +kernel
theorem d_M_wholeQuotient_28 : decode b_M_wholeQuotient 28 = .ok (.baload, 1) := by decide +kernel
theorem d_M_wholeQuotient_29 : decode b_M_wholeQuotient 29 = .ok (.ifCond .eq 43, 3) := by decide +kernel
theorem d_M_wholeQuotient_32 : decode b_M_wholeQuotient 32 = .ok (.aload_n 0, 1) := by decide +kernel
theorem d_M_wholeQuotient_33 : decode b_M_wholeQuotient 33 = .ok (.getfield 16, 3) := by decide +kernel
theorem d_M_wholeQuotient_36 : decode b_M_wholeQuotient 36 = .ok (.bipush 40, 2) := by decide +kernel
theorem d_M_wholeQuotient_38 : decode b_M_wholeQuotient 38 = .ok (.iconst 0, 1) := by decide +kernel
theorem d_M_wholeQuotient_39 : decode b_M_wholeQuotient 39 = .ok (.bastore, 1) := by decide +kernel
theorem d_M_wholeQuotient_40 : decode b_M_wholeQuotient 40 = .ok (.aload_n 0, 1) := by decide +kernel
theorem d_M_wholeQuotient_41 : decode b_M_wholeQuotient 41 = .ok (.getfield 16, 3) := by decide +kernel
theorem d_M_wholeQuotient_44 : decode b_M_wholeQuotient 44 = .ok (.bipush 39, 2) := by decide +kernel
theorem d_M_wholeQuotient_46 : decode b_M_wholeQuotient 46 = .ok (.aload_n 0, 1) := by decide +kernel
theorem d_M_wholeQuotient_47 : decode b_M_wholeQuotient 47 = .ok (.getfield 16, 3) := by decide +kernel
theorem d_M_wholeQuotient_50 : decode b_M_wholeQuotient 50 = .ok (.bipush 39, 2) := by decide +kernel
theorem d_M_wholeQuotient_52 : decode b_M_wholeQuotient 52 = .ok (.baload, 1) := by decide +kernel
theorem d_M_wholeQuotient_53 : decode b_M_wholeQuotient 53 = .ok (.ifCond .ne 17, 3) := by decide +kernel
theorem d_M_wholeQuotient_56 : decode b_M_wholeQuotient 56 = .ok (.aload_n 0, 1) := by decide +kernel
theorem d_M_wholeQuotient_57 : decode b_M_wholeQuotient 57 = .ok (.getfield 13, 3) := by decide +kernel
theorem d_M_wholeQuotient_60 : decode b_M_wholeQuotient 60 = .ok (.bipush 39, 2) := by decide +kernel
theorem d_M_wholeQuotient_62 : decode b_M_wholeQuotient 62 = .ok (.iaload, 1) := by decide +kernel
theorem d_M_wholeQuotient_63 : decode b_M_wholeQuotient 63 = .ok (.ifCond .le 7, 3) := by decide +kernel
theorem d_M_wholeQuotient_66 : decode b_M_wholeQuotient 66 = .ok (.iconst 1, 1) := by decide +kernel
theorem d_M_wholeQuotient_67 : decode b_M_wholeQuotient 67 = .ok (.goto 4, 3) := by decide +kernel
theorem d_M_wholeQuotient_70 : decode b_M_wholeQuotient 70 = .ok (.iconst 0, 1) := by decide +kernel
theorem d_M_wholeQuotient_71 : decode b_M_wholeQuotient 71 = .ok (.bastore, 1) := by decide +kernel
theorem d_M_wholeQuotient_72 : decode b_M_wholeQuotient 72 = .ok (.aload_n 0, 1) := by decide +kernel
theorem d_M_wholeQuotient_73 : decode b_M_wholeQuotient 73 = .ok (.bipush 39, 2) := by decide +kernel
theorem d_M_wholeQuotient_75 : decode b_M_wholeQuotient 75 = .ok (.bipush 40, 2) := by decide +kernel
theorem d_M_wholeQuotient_77 : decode b_M_wholeQuotient 77 = .ok (.invokevirtual 95, 3) := by decide +kernel
theorem d_M_wholeQuotient_80 : decode b_M_wholeQuotient 80 = .ok (.return_, 1) := by decide +kernel
theorem d_M_floor_0 : decode b_M_floor 0 = .ok (.aload_n 0, 1) := by decide +kernel
theorem d_M_floor_1 : decode b_M_floor 1 = .ok (.iload_n 1, 1) := by decide +kernel
theorem d_M_floor_2 : decode b_M_floor 2 = .ok (.iload_n 2, 1) := by decide +kernel
theorem d_M_floor_3 : decode b_M_floor 3 = .ok (.invokevirtual 72, 3) := by decide +kernel
theorem d_M_floor_6 : decode b_M_floor 6 = .ok (.aload_n 0, 1) := by decide +kernel
theorem d_M_floor_7 : decode b_M_floor 7 = .ok (.bipush 41, 2) := by decide +kernel
theorem d_M_floor_9 : decode b_M_floor 9 = .ok (.bipush 37, 2) := by decide +kernel
theorem d_M_floor_11 : decode b_M_floor 11 = .ok (.invokevirtual 55, 3) := by decide +kernel
theorem d_M_floor_14 : decode b_M_floor 14 = .ok (.aload_n 0, 1) := by decide +kernel
theorem d_M_floor_15 : decode b_M_floor 15 = .ok (.getfield 13, 3) := by decide +kernel
theorem d_M_floor_18 : decode b_M_floor 18 = .ok (.bipush 36, 2) := by decide +kernel
theorem d_M_floor_20 : decode b_M_floor 20 = .ok (.iaload, 1) := by decide +kernel
theorem d_M_floor_21 : decode b_M_floor 21 = .ok (.ifCond .le 31, 3) := by decide +kernel
theorem d_M_floor_24 : decode b_M_floor 24 = .ok (.aload_n 0, 1) := by decide +kernel
theorem d_M_floor_25 : decode b_M_floor 25 = .ok (.getfield 16, 3) := by decide +kernel
theorem d_M_floor_28 : decode b_M_floor 28 = .ok (.bipush 36, 2) := by decide +kernel
theorem d_M_floor_30 : decode b_M_floor 30 = .ok (.baload, 1) := by decide +kernel
theorem d_M_floor_31 : decode b_M_floor 31 = .ok (.ifCond .eq 21, 3) := by decide +kernel
theorem d_M_floor_34 : decode b_M_floor 34 = .ok (.aload_n 0, 1) := by decide +kernel
theorem d_M_floor_35 : decode b_M_floor 35 = .ok (.bipush 42, 2) := by decide +kernel
theorem d_M_floor_37 : decode b_M_floor 37 = .ok (.lconst 1, 1) := by decide +kernel
theorem d_M_floor_38 : decode b_M_floor 38 = .ok (.invokevirtual 30, 3) := by decide +kernel
theorem d_M_floor_41 : decode b_M_floor 41 = .ok (.aload_n 0, 1) := by decide +kernel
theorem d_M_floor_42 : decode b_M_floor 42 = .ok (.bipush 41, 2) := by decide +kernel
theorem d_M_floor_44 : decode b_M_floor 44 = .ok (.bipush 41, 2) := by decide +kernel
theorem d_M_floor_46 : decode b_M_floor 46 = .ok (.bipush 42, 2) := by decide +kernel
theorem d_M_floor_48 : decode b_M_floor 48 = .ok (.iconst 1, 1) := by decide +kernel
theorem d_M_floor_49 : decode b_M_floor 49 = .ok (.invokevirtual 75, 3) := by decide +kernel
theorem d_M_floor_52 : decode b_M_floor 52 = .ok (.return_, 1) := by decide +kernel
theorem d_M_rest_0 : decode b_M_rest 0 = .ok (.aload_n 0, 1) := by decide +kernel
theorem d_M_rest_1 : decode b_M_rest 1 = .ok (.iload_n 2, 1) := by decide +kernel
theorem d_M_rest_2 : decode b_M_rest 2 = .ok (.iload_n 3, 1) := by decide +kernel
theorem d_M_rest_3 : decode b_M_rest 3 = .ok (.invokevirtual 107, 3) := by decide +kernel
theorem d_M_rest_6 : decode b_M_rest 6 = .ok (.aload_n 0, 1) := by decide +kernel
theorem d_M_rest_7 : decode b_M_rest 7 = .ok (.bipush 32, 2) := by decide +kernel
theorem d_M_rest_9 : decode b_M_rest 9 = .ok (.bipush 41, 2) := by decide +kernel
theorem d_M_rest_11 : decode b_M_rest 11 = .ok (.bipush 40, 2) := by decide +kernel
theorem d_M_rest_13 : decode b_M_rest 13 = .ok (.invokevirtual 92, 3) := by decide +kernel
theorem d_M_rest_16 : decode b_M_rest 16 = .ok (.aload_n 0, 1) := by decide +kernel
theorem d_M_rest_17 : decode b_M_rest 17 = .ok (.bipush 32, 2) := by decide +kernel
theorem d_M_rest_19 : decode b_M_rest 19 = .ok (.bipush 39, 2) := by decide +kernel
theorem d_M_rest_21 : decode b_M_rest 21 = .ok (.bipush 32, 2) := by decide +kernel
theorem d_M_rest_23 : decode b_M_rest 23 = .ok (.iconst 1, 1) := by decide +kernel
theorem d_M_rest_24 : decode b_M_rest 24 = .ok (.invokevirtual 75, 3) := by decide +kernel
theorem d_M_rest_27 : decode b_M_rest 27 = .ok (.aload_n 0, 1) := by decide +kernel
theorem d_M_rest_28 : decode b_M_rest 28 = .ok (.getfield 16, 3) := by decide +kernel
theorem d_M_rest_31 : decode b_M_rest 31 = .ok (.iload_n 3, 1) := by decide +kernel
theorem d_M_rest_32 : decode b_M_rest 32 = .ok (.baload, 1) := by decide +kernel
theorem d_M_rest_33 : decode b_M_rest 33 = .ok (.ifCond .eq 35, 3) := by decide +kernel
theorem d_M_rest_36 : decode b_M_rest 36 = .ok (.aload_n 0, 1) := by decide +kernel
theorem d_M_rest_37 : decode b_M_rest 37 = .ok (.getfield 16, 3) := by decide +kernel
theorem d_M_rest_40 : decode b_M_rest 40 = .ok (.bipush 32, 2) := by decide +kernel
theorem d_M_rest_42 : decode b_M_rest 42 = .ok (.aload_n 0, 1) := by decide +kernel
theorem d_M_rest_43 : decode b_M_rest 43 = .ok (.getfield 16, 3) := by decide +kernel
theorem d_M_rest_46 : decode b_M_rest 46 = .ok (.bipush 32, 2) := by decide +kernel
theorem d_M_rest_48 : decode b_M_rest 48 = .ok (.baload, 1) := by decide +kernel
theorem d_M_rest_49 : decode b_M_rest 49 = .ok (.ifCond .ne 17, 3) := by decide +kernel
theorem d_M_rest_52 : decode b_M_rest 52 = .ok (.aload_n 0, 1) := by decide +kernel
theorem d_M_rest_53 : decode b_M_rest 53 = .ok (.getfield 13, 3) := by decide +kernel
theorem d_M_rest_56 : decode b_M_rest 56 = .ok (.bipush 32, 2) := by decide +kernel
theorem d_M_rest_58 : decode b_M_rest 58 = .ok (.iaload, 1) := by decide +kernel
theorem d_M_rest_59 : decode b_M_rest 59 = .ok (.ifCond .le 7, 3) := by decide +kernel
theorem d_M_rest_62 : decode b_M_rest 62 = .ok (.iconst 1, 1) := by decide +kernel
theorem d_M_rest_63 : decode b_M_rest 63 = .ok (.goto 4, 3) := by decide +kernel
theorem d_M_rest_66 : decode b_M_rest 66 = .ok (.iconst 0, 1) := by decide +kernel
theorem d_M_rest_67 : decode b_M_rest 67 = .ok (.bastore, 1) := by decide +kernel
theorem d_M_rest_68 : decode b_M_rest 68 = .ok (.aload_n 0, 1) := by decide +kernel
theorem d_M_rest_69 : decode b_M_rest 69 = .ok (.bipush 33, 2) := by decide +kernel
theorem d_M_rest_71 : decode b_M_rest 71 = .ok (.iload_n 2, 1) := by decide +kernel
theorem d_M_rest_72 : decode b_M_rest 72 = .ok (.invokestatic 82, 3) := by decide +kernel
theorem d_M_rest_75 : decode b_M_rest 75 = .ok (.iload_n 3, 1) := by decide +kernel
theorem d_M_rest_76 : decode b_M_rest 76 = .ok (.invokestatic 82, 3) := by decide +kernel
theorem d_M_rest_79 : decode b_M_rest 79 = .ok (.invokevirtual 92, 3) := by decide +kernel
theorem d_M_rest_82 : decode b_M_rest 82 = .ok (.aload_n 0, 1) := by decide +kernel
theorem d_M_rest_83 : decode b_M_rest 83 = .ok (.iload_n 1, 1) := by decide +kernel
theorem d_M_rest_84 : decode b_M_rest 84 = .ok (.invokevirtual 89, 3) := by decide +kernel
theorem d_M_rest_87 : decode b_M_rest 87 = .ok (.ireturn, 1) := by decide +kernel
theorem d_M_change_0 : decode b_M_change 0 = .ok (.aload_n 0, 1) := by decide +kernel
theorem d_M_change_1 : decode b_M_change 1 = .ok (.iload_n 1, 1) := by decide +kernel
theorem d_M_change_2 : decode b_M_change 2 = .ok (.invokestatic 86, 3) := by decide +kernel
theorem d_M_change_5 : decode b_M_change 5 = .ok (.ifCond .eq 24, 3) := by decide +kernel
theorem d_M_change_8 : decode b_M_change 8 = .ok (.iload_n 3, 1) := by decide +kernel
theorem d_M_change_9 : decode b_M_change 9 = .ok (.invokestatic 86, 3) := by decide +kernel
theorem d_M_change_12 : decode b_M_change 12 = .ok (.ifCond .eq 17, 3) := by decide +kernel
theorem d_M_change_15 : decode b_M_change 15 = .ok (.iload_n 2, 1) := by decide +kernel
theorem d_M_change_16 : decode b_M_change 16 = .ok (.ifCond .lt 13, 3) := by decide +kernel
theorem d_M_change_19 : decode b_M_change 19 = .ok (.iload_n 2, 1) := by decide +kernel
theorem d_M_change_20 : decode b_M_change 20 = .ok (.bipush 6, 2) := by decide +kernel
theorem d_M_change_22 : decode b_M_change 22 = .ok (.if_icmp .gt 7, 3) := by decide +kernel
theorem d_M_change_25 : decode b_M_change 25 = .ok (.iconst 0, 1) := by decide +kernel
theorem d_M_change_26 : decode b_M_change 26 = .ok (.goto 4, 3) := by decide +kernel
theorem d_M_change_29 : decode b_M_change 29 = .ok (.iconst 1, 1) := by decide +kernel
theorem d_M_change_30 : decode b_M_change 30 = .ok (.putfield 34, 3) := by decide +kernel
theorem d_M_change_33 : decode b_M_change 33 = .ok (.aload_n 0, 1) := by decide +kernel
theorem d_M_change_34 : decode b_M_change 34 = .ok (.getfield 34, 3) := by decide +kernel
theorem d_M_change_37 : decode b_M_change 37 = .ok (.ifCond .le 5, 3) := by decide +kernel
theorem d_M_change_40 : decode b_M_change 40 = .ok (.iconst 0, 1) := by decide +kernel
theorem d_M_change_41 : decode b_M_change 41 = .ok (.ireturn, 1) := by decide +kernel
theorem d_M_change_42 : decode b_M_change 42 = .ok (.iload_n 2, 1) := by decide +kernel
theorem d_M_change_43 : decode b_M_change 43 = .ok (.iconst 2, 1) := by decide +kernel
theorem d_M_change_44 : decode b_M_change 44 = .ok (.if_icmp .ne 15, 3) := by decide +kernel
theorem d_M_change_47 : decode b_M_change 47 = .ok (.aload_n 0, 1) := by decide +kernel
theorem d_M_change_48 : decode b_M_change 48 = .ok (.getfield 13, 3) := by decide +kernel
theorem d_M_change_51 : decode b_M_change 51 = .ok (.iload_n 3, 1) := by decide +kernel
theorem d_M_change_52 : decode b_M_change 52 = .ok (.iaload, 1) := by decide +kernel
theorem d_M_change_53 : decode b_M_change 53 = .ok (.ifCond .ne 6, 3) := by decide +kernel
theorem d_M_change_56 : decode b_M_change 56 = .ok (.bipush (-2), 2) := by decide +kernel
theorem d_M_change_58 : decode b_M_change 58 = .ok (.ireturn, 1) := by decide +kernel
theorem d_M_change_59 : decode b_M_change 59 = .ok (.aload_n 0, 1) := by decide +kernel
theorem d_M_change_60 : decode b_M_change 60 = .ok (.bipush 32, 2) := by decide +kernel
theorem d_M_change_62 : decode b_M_change 62 = .ok (.iload_n 3, 1) := by decide +kernel
theorem d_M_change_63 : decode b_M_change 63 = .ok (.invokevirtual 55, 3) := by decide +kernel
theorem d_M_change_66 : decode b_M_change 66 = .ok (.aload_n 0, 1) := by decide +kernel
theorem d_M_change_67 : decode b_M_change 67 = .ok (.bipush 33, 2) := by decide +kernel
theorem d_M_change_69 : decode b_M_change 69 = .ok (.iload_n 3, 1) := by decide +kernel
theorem d_M_change_70 : decode b_M_change 70 = .ok (.invokestatic 82, 3) := by decide +kernel
theorem d_M_change_73 : decode b_M_change 73 = .ok (.invokevirtual 55, 3) := by decide +kernel
theorem d_M_change_76 : decode b_M_change 76 = .ok (.iload_n 2, 1) := by decide +kernel
theorem d_M_change_77 : decode b_M_change 77 = .ok (.tableswitch 225 0 5 #[39, 74, 85, 105, 105, 215], 39) := by decide +kernel
theorem d_M_change_116 : decode b_M_change 116 = .ok (.aload_n 0, 1) := by decide +kernel
theorem d_M_change_117 : decode b_M_change 117 = .ok (.getfield 16, 3) := by decide +kernel
theorem d_M_change_120 : decode b_M_change 120 = .ok (.bipush 32, 2) := by decide +kernel
theorem d_M_change_122 : decode b_M_change 122 = .ok (.aload_n 0, 1) := by decide +kernel
theorem d_M_change_123 : decode b_M_change 123 = .ok (.getfield 16, 3) := by decide +kernel
theorem d_M_change_126 : decode b_M_change 126 = .ok (.bipush 32, 2) := by decide +kernel
theorem d_M_change_128 : decode b_M_change 128 = .ok (.baload, 1) := by decide +kernel
theorem d_M_change_129 : decode b_M_change 129 = .ok (.ifCond .ne 17, 3) := by decide +kernel
theorem d_M_change_132 : decode b_M_change 132 = .ok (.aload_n 0, 1) := by decide +kernel
theorem d_M_change_133 : decode b_M_change 133 = .ok (.getfield 13, 3) := by decide +kernel
theorem d_M_change_136 : decode b_M_change 136 = .ok (.bipush 32, 2) := by decide +kernel
theorem d_M_change_138 : decode b_M_change 138 = .ok (.iaload, 1) := by decide +kernel
theorem d_M_change_139 : decode b_M_change 139 = .ok (.ifCond .le 7, 3) := by decide +kernel
theorem d_M_change_142 : decode b_M_change 142 = .ok (.iconst 1, 1) := by decide +kernel
theorem d_M_change_143 : decode b_M_change 143 = .ok (.goto 4, 3) := by decide +kernel
theorem d_M_change_146 : decode b_M_change 146 = .ok (.iconst 0, 1) := by decide +kernel
theorem d_M_change_147 : decode b_M_change 147 = .ok (.bastore, 1) := by decide +kernel
theorem d_M_change_148 : decode b_M_change 148 = .ok (.goto 171, 3) := by decide +kernel
theorem d_M_change_151 : decode b_M_change 151 = .ok (.aload_n 0, 1) := by decide +kernel
theorem d_M_change_152 : decode b_M_change 152 = .ok (.getfield 16, 3) := by decide +kernel
theorem d_M_change_155 : decode b_M_change 155 = .ok (.bipush 32, 2) := by decide +kernel
theorem d_M_change_157 : decode b_M_change 157 = .ok (.iconst 0, 1) := by decide +kernel
theorem d_M_change_158 : decode b_M_change 158 = .ok (.bastore, 1) := by decide +kernel
theorem d_M_change_159 : decode b_M_change 159 = .ok (.goto 160, 3) := by decide +kernel
theorem d_M_change_162 : decode b_M_change 162 = .ok (.aload_n 0, 1) := by decide +kernel
theorem d_M_change_163 : decode b_M_change 163 = .ok (.bipush 32, 2) := by decide +kernel
theorem d_M_change_165 : decode b_M_change 165 = .ok (.iload_n 3, 1) := by decide +kernel
theorem d_M_change_166 : decode b_M_change 166 = .ok (.invokestatic 82, 3) := by decide +kernel
theorem d_M_change_169 : decode b_M_change 169 = .ok (.invokevirtual 55, 3) := by decide +kernel
theorem d_M_change_172 : decode b_M_change 172 = .ok (.aload_n 0, 1) := by decide +kernel
theorem d_M_change_173 : decode b_M_change 173 = .ok (.bipush 33, 2) := by decide +kernel
theorem d_M_change_175 : decode b_M_change 175 = .ok (.iload_n 3, 1) := by decide +kernel
theorem d_M_change_176 : decode b_M_change 176 = .ok (.invokevirtual 55, 3) := by decide +kernel
theorem d_M_change_179 : decode b_M_change 179 = .ok (.goto 140, 3) := by decide +kernel
theorem d_M_change_182 : decode b_M_change 182 = .ok (.aload_n 0, 1) := by decide +kernel
theorem d_M_change_183 : decode b_M_change 183 = .ok (.getfield 16, 3) := by decide +kernel
theorem d_M_change_186 : decode b_M_change 186 = .ok (.bipush 32, 2) := by decide +kernel
theorem d_M_change_188 : decode b_M_change 188 = .ok (.aload_n 0, 1) := by decide +kernel
theorem d_M_change_189 : decode b_M_change 189 = .ok (.getfield 16, 3) := by decide +kernel
theorem d_M_change_192 : decode b_M_change 192 = .ok (.bipush 32, 2) := by decide +kernel
theorem d_M_change_194 : decode b_M_change 194 = .ok (.baload, 1) := by decide +kernel
theorem d_M_change_195 : decode b_M_change 195 = .ok (.iload_n 2, 1) := by decide +kernel
theorem d_M_change_196 : decode b_M_change 196 = .ok (.iconst 4, 1) := by decide +kernel
theorem d_M_change_197 : decode b_M_change 197 = .ok (.if_icmp .ne 7, 3) := by decide +kernel
theorem d_M_change_200 : decode b_M_change 200 = .ok (.iconst 1, 1) := by decide +kernel
theorem d_M_change_201 : decode b_M_change 201 = .ok (.goto 4, 3) := by decide +kernel
theorem d_M_change_204 : decode b_M_change 204 = .ok (.iconst 0, 1) := by decide +kernel
theorem d_M_change_205 : decode b_M_change 205 = .ok (.if_icmp .eq 17, 3) := by decide +kernel
theorem d_M_change_208 : decode b_M_change 208 = .ok (.aload_n 0, 1) := by decide +kernel
theorem d_M_change_209 : decode b_M_change 209 = .ok (.getfield 13, 3) := by decide +kernel
theorem d_M_change_212 : decode b_M_change 212 = .ok (.bipush 32, 2) := by decide +kernel
theorem d_M_change_214 : decode b_M_change 214 = .ok (.iaload, 1) := by decide +kernel
theorem d_M_change_215 : decode b_M_change 215 = .ok (.ifCond .le 7, 3) := by decide +kernel
theorem d_M_change_218 : decode b_M_change 218 = .ok (.iconst 1, 1) := by decide +kernel
theorem d_M_change_219 : decode b_M_change 219 = .ok (.goto 4, 3) := by decide +kernel
theorem d_M_change_222 : decode b_M_change 222 = .ok (.iconst 0, 1) := by decide +kernel
theorem d_M_change_223 : decode b_M_change 223 = .ok (.bastore, 1) := by decide +kernel
theorem d_M_change_224 : decode b_M_change 224 = .ok (.aload_n 0, 1) := by decide +kernel
theorem d_M_change_225 : decode b_M_change 225 = .ok (.bipush 32, 2) := by decide +kernel
theorem d_M_change_227 : decode b_M_change 227 = .ok (.bipush 33, 2) := by decide +kernel
theorem d_M_change_229 : decode b_M_change 229 = .ok (.invokevirtual 95, 3) := by decide +kernel
theorem d_M_change_232 : decode b_M_change 232 = .ok (.aload_n 0, 1) := by decide +kernel
theorem d_M_change_233 : decode b_M_change 233 = .ok (.bipush 32, 2) := by decide +kernel
theorem d_M_change_235 : decode b_M_change 235 = .ok (.bipush 41, 2) := by decide +kernel
theorem d_M_change_237 : decode b_M_change 237 = .ok (.invokevirtual 55, 3) := by decide +kernel
theorem d_M_change_240 : decode b_M_change 240 = .ok (.aload_n 0, 1) := by decide +kernel
theorem d_M_change_241 : decode b_M_change 241 = .ok (.getfield 16, 3) := by decide +kernel
theorem d_M_change_244 : decode b_M_change 244 = .ok (.bipush 32, 2) := by decide +kernel
theorem d_M_change_246 : decode b_M_change 246 = .ok (.aload_n 0, 1) := by decide +kernel
theorem d_M_change_247 : decode b_M_change 247 = .ok (.getfield 16, 3) := by decide +kernel
theorem d_M_change_250 : decode b_M_change 250 = .ok (.bipush 32, 2) := by decide +kernel
theorem d_M_change_252 : decode b_M_change 252 = .ok (.baload, 1) := by decide +kernel
theorem d_M_change_253 : decode b_M_change 253 = .ok (.iload_n 2, 1) := by decide +kernel
theorem d_M_change_254 : decode b_M_change 254 = .ok (.iconst 4, 1) := by decide +kernel
theorem d_M_change_255 : decode b_M_change 255 = .ok (.if_icmp .ne 7, 3) := by decide +kernel
theorem d_M_change_258 : decode b_M_change 258 = .ok (.iconst 1, 1) := by decide +kernel
theorem d_M_change_259 : decode b_M_change 259 = .ok (.goto 4, 3) := by decide +kernel
theorem d_M_change_262 : decode b_M_change 262 = .ok (.iconst 0, 1) := by decide +kernel
theorem d_M_change_263 : decode b_M_change 263 = .ok (.if_icmp .eq 17, 3) := by decide +kernel
theorem d_M_change_266 : decode b_M_change 266 = .ok (.aload_n 0, 1) := by decide +kernel
theorem d_M_change_267 : decode b_M_change 267 = .ok (.getfield 13, 3) := by decide +kernel
theorem d_M_change_270 : decode b_M_change 270 = .ok (.bipush 32, 2) := by decide +kernel
theorem d_M_change_272 : decode b_M_change 272 = .ok (.iaload, 1) := by decide +kernel
theorem d_M_change_273 : decode b_M_change 273 = .ok (.ifCond .le 7, 3) := by decide +kernel
theorem d_M_change_276 : decode b_M_change 276 = .ok (.iconst 1, 1) := by decide +kernel
theorem d_M_change_277 : decode b_M_change 277 = .ok (.goto 4, 3) := by decide +kernel
theorem d_M_change_280 : decode b_M_change 280 = .ok (.iconst 0, 1) := by decide +kernel
theorem d_M_change_281 : decode b_M_change 281 = .ok (.bastore, 1) := by decide +kernel
theorem d_M_change_282 : decode b_M_change 282 = .ok (.aload_n 0, 1) := by decide +kernel
theorem d_M_change_283 : decode b_M_change 283 = .ok (.bipush 33, 2) := by decide +kernel
theorem d_M_change_285 : decode b_M_change 285 = .ok (.lconst 1, 1) := by decide +kernel
theorem d_M_change_286 : decode b_M_change 286 = .ok (.invokevirtual 30, 3) := by decide +kernel
theorem d_M_change_289 : decode b_M_change 289 = .ok (.goto 30, 3) := by decide +kernel
theorem d_M_change_292 : decode b_M_change 292 = .ok (.aload_n 0, 1) := by decide +kernel
theorem d_M_change_293 : decode b_M_change 293 = .ok (.bipush 33, 2) := by decide +kernel
theorem d_M_change_295 : decode b_M_change 295 = .ok (.lconst 1, 1) := by decide +kernel
theorem d_M_change_296 : decode b_M_change 296 = .ok (.invokevirtual 30, 3) := by decide +kernel
theorem d_M_change_299 : decode b_M_change 299 = .ok (.goto 20, 3) := by decide +kernel
theorem d_M_change_302 : decode b_M_change 302 = .ok (.aload_n 0, 1) := by decide +kernel
theorem d_M_change_303 : decode b_M_change 303 = .ok (.bipush 32, 2) := by decide +kernel
theorem d_M_change_305 : decode b_M_change 305 = .ok (.iload_n 3, 1) := by decide +kernel
theorem d_M_change_306 : decode b_M_change 306 = .ok (.invokestatic 82, 3) := by decide +kernel
theorem d_M_change_309 : decode b_M_change 309 = .ok (.invokevirtual 55, 3) := by decide +kernel
theorem d_M_change_312 : decode b_M_change 312 = .ok (.aload_n 0, 1) := by decide +kernel
theorem d_M_change_313 : decode b_M_change 313 = .ok (.bipush 33, 2) := by decide +kernel
theorem d_M_change_315 : decode b_M_change 315 = .ok (.lconst 1, 1) := by decide +kernel
theorem d_M_change_316 : decode b_M_change 316 = .ok (.invokevirtual 30, 3) := by decide +kernel
theorem d_M_change_319 : decode b_M_change 319 = .ok (.aload_n 0, 1) := by decide +kernel
theorem d_M_change_320 : decode b_M_change 320 = .ok (.iload_n 1, 1) := by decide +kernel
theorem d_M_change_321 : decode b_M_change 321 = .ok (.invokevirtual 89, 3) := by decide +kernel
theorem d_M_change_324 : decode b_M_change 324 = .ok (.ireturn, 1) := by decide +kernel
theorem d_M_power_0 : decode b_M_power 0 = .ok (.aload_n 0, 1) := by decide +kernel
theorem d_M_power_1 : decode b_M_power 1 = .ok (.iload_n 1, 1) := by decide +kernel
theorem d_M_power_2 : decode b_M_power 2 = .ok (.invokestatic 86, 3) := by decide +kernel
theorem d_M_power_5 : decode b_M_power 5 = .ok (.ifCond .eq 28, 3) := by decide +kernel
theorem d_M_power_8 : decode b_M_power 8 = .ok (.iload_n 2, 1) := by decide +kernel
theorem d_M_power_9 : decode b_M_power 9 = .ok (.invokestatic 86, 3) := by decide +kernel
theorem d_M_power_12 : decode b_M_power 12 = .ok (.ifCond .eq 21, 3) := by decide +kernel
theorem d_M_power_15 : decode b_M_power 15 = .ok (.iload_n 3, 1) := by decide +kernel
theorem d_M_power_16 : decode b_M_power 16 = .ok (.sipush (-2048), 3) := by decide +kernel
theorem d_M_power_19 : decode b_M_power 19 = .ok (.if_icmp .lt 14, 3) := by decide +kernel
theorem d_M_power_22 : decode b_M_power 22 = .ok (.iload_n 3, 1) := by decide +kernel
theorem d_M_power_23 : decode b_M_power 23 = .ok (.sipush 2048, 3) := by decide +kernel
theorem d_M_power_26 : decode b_M_power 26 = .ok (.if_icmp .gt 7, 3) := by decide +kernel
theorem d_M_power_29 : decode b_M_power 29 = .ok (.iconst 0, 1) := by decide +kernel
theorem d_M_power_30 : decode b_M_power 30 = .ok (.goto 4, 3) := by decide +kernel
theorem d_M_power_33 : decode b_M_power 33 = .ok (.iconst 1, 1) := by decide +kernel
theorem d_M_power_34 : decode b_M_power 34 = .ok (.putfield 34, 3) := by decide +kernel
theorem d_M_power_37 : decode b_M_power 37 = .ok (.aload_n 0, 1) := by decide +kernel
theorem d_M_power_38 : decode b_M_power 38 = .ok (.getfield 34, 3) := by decide +kernel
theorem d_M_power_41 : decode b_M_power 41 = .ok (.ifCond .le 5, 3) := by decide +kernel
theorem d_M_power_44 : decode b_M_power 44 = .ok (.iconst 0, 1) := by decide +kernel
theorem d_M_power_45 : decode b_M_power 45 = .ok (.ireturn, 1) := by decide +kernel
theorem d_M_power_46 : decode b_M_power 46 = .ok (.iload_n 3, 1) := by decide +kernel
theorem d_M_power_47 : decode b_M_power 47 = .ok (.ifCond .ge 15, 3) := by decide +kernel
theorem d_M_power_50 : decode b_M_power 50 = .ok (.aload_n 0, 1) := by decide +kernel
theorem d_M_power_51 : decode b_M_power 51 = .ok (.getfield 13, 3) := by decide +kernel
theorem d_M_power_54 : decode b_M_power 54 = .ok (.iload_n 2, 1) := by decide +kernel
theorem d_M_power_55 : decode b_M_power 55 = .ok (.iaload, 1) := by decide +kernel
theorem d_M_power_56 : decode b_M_power 56 = .ok (.ifCond .ne 6, 3) := by decide +kernel
theorem d_M_power_59 : decode b_M_power 59 = .ok (.bipush (-2), 2) := by decide +kernel
theorem d_M_power_61 : decode b_M_power 61 = .ok (.ireturn, 1) := by decide +kernel
theorem d_M_power_62 : decode b_M_power 62 = .ok (.iload_n 3, 1) := by decide +kernel
theorem d_M_power_63 : decode b_M_power 63 = .ok (.ifCond .ge 8, 3) := by decide +kernel
theorem d_M_power_66 : decode b_M_power 66 = .ok (.iload_n 3, 1) := by decide +kernel
theorem d_M_power_67 : decode b_M_power 67 = .ok (.ineg, 1) := by decide +kernel
theorem d_M_power_68 : decode b_M_power 68 = .ok (.goto 4, 3) := by decide +kernel
theorem d_M_power_71 : decode b_M_power 71 = .ok (.iload_n 3, 1) := by decide +kernel
theorem d_M_power_72 : decode b_M_power 72 = .ok (.istore 4, 2) := by decide +kernel
theorem d_M_power_74 : decode b_M_power 74 = .ok (.aload_n 0, 1) := by decide +kernel
theorem d_M_power_75 : decode b_M_power 75 = .ok (.bipush 39, 2) := by decide +kernel
theorem d_M_power_77 : decode b_M_power 77 = .ok (.iload_n 2, 1) := by decide +kernel
theorem d_M_power_78 : decode b_M_power 78 = .ok (.iload 4, 2) := by decide +kernel
theorem d_M_power_80 : decode b_M_power 80 = .ok (.invokevirtual 114, 3) := by decide +kernel
theorem d_M_power_83 : decode b_M_power 83 = .ok (.ifCond .eq 18, 3) := by decide +kernel
theorem d_M_power_86 : decode b_M_power 86 = .ok (.aload_n 0, 1) := by decide +kernel
theorem d_M_power_87 : decode b_M_power 87 = .ok (.bipush 40, 2) := by decide +kernel
theorem d_M_power_89 : decode b_M_power 89 = .ok (.iload_n 2, 1) := by decide +kernel
theorem d_M_power_90 : decode b_M_power 90 = .ok (.invokestatic 82, 3) := by decide +kernel
theorem d_M_power_93 : decode b_M_power 93 = .ok (.iload 4, 2) := by decide +kernel
theorem d_M_power_95 : decode b_M_power 95 = .ok (.invokevirtual 114, 3) := by decide +kernel
theorem d_M_power_98 : decode b_M_power 98 = .ok (.ifCond .ne 5, 3) := by decide +kernel
theorem d_M_power_101 : decode b_M_power 101 = .ok (.iconst (-1), 1) := by decide +kernel
theorem d_M_power_102 : decode b_M_power 102 = .ok (.ireturn, 1) := by decide +kernel
theorem d_M_power_103 : decode b_M_power 103 = .ok (.aload_n 0, 1) := by decide +kernel
theorem d_M_power_104 : decode b_M_power 104 = .ok (.bipush 32, 2) := by decide +kernel
theorem d_M_power_106 : decode b_M_power 106 = .ok (.iload_n 3, 1) := by decide +kernel
theorem d_M_power_107 : decode b_M_power 107 = .ok (.ifCond .ge 8, 3) := by decide +kernel
theorem d_M_power_110 : decode b_M_power 110 = .ok (.bipush 40, 2) := by decide +kernel
theorem d_M_power_112 : decode b_M_power 112 = .ok (.goto 5, 3) := by decide +kernel
theorem d_M_power_115 : decode b_M_power 115 = .ok (.bipush 39, 2) := by decide +kernel
theorem d_M_power_117 : decode b_M_power 117 = .ok (.invokevirtual 55, 3) := by decide +kernel
theorem d_M_power_120 : decode b_M_power 120 = .ok (.aload_n 0, 1) := by decide +kernel
theorem d_M_power_121 : decode b_M_power 121 = .ok (.bipush 33, 2) := by decide +kernel
theorem d_M_power_123 : decode b_M_power 123 = .ok (.iload_n 3, 1) := by decide +kernel
theorem d_M_power_124 : decode b_M_power 124 = .ok (.ifCond .ge 8, 3) := by decide +kernel
theorem d_M_power_127 : decode b_M_power 127 = .ok (.bipush 39, 2) := by decide +kernel
theorem d_M_power_129 : decode b_M_power 129 = .ok (.goto 5, 3) := by decide +kernel
theorem d_M_power_132 : decode b_M_power 132 = .ok (.bipush 40, 2) := by decide +kernel
theorem d_M_power_134 : decode b_M_power 134 = .ok (.invokevirtual 55, 3) := by decide +kernel
theorem d_M_power_137 : decode b_M_power 137 = .ok (.aload_n 0, 1) := by decide +kernel
theorem d_M_power_138 : decode b_M_power 138 = .ok (.iload_n 1, 1) := by decide +kernel
theorem d_M_power_139 : decode b_M_power 139 = .ok (.invokevirtual 89, 3) := by decide +kernel
theorem d_M_power_142 : decode b_M_power 142 = .ok (.ireturn, 1) := by decide +kernel
theorem d_M_raise_0 : decode b_M_raise 0 = .ok (.aload_n 0, 1) := by decide +kernel
theorem d_M_raise_1 : decode b_M_raise 1 = .ok (.iload_n 1, 1) := by decide +kernel
theorem d_M_raise_2 : decode b_M_raise 2 = .ok (.lconst 1, 1) := by decide +kernel
theorem d_M_raise_3 : decode b_M_raise 3 = .ok (.invokevirtual 30, 3) := by decide +kernel
theorem d_M_raise_6 : decode b_M_raise 6 = .ok (.iconst 0, 1) := by decide +kernel
theorem d_M_raise_7 : decode b_M_raise 7 = .ok (.istore 4, 2) := by decide +kernel
theorem d_M_raise_9 : decode b_M_raise 9 = .ok (.iload 4, 2) := by decide +kernel
theorem d_M_raise_11 : decode b_M_raise 11 = .ok (.iload_n 3, 1) := by decide +kernel
theorem d_M_raise_12 : decode b_M_raise 12 = .ok (.if_icmp .ge 39, 3) := by decide +kernel
theorem d_M_raise_15 : decode b_M_raise 15 = .ok (.aload_n 0, 1) := by decide +kernel
theorem d_M_raise_16 : decode b_M_raise 16 = .ok (.bipush 41, 2) := by decide +kernel
theorem d_M_raise_18 : decode b_M_raise 18 = .ok (.iload_n 1, 1) := by decide +kernel
theorem d_M_raise_19 : decode b_M_raise 19 = .ok (.iload_n 2, 1) := by decide +kernel
theorem d_M_raise_20 : decode b_M_raise 20 = .ok (.invokevirtual 92, 3) := by decide +kernel
theorem d_M_raise_23 : decode b_M_raise 23 = .ok (.aload_n 0, 1) := by decide +kernel
theorem d_M_raise_24 : decode b_M_raise 24 = .ok (.getfield 13, 3) := by decide +kernel
theorem d_M_raise_27 : decode b_M_raise 27 = .ok (.bipush 41, 2) := by decide +kernel
theorem d_M_raise_29 : decode b_M_raise 29 = .ok (.iaload, 1) := by decide +kernel
theorem d_M_raise_30 : decode b_M_raise 30 = .ok (.sipush 128, 3) := by decide +kernel
theorem d_M_raise_33 : decode b_M_raise 33 = .ok (.if_icmp .le 5, 3) := by decide +kernel
theorem d_M_raise_36 : decode b_M_raise 36 = .ok (.iconst 0, 1) := by decide +kernel
theorem d_M_raise_37 : decode b_M_raise 37 = .ok (.ireturn, 1) := by decide +kernel
theorem d_M_raise_38 : decode b_M_raise 38 = .ok (.aload_n 0, 1) := by decide +kernel
theorem d_M_raise_39 : decode b_M_raise 39 = .ok (.iload_n 1, 1) := by decide +kernel
theorem d_M_raise_40 : decode b_M_raise 40 = .ok (.bipush 41, 2) := by decide +kernel
theorem d_M_raise_42 : decode b_M_raise 42 = .ok (.invokevirtual 55, 3) := by decide +kernel
theorem d_M_raise_45 : decode b_M_raise 45 = .ok (.iinc 4 1, 3) := by decide +kernel
theorem d_M_raise_48 : decode b_M_raise 48 = .ok (.goto (-39), 3) := by decide +kernel
theorem d_M_raise_51 : decode b_M_raise 51 = .ok (.iconst 1, 1) := by decide +kernel
theorem d_M_raise_52 : decode b_M_raise 52 = .ok (.ireturn, 1) := by decide +kernel
theorem d_M_order_0 : decode b_M_order 0 = .ok (.aload_n 0, 1) := by decide +kernel
theorem d_M_order_1 : decode b_M_order 1 = .ok (.iload_n 1, 1) := by decide +kernel
theorem d_M_order_2 : decode b_M_order 2 = .ok (.invokestatic 86, 3) := by decide +kernel
theorem d_M_order_5 : decode b_M_order 5 = .ok (.ifCond .eq 14, 3) := by decide +kernel
theorem d_M_order_8 : decode b_M_order 8 = .ok (.iload_n 2, 1) := by decide +kernel
theorem d_M_order_9 : decode b_M_order 9 = .ok (.invokestatic 86, 3) := by decide +kernel
theorem d_M_order_12 : decode b_M_order 12 = .ok (.ifCond .eq 7, 3) := by decide +kernel
theorem d_M_order_15 : decode b_M_order 15 = .ok (.iconst 0, 1) := by decide +kernel
theorem d_M_order_16 : decode b_M_order 16 = .ok (.goto 4, 3) := by decide +kernel
theorem d_M_order_19 : decode b_M_order 19 = .ok (.iconst 1, 1) := by decide +kernel
theorem d_M_order_20 : decode b_M_order 20 = .ok (.putfield 34, 3) := by decide +kernel
theorem d_M_order_23 : decode b_M_order 23 = .ok (.aload_n 0, 1) := by decide +kernel
theorem d_M_order_24 : decode b_M_order 24 = .ok (.getfield 34, 3) := by decide +kernel
theorem d_M_order_27 : decode b_M_order 27 = .ok (.ifCond .le 7, 3) := by decide +kernel
theorem d_M_order_30 : decode b_M_order 30 = .ok (.iconst 0, 1) := by decide +kernel
theorem d_M_order_31 : decode b_M_order 31 = .ok (.goto 9, 3) := by decide +kernel
theorem d_M_order_34 : decode b_M_order 34 = .ok (.aload_n 0, 1) := by decide +kernel
theorem d_M_order_35 : decode b_M_order 35 = .ok (.iload_n 1, 1) := by decide +kernel
theorem d_M_order_36 : decode b_M_order 36 = .ok (.iload_n 2, 1) := by decide +kernel
theorem d_M_order_37 : decode b_M_order 37 = .ok (.invokevirtual 101, 3) := by decide +kernel
theorem d_M_order_40 : decode b_M_order 40 = .ok (.ireturn, 1) := by decide +kernel
theorem d_M_sign_0 : decode b_M_sign 0 = .ok (.aload_n 0, 1) := by decide +kernel
theorem d_M_sign_1 : decode b_M_sign 1 = .ok (.iload_n 1, 1) := by decide +kernel
theorem d_M_sign_2 : decode b_M_sign 2 = .ok (.invokestatic 86, 3) := by decide +kernel
theorem d_M_sign_5 : decode b_M_sign 5 = .ok (.ifCond .eq 7, 3) := by decide +kernel
theorem d_M_sign_8 : decode b_M_sign 8 = .ok (.iconst 0, 1) := by decide +kernel
theorem d_M_sign_9 : decode b_M_sign 9 = .ok (.goto 4, 3) := by decide +kernel
theorem d_M_sign_12 : decode b_M_sign 12 = .ok (.iconst 1, 1) := by decide +kernel
theorem d_M_sign_13 : decode b_M_sign 13 = .ok (.putfield 34, 3) := by decide +kernel
theorem d_M_sign_16 : decode b_M_sign 16 = .ok (.aload_n 0, 1) := by decide +kernel
theorem d_M_sign_17 : decode b_M_sign 17 = .ok (.getfield 34, 3) := by decide +kernel
theorem d_M_sign_20 : decode b_M_sign 20 = .ok (.ifCond .gt 12, 3) := by decide +kernel
theorem d_M_sign_23 : decode b_M_sign 23 = .ok (.aload_n 0, 1) := by decide +kernel
theorem d_M_sign_24 : decode b_M_sign 24 = .ok (.getfield 13, 3) := by decide +kernel
theorem d_M_sign_27 : decode b_M_sign 27 = .ok (.iload_n 1, 1) := by decide +kernel
theorem d_M_sign_28 : decode b_M_sign 28 = .ok (.iaload, 1) := by decide +kernel
theorem d_M_sign_29 : decode b_M_sign 29 = .ok (.ifCond .ne 7, 3) := by decide +kernel
theorem d_M_sign_32 : decode b_M_sign 32 = .ok (.iconst 0, 1) := by decide +kernel
theorem d_M_sign_33 : decode b_M_sign 33 = .ok (.goto 17, 3) := by decide +kernel
theorem d_M_sign_36 : decode b_M_sign 36 = .ok (.aload_n 0, 1) := by decide +kernel
theorem d_M_sign_37 : decode b_M_sign 37 = .ok (.getfield 16, 3) := by decide +kernel
theorem d_M_sign_40 : decode b_M_sign 40 = .ok (.iload_n 1, 1) := by decide +kernel
theorem d_M_sign_41 : decode b_M_sign 41 = .ok (.baload, 1) := by decide +kernel
theorem d_M_sign_42 : decode b_M_sign 42 = .ok (.ifCond .eq 7, 3) := by decide +kernel
theorem d_M_sign_45 : decode b_M_sign 45 = .ok (.iconst (-1), 1) := by decide +kernel
theorem d_M_sign_46 : decode b_M_sign 46 = .ok (.goto 4, 3) := by decide +kernel
theorem d_M_sign_49 : decode b_M_sign 49 = .ok (.iconst 1, 1) := by decide +kernel
theorem d_M_sign_50 : decode b_M_sign 50 = .ok (.ireturn, 1) := by decide +kernel
theorem d_M_places_0 : decode b_M_places 0 = .ok (.aload_n 0, 1) := by decide +kernel
theorem d_M_places_1 : decode b_M_places 1 = .ok (.iload_n 1, 1) := by decide +kernel
theorem d_M_places_2 : decode b_M_places 2 = .ok (.iload_n 2, 1) := by decide +kernel
theorem d_M_places_3 : decode b_M_places 3 = .ok (.invokevirtual 118, 3) := by decide +kernel
theorem d_M_places_6 : decode b_M_places 6 = .ok (.aload_n 0, 1) := by decide +kernel
theorem d_M_places_7 : decode b_M_places 7 = .ok (.getfield 34, 3) := by decide +kernel
theorem d_M_places_10 : decode b_M_places 10 = .ok (.ifCond .le 5, 3) := by decide +kernel
theorem d_M_places_13 : decode b_M_places 13 = .ok (.iconst 0, 1) := by decide +kernel
theorem d_M_places_14 : decode b_M_places 14 = .ok (.ireturn, 1) := by decide +kernel
theorem d_M_places_15 : decode b_M_places 15 = .ok (.iload_n 2, 1) := by decide +kernel
theorem d_M_places_16 : decode b_M_places 16 = .ok (.ifCond .ne 7, 3) := by decide +kernel
theorem d_M_places_19 : decode b_M_places 19 = .ok (.iload_n 1, 1) := by decide +kernel
theorem d_M_places_20 : decode b_M_places 20 = .ok (.goto 7, 3) := by decide +kernel
theorem d_M_places_23 : decode b_M_places 23 = .ok (.iload_n 1, 1) := by decide +kernel
theorem d_M_places_24 : decode b_M_places 24 = .ok (.invokestatic 82, 3) := by decide +kernel
theorem d_M_places_27 : decode b_M_places 27 = .ok (.istore_n 3, 1) := by decide +kernel
theorem d_M_places_28 : decode b_M_places 28 = .ok (.aload_n 0, 1) := by decide +kernel
theorem d_M_places_29 : decode b_M_places 29 = .ok (.getfield 13, 3) := by decide +kernel
theorem d_M_places_32 : decode b_M_places 32 = .ok (.iload_n 3, 1) := by decide +kernel
theorem d_M_places_33 : decode b_M_places 33 = .ok (.iaload, 1) := by decide +kernel
theorem d_M_places_34 : decode b_M_places 34 = .ok (.ifCond .ne 7, 3) := by decide +kernel
theorem d_M_places_37 : decode b_M_places 37 = .ok (.iconst 0, 1) := by decide +kernel
theorem d_M_places_38 : decode b_M_places 38 = .ok (.goto 14, 3) := by decide +kernel
theorem d_M_places_41 : decode b_M_places 41 = .ok (.bipush 16, 2) := by decide +kernel
theorem d_M_places_43 : decode b_M_places 43 = .ok (.aload_n 0, 1) := by decide +kernel
theorem d_M_places_44 : decode b_M_places 44 = .ok (.getfield 13, 3) := by decide +kernel
theorem d_M_places_47 : decode b_M_places 47 = .ok (.iload_n 3, 1) := by decide +kernel
theorem d_M_places_48 : decode b_M_places 48 = .ok (.iaload, 1) := by decide +kernel
theorem d_M_places_49 : decode b_M_places 49 = .ok (.iconst 1, 1) := by decide +kernel
theorem d_M_places_50 : decode b_M_places 50 = .ok (.isub, 1) := by decide +kernel
theorem d_M_places_51 : decode b_M_places 51 = .ok (.imul, 1) := by decide +kernel
theorem d_M_places_52 : decode b_M_places 52 = .ok (.istore 4, 2) := by decide +kernel
theorem d_M_places_54 : decode b_M_places 54 = .ok (.aload_n 0, 1) := by decide +kernel
theorem d_M_places_55 : decode b_M_places 55 = .ok (.getfield 13, 3) := by decide +kernel
theorem d_M_places_58 : decode b_M_places 58 = .ok (.iload_n 3, 1) := by decide +kernel
theorem d_M_places_59 : decode b_M_places 59 = .ok (.iaload, 1) := by decide +kernel
theorem d_M_places_60 : decode b_M_places 60 = .ok (.ifCond .ne 7, 3) := by decide +kernel
theorem d_M_places_63 : decode b_M_places 63 = .ok (.iconst 0, 1) := by decide +kernel
theorem d_M_places_64 : decode b_M_places 64 = .ok (.goto 22, 3) := by decide +kernel
theorem d_M_places_67 : decode b_M_places 67 = .ok (.aload_n 0, 1) := by decide +kernel
theorem d_M_places_68 : decode b_M_places 68 = .ok (.getfield 7, 3) := by decide +kernel
theorem d_M_places_71 : decode b_M_places 71 = .ok (.sipush 300, 3) := by decide +kernel
theorem d_M_places_74 : decode b_M_places 74 = .ok (.iload_n 3, 1) := by decide +kernel
theorem d_M_places_75 : decode b_M_places 75 = .ok (.imul, 1) := by decide +kernel
theorem d_M_places_76 : decode b_M_places 76 = .ok (.aload_n 0, 1) := by decide +kernel
theorem d_M_places_77 : decode b_M_places 77 = .ok (.getfield 13, 3) := by decide +kernel
theorem d_M_places_80 : decode b_M_places 80 = .ok (.iload_n 3, 1) := by decide +kernel
theorem d_M_places_81 : decode b_M_places 81 = .ok (.iaload, 1) := by decide +kernel
theorem d_M_places_82 : decode b_M_places 82 = .ok (.iadd, 1) := by decide +kernel
theorem d_M_places_83 : decode b_M_places 83 = .ok (.iconst 1, 1) := by decide +kernel
theorem d_M_places_84 : decode b_M_places 84 = .ok (.isub, 1) := by decide +kernel
theorem d_M_places_85 : decode b_M_places 85 = .ok (.iaload, 1) := by decide +kernel
theorem d_M_places_86 : decode b_M_places 86 = .ok (.istore 5, 2) := by decide +kernel
theorem d_M_places_88 : decode b_M_places 88 = .ok (.iload 5, 2) := by decide +kernel
theorem d_M_places_90 : decode b_M_places 90 = .ok (.ifCond .le 15, 3) := by decide +kernel
theorem d_M_places_93 : decode b_M_places 93 = .ok (.iinc 4 1, 3) := by decide +kernel
theorem d_M_places_96 : decode b_M_places 96 = .ok (.iload 5, 2) := by decide +kernel
theorem d_M_places_98 : decode b_M_places 98 = .ok (.iconst 2, 1) := by decide +kernel
theorem d_M_places_99 : decode b_M_places 99 = .ok (.idiv, 1) := by decide +kernel
theorem d_M_places_100 : decode b_M_places 100 = .ok (.istore 5, 2) := by decide +kernel
theorem d_M_places_102 : decode b_M_places 102 = .ok (.goto (-14), 3) := by decide +kernel
theorem d_M_places_105 : decode b_M_places 105 = .ok (.iload 4, 2) := by decide +kernel
theorem d_M_places_107 : decode b_M_places 107 = .ok (.ireturn, 1) := by decide +kernel
theorem d_M_look_0 : decode b_M_look 0 = .ok (.aload_n 0, 1) := by decide +kernel
theorem d_M_look_1 : decode b_M_look 1 = .ok (.iload_n 1, 1) := by decide +kernel
theorem d_M_look_2 : decode b_M_look 2 = .ok (.invokestatic 86, 3) := by decide +kernel
theorem d_M_look_5 : decode b_M_look 5 = .ok (.ifCond .eq 16, 3) := by decide +kernel
theorem d_M_look_8 : decode b_M_look 8 = .ok (.iload_n 2, 1) := by decide +kernel
theorem d_M_look_9 : decode b_M_look 9 = .ok (.ifCond .lt 12, 3) := by decide +kernel
theorem d_M_look_12 : decode b_M_look 12 = .ok (.iload_n 2, 1) := by decide +kernel
theorem d_M_look_13 : decode b_M_look 13 = .ok (.iconst 1, 1) := by decide +kernel
theorem d_M_look_14 : decode b_M_look 14 = .ok (.if_icmp .gt 7, 3) := by decide +kernel
theorem d_M_look_17 : decode b_M_look 17 = .ok (.iconst 0, 1) := by decide +kernel
theorem d_M_look_18 : decode b_M_look 18 = .ok (.goto 4, 3) := by decide +kernel
theorem d_M_look_21 : decode b_M_look 21 = .ok (.iconst 1, 1) := by decide +kernel
theorem d_M_look_22 : decode b_M_look 22 = .ok (.putfield 34, 3) := by decide +kernel
theorem d_M_look_25 : decode b_M_look 25 = .ok (.return_, 1) := by decide +kernel
theorem d_M_part_0 : decode b_M_part 0 = .ok (.aload_n 0, 1) := by decide +kernel
theorem d_M_part_1 : decode b_M_part 1 = .ok (.iload_n 1, 1) := by decide +kernel
theorem d_M_part_2 : decode b_M_part 2 = .ok (.iload_n 2, 1) := by decide +kernel
theorem d_M_part_3 : decode b_M_part 3 = .ok (.invokevirtual 118, 3) := by decide +kernel
theorem d_M_part_6 : decode b_M_part 6 = .ok (.aload_n 0, 1) := by decide +kernel
theorem d_M_part_7 : decode b_M_part 7 = .ok (.getfield 34, 3) := by decide +kernel
theorem d_M_part_10 : decode b_M_part 10 = .ok (.ifCond .gt 14, 3) := by decide +kernel
theorem d_M_part_13 : decode b_M_part 13 = .ok (.iload_n 3, 1) := by decide +kernel
theorem d_M_part_14 : decode b_M_part 14 = .ok (.ifCond .lt 10, 3) := by decide +kernel
theorem d_M_part_17 : decode b_M_part 17 = .ok (.iload_n 3, 1) := by decide +kernel
theorem d_M_part_18 : decode b_M_part 18 = .ok (.sipush 128, 3) := by decide +kernel
theorem d_M_part_21 : decode b_M_part 21 = .ok (.if_icmp .le 5, 3) := by decide +kernel
theorem d_M_part_24 : decode b_M_part 24 = .ok (.lconst 0, 1) := by decide +kernel
