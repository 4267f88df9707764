theorem dX11_numbers_0 : decode cX11_numbers 0 = .ok (.iconst 0, 1) := by decide +kernel
theorem dX11_numbers_1 : decode cX11_numbers 1 = .ok (.istore_n 2, 1) := by decide +kernel
theorem dX11_numbers_2 : decode cX11_numbers 2 = .ok (.iconst 0, 1) := by decide +kernel
theorem dX11_numbers_3 : decode cX11_numbers 3 = .ok (.istore_n 3, 1) := by decide +kernel
theorem dX11_numbers_4 : decode cX11_numbers 4 = .ok (.iload_n 3, 1) := by decide +kernel
theorem dX11_numbers_5 : decode cX11_numbers 5 = .ok (.aload_n 0, 1) := by decide +kernel
theorem dX11_numbers_6 : decode cX11_numbers 6 = .ok (.getfield 31, 3) := by decide +kernel
theorem dX11_numbers_9 : decode cX11_numbers 9 = .ok (.iload_n 1, 1) := by decide +kernel
theorem dX11_numbers_10 : decode cX11_numbers 10 = .ok (.iaload, 1) := by decide +kernel
theorem dX11_numbers_11 : decode cX11_numbers 11 = .ok (.if_icmp .ge 87, 3) := by decide +kernel
theorem dX11_numbers_14 : decode cX11_numbers 14 = .ok (.iconst 1, 1) := by decide +kernel
theorem dX11_numbers_15 : decode cX11_numbers 15 = .ok (.istore 4, 2) := by decide +kernel
theorem dX11_numbers_17 : decode cX11_numbers 17 = .ok (.iconst 0, 1) := by decide +kernel
theorem dX11_numbers_18 : decode cX11_numbers 18 = .ok (.istore 5, 2) := by decide +kernel
theorem dX11_numbers_20 : decode cX11_numbers 20 = .ok (.iload 5, 2) := by decide +kernel
theorem dX11_numbers_22 : decode cX11_numbers 22 = .ok (.aload_n 0, 1) := by decide +kernel
theorem dX11_numbers_23 : decode cX11_numbers 23 = .ok (.getfield 203, 3) := by decide +kernel
theorem dX11_numbers_26 : decode cX11_numbers 26 = .ok (.if_icmp .ge 51, 3) := by decide +kernel
theorem dX11_numbers_29 : decode cX11_numbers 29 = .ok (.iload 4, 2) := by decide +kernel
theorem dX11_numbers_31 : decode cX11_numbers 31 = .ok (.ifCond .eq 46, 3) := by decide +kernel
theorem dX11_numbers_34 : decode cX11_numbers 34 = .ok (.aload_n 0, 1) := by decide +kernel
theorem dX11_numbers_35 : decode cX11_numbers 35 = .ok (.iload_n 1, 1) := by decide +kernel
theorem dX11_numbers_36 : decode cX11_numbers 36 = .ok (.iload_n 3, 1) := by decide +kernel
theorem dX11_numbers_37 : decode cX11_numbers 37 = .ok (.aload_n 0, 1) := by decide +kernel
theorem dX11_numbers_38 : decode cX11_numbers 38 = .ok (.getfield 98, 3) := by decide +kernel
theorem dX11_numbers_41 : decode cX11_numbers 41 = .ok (.iload 5, 2) := by decide +kernel
theorem dX11_numbers_43 : decode cX11_numbers 43 = .ok (.iaload, 1) := by decide +kernel
theorem dX11_numbers_44 : decode cX11_numbers 44 = .ok (.aload_n 0, 1) := by decide +kernel
theorem dX11_numbers_45 : decode cX11_numbers 45 = .ok (.getfield 101, 3) := by decide +kernel
theorem dX11_numbers_48 : decode cX11_numbers 48 = .ok (.iload 5, 2) := by decide +kernel
theorem dX11_numbers_50 : decode cX11_numbers 50 = .ok (.iaload, 1) := by decide +kernel
theorem dX11_numbers_51 : decode cX11_numbers 51 = .ok (.invokevirtual 450, 3) := by decide +kernel
theorem dX11_numbers_54 : decode cX11_numbers 54 = .ok (.aload_n 0, 1) := by decide +kernel
theorem dX11_numbers_55 : decode cX11_numbers 55 = .ok (.getfield 104, 3) := by decide +kernel
theorem dX11_numbers_58 : decode cX11_numbers 58 = .ok (.iload 5, 2) := by decide +kernel
theorem dX11_numbers_60 : decode cX11_numbers 60 = .ok (.iaload, 1) := by decide +kernel
theorem dX11_numbers_61 : decode cX11_numbers 61 = .ok (.if_icmp .ne 7, 3) := by decide +kernel
theorem dX11_numbers_64 : decode cX11_numbers 64 = .ok (.iconst 1, 1) := by decide +kernel
theorem dX11_numbers_65 : decode cX11_numbers 65 = .ok (.goto 4, 3) := by decide +kernel
theorem dX11_numbers_68 : decode cX11_numbers 68 = .ok (.iconst 0, 1) := by decide +kernel
theorem dX11_numbers_69 : decode cX11_numbers 69 = .ok (.istore 4, 2) := by decide +kernel
theorem dX11_numbers_71 : decode cX11_numbers 71 = .ok (.iinc 5 1, 3) := by decide +kernel
theorem dX11_numbers_74 : decode cX11_numbers 74 = .ok (.goto (-54), 3) := by decide +kernel
theorem dX11_numbers_77 : decode cX11_numbers 77 = .ok (.iload_n 2, 1) := by decide +kernel
theorem dX11_numbers_78 : decode cX11_numbers 78 = .ok (.iload 4, 2) := by decide +kernel
theorem dX11_numbers_80 : decode cX11_numbers 80 = .ok (.ifCond .eq 9, 3) := by decide +kernel
theorem dX11_numbers_83 : decode cX11_numbers 83 = .ok (.iconst 1, 1) := by decide +kernel
theorem dX11_numbers_84 : decode cX11_numbers 84 = .ok (.iload_n 3, 1) := by decide +kernel
theorem dX11_numbers_85 : decode cX11_numbers 85 = .ok (.ishl, 1) := by decide +kernel
theorem dX11_numbers_86 : decode cX11_numbers 86 = .ok (.goto 4, 3) := by decide +kernel
theorem dX11_numbers_89 : decode cX11_numbers 89 = .ok (.iconst 0, 1) := by decide +kernel
theorem dX11_numbers_90 : decode cX11_numbers 90 = .ok (.ior, 1) := by decide +kernel
theorem dX11_numbers_91 : decode cX11_numbers 91 = .ok (.istore_n 2, 1) := by decide +kernel
theorem dX11_numbers_92 : decode cX11_numbers 92 = .ok (.iinc 3 1, 3) := by decide +kernel
theorem dX11_numbers_95 : decode cX11_numbers 95 = .ok (.goto (-91), 3) := by decide +kernel
theorem dX11_numbers_98 : decode cX11_numbers 98 = .ok (.iload_n 2, 1) := by decide +kernel
theorem dX11_numbers_99 : decode cX11_numbers 99 = .ok (.ireturn, 1) := by decide +kernel
theorem dX11_guess_0 : decode cX11_guess 0 = .ok (.aload_n 0, 1) := by decide +kernel
theorem dX11_guess_1 : decode cX11_guess 1 = .ok (.iconst 0, 1) := by decide +kernel
theorem dX11_guess_2 : decode cX11_guess 2 = .ok (.putfield 3, 3) := by decide +kernel
theorem dX11_guess_5 : decode cX11_guess 5 = .ok (.aload_n 0, 1) := by decide +kernel
theorem dX11_guess_6 : decode cX11_guess 6 = .ok (.iload_n 1, 1) := by decide +kernel
theorem dX11_guess_7 : decode cX11_guess 7 = .ok (.invokevirtual 280, 3) := by decide +kernel
theorem dX11_guess_10 : decode cX11_guess 10 = .ok (.ifCond .ne 5, 3) := by decide +kernel
theorem dX11_guess_13 : decode cX11_guess 13 = .ok (.iconst (-1), 1) := by decide +kernel
theorem dX11_guess_14 : decode cX11_guess 14 = .ok (.ireturn, 1) := by decide +kernel
theorem dX11_guess_15 : decode cX11_guess 15 = .ok (.aload_n 0, 1) := by decide +kernel
theorem dX11_guess_16 : decode cX11_guess 16 = .ok (.iload_n 1, 1) := by decide +kernel
theorem dX11_guess_17 : decode cX11_guess 17 = .ok (.invokevirtual 454, 3) := by decide +kernel
theorem dX11_guess_20 : decode cX11_guess 20 = .ok (.istore_n 2, 1) := by decide +kernel
theorem dX11_guess_21 : decode cX11_guess 21 = .ok (.aload_n 0, 1) := by decide +kernel
theorem dX11_guess_22 : decode cX11_guess 22 = .ok (.iconst 0, 1) := by decide +kernel
theorem dX11_guess_23 : decode cX11_guess 23 = .ok (.putfield 15, 3) := by decide +kernel
theorem dX11_guess_26 : decode cX11_guess 26 = .ok (.aload_n 0, 1) := by decide +kernel
theorem dX11_guess_27 : decode cX11_guess 27 = .ok (.iload_n 2, 1) := by decide +kernel
theorem dX11_guess_28 : decode cX11_guess 28 = .ok (.invokestatic 397, 3) := by decide +kernel
theorem dX11_guess_31 : decode cX11_guess 31 = .ok (.i2l, 1) := by decide +kernel
theorem dX11_guess_32 : decode cX11_guess 32 = .ok (.invokevirtual 18, 3) := by decide +kernel
theorem dX11_guess_35 : decode cX11_guess 35 = .ok (.aload_n 0, 1) := by decide +kernel
theorem dX11_guess_36 : decode cX11_guess 36 = .ok (.iload_n 2, 1) := by decide +kernel
theorem dX11_guess_37 : decode cX11_guess 37 = .ok (.aload_n 0, 1) := by decide +kernel
theorem dX11_guess_38 : decode cX11_guess 38 = .ok (.getfield 38, 3) := by decide +kernel
theorem dX11_guess_41 : decode cX11_guess 41 = .ok (.iload_n 1, 1) := by decide +kernel
theorem dX11_guess_42 : decode cX11_guess 42 = .ok (.iaload, 1) := by decide +kernel
theorem dX11_guess_43 : decode cX11_guess 43 = .ok (.invokestatic 183, 3) := by decide +kernel
theorem dX11_guess_46 : decode cX11_guess 46 = .ok (.invokestatic 151, 3) := by decide +kernel
theorem dX11_guess_49 : decode cX11_guess 49 = .ok (.i2l, 1) := by decide +kernel
theorem dX11_guess_50 : decode cX11_guess 50 = .ok (.invokevirtual 18, 3) := by decide +kernel
theorem dX11_guess_53 : decode cX11_guess 53 = .ok (.iload_n 2, 1) := by decide +kernel
theorem dX11_guess_54 : decode cX11_guess 54 = .ok (.ireturn, 1) := by decide +kernel
theorem dX11_looks_0 : decode cX11_looks 0 = .ok (.aload_n 0, 1) := by decide +kernel
theorem dX11_looks_1 : decode cX11_looks 1 = .ok (.iconst 0, 1) := by decide +kernel
theorem dX11_looks_2 : decode cX11_looks 2 = .ok (.putfield 3, 3) := by decide +kernel
theorem dX11_looks_5 : decode cX11_looks 5 = .ok (.aload_n 0, 1) := by decide +kernel
theorem dX11_looks_6 : decode cX11_looks 6 = .ok (.iload_n 1, 1) := by decide +kernel
theorem dX11_looks_7 : decode cX11_looks 7 = .ok (.invokevirtual 280, 3) := by decide +kernel
theorem dX11_looks_10 : decode cX11_looks 10 = .ok (.ifCond .ne 5, 3) := by decide +kernel
theorem dX11_looks_13 : decode cX11_looks 13 = .ok (.iconst (-1), 1) := by decide +kernel
theorem dX11_looks_14 : decode cX11_looks 14 = .ok (.ireturn, 1) := by decide +kernel
theorem dX11_looks_15 : decode cX11_looks 15 = .ok (.aload_n 0, 1) := by decide +kernel
theorem dX11_looks_16 : decode cX11_looks 16 = .ok (.iload_n 1, 1) := by decide +kernel
theorem dX11_looks_17 : decode cX11_looks 17 = .ok (.invokevirtual 454, 3) := by decide +kernel
theorem dX11_looks_20 : decode cX11_looks 20 = .ok (.istore_n 2, 1) := by decide +kernel
theorem dX11_looks_21 : decode cX11_looks 21 = .ok (.iload_n 2, 1) := by decide +kernel
theorem dX11_looks_22 : decode cX11_looks 22 = .ok (.ifCond .ne 6, 3) := by decide +kernel
theorem dX11_looks_25 : decode cX11_looks 25 = .ok (.bipush (-2), 2) := by decide +kernel
theorem dX11_looks_27 : decode cX11_looks 27 = .ok (.ireturn, 1) := by decide +kernel
theorem dX11_looks_28 : decode cX11_looks 28 = .ok (.iconst (-1), 1) := by decide +kernel
theorem dX11_looks_29 : decode cX11_looks 29 = .ok (.istore_n 3, 1) := by decide +kernel
theorem dX11_looks_30 : decode cX11_looks 30 = .ok (.ldc_w 264, 3) := by decide +kernel
theorem dX11_looks_33 : decode cX11_looks 33 = .ok (.istore 4, 2) := by decide +kernel
theorem dX11_looks_35 : decode cX11_looks 35 = .ok (.iconst 1, 1) := by decide +kernel
theorem dX11_looks_36 : decode cX11_looks 36 = .ok (.istore 5, 2) := by decide +kernel
theorem dX11_looks_38 : decode cX11_looks 38 = .ok (.iload 5, 2) := by decide +kernel
theorem dX11_looks_40 : decode cX11_looks 40 = .ok (.aload_n 0, 1) := by decide +kernel
theorem dX11_looks_41 : decode cX11_looks 41 = .ok (.getfield 28, 3) := by decide +kernel
theorem dX11_looks_44 : decode cX11_looks 44 = .ok (.if_icmp .ge 148, 3) := by decide +kernel
theorem dX11_looks_47 : decode cX11_looks 47 = .ok (.iconst 0, 1) := by decide +kernel
theorem dX11_looks_48 : decode cX11_looks 48 = .ok (.istore 6, 2) := by decide +kernel
theorem dX11_looks_50 : decode cX11_looks 50 = .ok (.iload 6, 2) := by decide +kernel
theorem dX11_looks_52 : decode cX11_looks 52 = .ok (.bipush 20, 2) := by decide +kernel
theorem dX11_looks_54 : decode cX11_looks 54 = .ok (.if_icmp .gt 132, 3) := by decide +kernel
theorem dX11_looks_57 : decode cX11_looks 57 = .ok (.iconst 0, 1) := by decide +kernel
theorem dX11_looks_58 : decode cX11_looks 58 = .ok (.istore 7, 2) := by decide +kernel
theorem dX11_looks_60 : decode cX11_looks 60 = .ok (.iconst 0, 1) := by decide +kernel
theorem dX11_looks_61 : decode cX11_looks 61 = .ok (.istore 8, 2) := by decide +kernel
theorem dX11_looks_63 : decode cX11_looks 63 = .ok (.iload 8, 2) := by decide +kernel
theorem dX11_looks_65 : decode cX11_looks 65 = .ok (.bipush 8, 2) := by decide +kernel
theorem dX11_looks_67 : decode cX11_looks 67 = .ok (.if_icmp .ge 17, 3) := by decide +kernel
theorem dX11_looks_70 : decode cX11_looks 70 = .ok (.aload_n 0, 1) := by decide +kernel
theorem dX11_looks_71 : decode cX11_looks 71 = .ok (.getfield 107, 3) := by decide +kernel
theorem dX11_looks_74 : decode cX11_looks 74 = .ok (.iload 8, 2) := by decide +kernel
theorem dX11_looks_76 : decode cX11_looks 76 = .ok (.iconst 0, 1) := by decide +kernel
theorem dX11_looks_77 : decode cX11_looks 77 = .ok (.iastore, 1) := by decide +kernel
theorem dX11_looks_78 : decode cX11_looks 78 = .ok (.iinc 8 1, 3) := by decide +kernel
theorem dX11_looks_81 : decode cX11_looks 81 = .ok (.goto (-18), 3) := by decide +kernel
theorem dX11_looks_84 : decode cX11_looks 84 = .ok (.iconst 0, 1) := by decide +kernel
theorem dX11_looks_85 : decode cX11_looks 85 = .ok (.istore 8, 2) := by decide +kernel
theorem dX11_looks_87 : decode cX11_looks 87 = .ok (.iload 8, 2) := by decide +kernel
theorem dX11_looks_89 : decode cX11_looks 89 = .ok (.aload_n 0, 1) := by decide +kernel
theorem dX11_looks_90 : decode cX11_looks 90 = .ok (.getfield 31, 3) := by decide +kernel
theorem dX11_looks_93 : decode cX11_looks 93 = .ok (.iload_n 1, 1) := by decide +kernel
theorem dX11_looks_94 : decode cX11_looks 94 = .ok (.iaload, 1) := by decide +kernel
theorem dX11_looks_95 : decode cX11_looks 95 = .ok (.if_icmp .ge 56, 3) := by decide +kernel
theorem dX11_looks_98 : decode cX11_looks 98 = .ok (.iload_n 2, 1) := by decide +kernel
theorem dX11_looks_99 : decode cX11_looks 99 = .ok (.iload 8, 2) := by decide +kernel
theorem dX11_looks_101 : decode cX11_looks 101 = .ok (.invokestatic 183, 3) := by decide +kernel
theorem dX11_looks_104 : decode cX11_looks 104 = .ok (.ifCond .eq 41, 3) := by decide +kernel
theorem dX11_looks_107 : decode cX11_looks 107 = .ok (.aload_n 0, 1) := by decide +kernel
theorem dX11_looks_108 : decode cX11_looks 108 = .ok (.iload_n 1, 1) := by decide +kernel
theorem dX11_looks_109 : decode cX11_looks 109 = .ok (.iload 8, 2) := by decide +kernel
theorem dX11_looks_111 : decode cX11_looks 111 = .ok (.iload 5, 2) := by decide +kernel
theorem dX11_looks_113 : decode cX11_looks 113 = .ok (.iload 6, 2) := by decide +kernel
theorem dX11_looks_115 : decode cX11_looks 115 = .ok (.invokevirtual 450, 3) := by decide +kernel
theorem dX11_looks_118 : decode cX11_looks 118 = .ok (.istore 9, 2) := by decide +kernel
theorem dX11_looks_120 : decode cX11_looks 120 = .ok (.aload_n 0, 1) := by decide +kernel
theorem dX11_looks_121 : decode cX11_looks 121 = .ok (.getfield 107, 3) := by decide +kernel
theorem dX11_looks_124 : decode cX11_looks 124 = .ok (.iload 9, 2) := by decide +kernel
theorem dX11_looks_126 : decode cX11_looks 126 = .ok (.dup2, 1) := by decide +kernel
theorem dX11_looks_127 : decode cX11_looks 127 = .ok (.iaload, 1) := by decide +kernel
theorem dX11_looks_128 : decode cX11_looks 128 = .ok (.iconst 1, 1) := by decide +kernel
theorem dX11_looks_129 : decode cX11_looks 129 = .ok (.iadd, 1) := by decide +kernel
theorem dX11_looks_130 : decode cX11_looks 130 = .ok (.iastore, 1) := by decide +kernel
theorem dX11_looks_131 : decode cX11_looks 131 = .ok (.iload 7, 2) := by decide +kernel
theorem dX11_looks_133 : decode cX11_looks 133 = .ok (.aload_n 0, 1) := by decide +kernel
theorem dX11_looks_134 : decode cX11_looks 134 = .ok (.getfield 107, 3) := by decide +kernel
theorem dX11_looks_137 : decode cX11_looks 137 = .ok (.iload 9, 2) := by decide +kernel
theorem dX11_looks_139 : decode cX11_looks 139 = .ok (.iaload, 1) := by decide +kernel
theorem dX11_looks_140 : decode cX11_looks 140 = .ok (.invokestatic 261, 3) := by decide +kernel
theorem dX11_looks_143 : decode cX11_looks 143 = .ok (.istore 7, 2) := by decide +kernel
theorem dX11_looks_145 : decode cX11_looks 145 = .ok (.iinc 8 1, 3) := by decide +kernel
theorem dX11_looks_148 : decode cX11_looks 148 = .ok (.goto (-61), 3) := by decide +kernel
theorem dX11_looks_151 : decode cX11_looks 151 = .ok (.iload 7, 2) := by decide +kernel
theorem dX11_looks_153 : decode cX11_looks 153 = .ok (.iload 4, 2) := by decide +kernel
theorem dX11_looks_155 : decode cX11_looks 155 = .ok (.if_icmp .ge 14, 3) := by decide +kernel
theorem dX11_looks_158 : decode cX11_looks 158 = .ok (.bipush 100, 2) := by decide +kernel
theorem dX11_looks_160 : decode cX11_looks 160 = .ok (.iload 5, 2) := by decide +kernel
theorem dX11_looks_162 : decode cX11_looks 162 = .ok (.imul, 1) := by decide +kernel
theorem dX11_looks_163 : decode cX11_looks 163 = .ok (.iload 6, 2) := by decide +kernel
theorem dX11_looks_165 : decode cX11_looks 165 = .ok (.iadd, 1) := by decide +kernel
theorem dX11_looks_166 : decode cX11_looks 166 = .ok (.goto 4, 3) := by decide +kernel
theorem dX11_looks_169 : decode cX11_looks 169 = .ok (.iload_n 3, 1) := by decide +kernel
theorem dX11_looks_170 : decode cX11_looks 170 = .ok (.istore_n 3, 1) := by decide +kernel
theorem dX11_looks_171 : decode cX11_looks 171 = .ok (.iload 4, 2) := by decide +kernel
theorem dX11_looks_173 : decode cX11_looks 173 = .ok (.iload 7, 2) := by decide +kernel
theorem dX11_looks_175 : decode cX11_looks 175 = .ok (.invokestatic 142, 3) := by decide +kernel
theorem dX11_looks_178 : decode cX11_looks 178 = .ok (.istore 4, 2) := by decide +kernel
theorem dX11_looks_180 : decode cX11_looks 180 = .ok (.iinc 6 1, 3) := by decide +kernel
theorem dX11_looks_183 : decode cX11_looks 183 = .ok (.goto (-133), 3) := by decide +kernel
theorem dX11_looks_186 : decode cX11_looks 186 = .ok (.iinc 5 1, 3) := by decide +kernel
theorem dX11_looks_189 : decode cX11_looks 189 = .ok (.goto (-151), 3) := by decide +kernel
theorem dX11_looks_192 : decode cX11_looks 192 = .ok (.aload_n 0, 1) := by decide +kernel
theorem dX11_looks_193 : decode cX11_looks 193 = .ok (.iconst 0, 1) := by decide +kernel
theorem dX11_looks_194 : decode cX11_looks 194 = .ok (.putfield 15, 3) := by decide +kernel
theorem dX11_looks_197 : decode cX11_looks 197 = .ok (.aload_n 0, 1) := by decide +kernel
theorem dX11_looks_198 : decode cX11_looks 198 = .ok (.iload 4, 2) := by decide +kernel
theorem dX11_looks_200 : decode cX11_looks 200 = .ok (.i2l, 1) := by decide +kernel
theorem dX11_looks_201 : decode cX11_looks 201 = .ok (.invokevirtual 18, 3) := by decide +kernel
theorem dX11_looks_204 : decode cX11_looks 204 = .ok (.iload_n 3, 1) := by decide +kernel
theorem dX11_looks_205 : decode cX11_looks 205 = .ok (.ireturn, 1) := by decide +kernel
theorem dX11_lowest_0 : decode cX11_lowest 0 = .ok (.iload_n 0, 1) := by decide +kernel
theorem dX11_lowest_1 : decode cX11_lowest 1 = .ok (.ifCond .eq 8, 3) := by decide +kernel
theorem dX11_lowest_4 : decode cX11_lowest 4 = .ok (.iload_n 0, 1) := by decide +kernel
theorem dX11_lowest_5 : decode cX11_lowest 5 = .ok (.iconst 3, 1) := by decide +kernel
theorem dX11_lowest_6 : decode cX11_lowest 6 = .ok (.if_icmp .ne 7, 3) := by decide +kernel
theorem dX11_lowest_9 : decode cX11_lowest 9 = .ok (.iconst 1, 1) := by decide +kernel
theorem dX11_lowest_10 : decode cX11_lowest 10 = .ok (.goto 4, 3) := by decide +kernel
theorem dX11_lowest_13 : decode cX11_lowest 13 = .ok (.iconst 0, 1) := by decide +kernel
theorem dX11_lowest_14 : decode cX11_lowest 14 = .ok (.invokestatic 151, 3) := by decide +kernel
theorem dX11_lowest_17 : decode cX11_lowest 17 = .ok (.ireturn, 1) := by decide +kernel
theorem dX11_highest_0 : decode cX11_highest 0 = .ok (.iload_n 0, 1) := by decide +kernel
theorem dX11_highest_1 : decode cX11_highest 1 = .ok (.ifCond .ne 7, 3) := by decide +kernel
theorem dX11_highest_4 : decode cX11_highest 4 = .ok (.iconst 4, 1) := by decide +kernel
theorem dX11_highest_5 : decode cX11_highest 5 = .ok (.goto 15, 3) := by decide +kernel
theorem dX11_highest_8 : decode cX11_highest 8 = .ok (.iload_n 0, 1) := by decide +kernel
theorem dX11_highest_9 : decode cX11_highest 9 = .ok (.iconst 1, 1) := by decide +kernel
theorem dX11_highest_10 : decode cX11_highest 10 = .ok (.if_icmp .ne 8, 3) := by decide +kernel
theorem dX11_highest_13 : decode cX11_highest 13 = .ok (.bipush 9, 2) := by decide +kernel
theorem dX11_highest_15 : decode cX11_highest 15 = .ok (.goto 5, 3) := by decide +kernel
theorem dX11_highest_18 : decode cX11_highest 18 = .ok (.bipush 7, 2) := by decide +kernel
theorem dX11_highest_20 : decode cX11_highest 20 = .ok (.ireturn, 1) := by decide +kernel
theorem dX11_heard_0 : decode cX11_heard 0 = .ok (.aload_n 0, 1) := by decide +kernel
theorem dX11_heard_1 : decode cX11_heard 1 = .ok (.iconst 0, 1) := by decide +kernel
theorem dX11_heard_2 : decode cX11_heard 2 = .ok (.putfield 3, 3) := by decide +kernel
theorem dX11_heard_5 : decode cX11_heard 5 = .ok (.iload_n 1, 1) := by decide +kernel
theorem dX11_heard_6 : decode cX11_heard 6 = .ok (.i2l, 1) := by decide +kernel
theorem dX11_heard_7 : decode cX11_heard 7 = .ok (.lconst 0, 1) := by decide +kernel
theorem dX11_heard_8 : decode cX11_heard 8 = .ok (.ldc2_w 283, 3) := by decide +kernel
theorem dX11_heard_11 : decode cX11_heard 11 = .ok (.invokestatic 129, 3) := by decide +kernel
theorem dX11_heard_14 : decode cX11_heard 14 = .ok (.ifCond .eq 30, 3) := by decide +kernel
theorem dX11_heard_17 : decode cX11_heard 17 = .ok (.iload_n 2, 1) := by decide +kernel
theorem dX11_heard_18 : decode cX11_heard 18 = .ok (.i2l, 1) := by decide +kernel
theorem dX11_heard_19 : decode cX11_heard 19 = .ok (.iload_n 1, 1) := by decide +kernel
theorem dX11_heard_20 : decode cX11_heard 20 = .ok (.invokestatic 457, 3) := by decide +kernel
theorem dX11_heard_23 : decode cX11_heard 23 = .ok (.i2l, 1) := by decide +kernel
theorem dX11_heard_24 : decode cX11_heard 24 = .ok (.iload_n 1, 1) := by decide +kernel
theorem dX11_heard_25 : decode cX11_heard 25 = .ok (.invokestatic 460, 3) := by decide +kernel
theorem dX11_heard_28 : decode cX11_heard 28 = .ok (.i2l, 1) := by decide +kernel
theorem dX11_heard_29 : decode cX11_heard 29 = .ok (.invokestatic 129, 3) := by decide +kernel
theorem dX11_heard_32 : decode cX11_heard 32 = .ok (.ifCond .eq 12, 3) := by decide +kernel
theorem dX11_heard_35 : decode cX11_heard 35 = .ok (.aload_n 0, 1) := by decide +kernel
theorem dX11_heard_36 : decode cX11_heard 36 = .ok (.getfield 206, 3) := by decide +kernel
theorem dX11_heard_39 : decode cX11_heard 39 = .ok (.bipush 12, 2) := by decide +kernel
theorem dX11_heard_41 : decode cX11_heard 41 = .ok (.if_icmp .ne 5, 3) := by decide +kernel
theorem dX11_heard_44 : decode cX11_heard 44 = .ok (.iconst (-1), 1) := by decide +kernel
theorem dX11_heard_45 : decode cX11_heard 45 = .ok (.ireturn, 1) := by decide +kernel
theorem dX11_heard_46 : decode cX11_heard 46 = .ok (.aload_n 0, 1) := by decide +kernel
theorem dX11_heard_47 : decode cX11_heard 47 = .ok (.getfield 110, 3) := by decide +kernel
theorem dX11_heard_50 : decode cX11_heard 50 = .ok (.aload_n 0, 1) := by decide +kernel
theorem dX11_heard_51 : decode cX11_heard 51 = .ok (.getfield 206, 3) := by decide +kernel
theorem dX11_heard_54 : decode cX11_heard 54 = .ok (.iload_n 1, 1) := by decide +kernel
theorem dX11_heard_55 : decode cX11_heard 55 = .ok (.iastore, 1) := by decide +kernel
theorem dX11_heard_56 : decode cX11_heard 56 = .ok (.aload_n 0, 1) := by decide +kernel
theorem dX11_heard_57 : decode cX11_heard 57 = .ok (.getfield 113, 3) := by decide +kernel
theorem dX11_heard_60 : decode cX11_heard 60 = .ok (.aload_n 0, 1) := by decide +kernel
theorem dX11_heard_61 : decode cX11_heard 61 = .ok (.getfield 206, 3) := by decide +kernel
theorem dX11_heard_64 : decode cX11_heard 64 = .ok (.iload_n 2, 1) := by decide +kernel
theorem dX11_heard_65 : decode cX11_heard 65 = .ok (.iastore, 1) := by decide +kernel
theorem dX11_heard_66 : decode cX11_heard 66 = .ok (.aload_n 0, 1) := by decide +kernel
theorem dX11_heard_67 : decode cX11_heard 67 = .ok (.dup, 1) := by decide +kernel
theorem dX11_heard_68 : decode cX11_heard 68 = .ok (.getfield 206, 3) := by decide +kernel
theorem dX11_heard_71 : decode cX11_heard 71 = .ok (.iconst 1, 1) := by decide +kernel
theorem dX11_heard_72 : decode cX11_heard 72 = .ok (.iadd, 1) := by decide +kernel
theorem dX11_heard_73 : decode cX11_heard 73 = .ok (.putfield 206, 3) := by decide +kernel
theorem dX11_heard_76 : decode cX11_heard 76 = .ok (.aload_n 0, 1) := by decide +kernel
theorem dX11_heard_77 : decode cX11_heard 77 = .ok (.getfield 206, 3) := by decide +kernel
theorem dX11_heard_80 : decode cX11_heard 80 = .ok (.ireturn, 1) := by decide +kernel
theorem dX11_denies_0 : decode cX11_denies 0 = .ok (.aload_n 0, 1) := by decide +kernel
theorem dX11_denies_1 : decode cX11_denies 1 = .ok (.iconst 0, 1) := by decide +kernel
theorem dX11_denies_2 : decode cX11_denies 2 = .ok (.putfield 3, 3) := by decide +kernel
theorem dX11_denies_5 : decode cX11_denies 5 = .ok (.aload_n 0, 1) := by decide +kernel
theorem dX11_denies_6 : decode cX11_denies 6 = .ok (.getfield 206, 3) := by decide +kernel
theorem dX11_denies_9 : decode cX11_denies 9 = .ok (.istore_n 1, 1) := by decide +kernel
theorem dX11_denies_10 : decode cX11_denies 10 = .ok (.aload_n 0, 1) := by decide +kernel
theorem dX11_denies_11 : decode cX11_denies 11 = .ok (.iconst 0, 1) := by decide +kernel
theorem dX11_denies_12 : decode cX11_denies 12 = .ok (.putfield 206, 3) := by decide +kernel
theorem dX11_denies_15 : decode cX11_denies 15 = .ok (.iload_n 1, 1) := by decide +kernel
theorem dX11_denies_16 : decode cX11_denies 16 = .ok (.ireturn, 1) := by decide +kernel
theorem dX11_isSo_0 : decode cX11_isSo 0 = .ok (.iload_n 2, 1) := by decide +kernel
theorem dX11_isSo_1 : decode cX11_isSo 1 = .ok (.tableswitch 83 0 2 #[27, 43, 62], 27) := by decide +kernel
theorem dX11_isSo_28 : decode cX11_isSo 28 = .ok (.aload_n 0, 1) := by decide +kernel
theorem dX11_isSo_29 : decode cX11_isSo 29 = .ok (.getfield 31, 3) := by decide +kernel
theorem dX11_isSo_32 : decode cX11_isSo 32 = .ok (.iload_n 1, 1) := by decide +kernel
theorem dX11_isSo_33 : decode cX11_isSo 33 = .ok (.iaload, 1) := by decide +kernel
theorem dX11_isSo_34 : decode cX11_isSo 34 = .ok (.iload_n 3, 1) := by decide +kernel
theorem dX11_isSo_35 : decode cX11_isSo 35 = .ok (.if_icmp .ne 7, 3) := by decide +kernel
theorem dX11_isSo_38 : decode cX11_isSo 38 = .ok (.iconst 1, 1) := by decide +kernel
theorem dX11_isSo_39 : decode cX11_isSo 39 = .ok (.goto 4, 3) := by decide +kernel
theorem dX11_isSo_42 : decode cX11_isSo 42 = .ok (.iconst 0, 1) := by decide +kernel
theorem dX11_isSo_43 : decode cX11_isSo 43 = .ok (.ireturn, 1) := by decide +kernel
theorem dX11_isSo_44 : decode cX11_isSo 44 = .ok (.aload_n 0, 1) := by decide +kernel
theorem dX11_isSo_45 : decode cX11_isSo 45 = .ok (.getfield 38, 3) := by decide +kernel
theorem dX11_isSo_48 : decode cX11_isSo 48 = .ok (.bipush 8, 2) := by decide +kernel
theorem dX11_isSo_50 : decode cX11_isSo 50 = .ok (.iload_n 1, 1) := by decide +kernel
theorem dX11_isSo_51 : decode cX11_isSo 51 = .ok (.iadd, 1) := by decide +kernel
theorem dX11_isSo_52 : decode cX11_isSo 52 = .ok (.iaload, 1) := by decide +kernel
theorem dX11_isSo_53 : decode cX11_isSo 53 = .ok (.iload_n 3, 1) := by decide +kernel
theorem dX11_isSo_54 : decode cX11_isSo 54 = .ok (.if_icmp .lt 7, 3) := by decide +kernel
theorem dX11_isSo_57 : decode cX11_isSo 57 = .ok (.iconst 1, 1) := by decide +kernel
theorem dX11_isSo_58 : decode cX11_isSo 58 = .ok (.goto 4, 3) := by decide +kernel
theorem dX11_isSo_61 : decode cX11_isSo 61 = .ok (.iconst 0, 1) := by decide +kernel
theorem dX11_isSo_62 : decode cX11_isSo 62 = .ok (.ireturn, 1) := by decide +kernel
theorem dX11_isSo_63 : decode cX11_isSo 63 = .ok (.aload_n 0, 1) := by decide +kernel
theorem dX11_isSo_64 : decode cX11_isSo 64 = .ok (.iload_n 1, 1) := by decide +kernel
theorem dX11_isSo_65 : decode cX11_isSo 65 = .ok (.aload_n 0, 1) := by decide +kernel
theorem dX11_isSo_66 : decode cX11_isSo 66 = .ok (.getfield 38, 3) := by decide +kernel
theorem dX11_isSo_69 : decode cX11_isSo 69 = .ok (.iload_n 1, 1) := by decide +kernel
theorem dX11_isSo_70 : decode cX11_isSo 70 = .ok (.iaload, 1) := by decide +kernel
theorem dX11_isSo_71 : decode cX11_isSo 71 = .ok (.invokevirtual 255, 3) := by decide +kernel
theorem dX11_isSo_74 : decode cX11_isSo 74 = .ok (.iload_n 3, 1) := by decide +kernel
theorem dX11_isSo_75 : decode cX11_isSo 75 = .ok (.if_icmp .ne 7, 3) := by decide +kernel
theorem dX11_isSo_78 : decode cX11_isSo 78 = .ok (.iconst 1, 1) := by decide +kernel
theorem dX11_isSo_79 : decode cX11_isSo 79 = .ok (.goto 4, 3) := by decide +kernel
theorem dX11_isSo_82 : decode cX11_isSo 82 = .ok (.iconst 0, 1) := by decide +kernel
theorem dX11_isSo_83 : decode cX11_isSo 83 = .ok (.ireturn, 1) := by decide +kernel
theorem dX11_isSo_84 : decode cX11_isSo 84 = .ok (.aload_n 0, 1) := by decide +kernel
theorem dX11_isSo_85 : decode cX11_isSo 85 = .ok (.getfield 65, 3) := by decide +kernel
theorem dX11_isSo_88 : decode cX11_isSo 88 = .ok (.iload_n 1, 1) := by decide +kernel
theorem dX11_isSo_89 : decode cX11_isSo 89 = .ok (.iaload, 1) := by decide +kernel
theorem dX11_isSo_90 : decode cX11_isSo 90 = .ok (.iload_n 3, 1) := by decide +kernel
theorem dX11_isSo_91 : decode cX11_isSo 91 = .ok (.if_icmp .ne 7, 3) := by decide +kernel
theorem dX11_isSo_94 : decode cX11_isSo 94 = .ok (.iconst 1, 1) := by decide +kernel
theorem dX11_isSo_95 : decode cX11_isSo 95 = .ok (.goto 4, 3) := by decide +kernel
theorem dX11_isSo_98 : decode cX11_isSo 98 = .ok (.iconst 0, 1) := by decide +kernel
theorem dX11_isSo_99 : decode cX11_isSo 99 = .ok (.ireturn, 1) := by decide +kernel
theorem dX11_fitting_0 : decode cX11_fitting 0 = .ok (.aload_n 0, 1) := by decide +kernel
theorem dX11_fitting_1 : decode cX11_fitting 1 = .ok (.iconst 0, 1) := by decide +kernel
theorem dX11_fitting_2 : decode cX11_fitting 2 = .ok (.invokevirtual 273, 3) := by decide +kernel
theorem dX11_fitting_5 : decode cX11_fitting 5 = .ok (.iconst 0, 1) := by decide +kernel
theorem dX11_fitting_6 : decode cX11_fitting 6 = .ok (.istore_n 1, 1) := by decide +kernel
theorem dX11_fitting_7 : decode cX11_fitting 7 = .ok (.iconst 1, 1) := by decide +kernel
theorem dX11_fitting_8 : decode cX11_fitting 8 = .ok (.istore_n 2, 1) := by decide +kernel
theorem dX11_fitting_9 : decode cX11_fitting 9 = .ok (.iload_n 2, 1) := by decide +kernel
theorem dX11_fitting_10 : decode cX11_fitting 10 = .ok (.aload_n 0, 1) := by decide +kernel
theorem dX11_fitting_11 : decode cX11_fitting 11 = .ok (.getfield 28, 3) := by decide +kernel
theorem dX11_fitting_14 : decode cX11_fitting 14 = .ok (.if_icmp .ge 75, 3) := by decide +kernel
theorem dX11_fitting_17 : decode cX11_fitting 17 = .ok (.iconst 1, 1) := by decide +kernel
theorem dX11_fitting_18 : decode cX11_fitting 18 = .ok (.istore_n 3, 1) := by decide +kernel
theorem dX11_fitting_19 : decode cX11_fitting 19 = .ok (.iconst 0, 1) := by decide +kernel
theorem dX11_fitting_20 : decode cX11_fitting 20 = .ok (.istore 4, 2) := by decide +kernel
theorem dX11_fitting_22 : decode cX11_fitting 22 = .ok (.iload 4, 2) := by decide +kernel
theorem dX11_fitting_24 : decode cX11_fitting 24 = .ok (.aload_n 0, 1) := by decide +kernel
theorem dX11_fitting_25 : decode cX11_fitting 25 = .ok (.getfield 206, 3) := by decide +kernel
theorem dX11_fitting_28 : decode cX11_fitting 28 = .ok (.if_icmp .ge 41, 3) := by decide +kernel
theorem dX11_fitting_31 : decode cX11_fitting 31 = .ok (.iload_n 3, 1) := by decide +kernel
theorem dX11_fitting_32 : decode cX11_fitting 32 = .ok (.ifCond .eq 29, 3) := by decide +kernel
theorem dX11_fitting_35 : decode cX11_fitting 35 = .ok (.aload_n 0, 1) := by decide +kernel
theorem dX11_fitting_36 : decode cX11_fitting 36 = .ok (.iload_n 2, 1) := by decide +kernel
theorem dX11_fitting_37 : decode cX11_fitting 37 = .ok (.aload_n 0, 1) := by decide +kernel
theorem dX11_fitting_38 : decode cX11_fitting 38 = .ok (.getfield 110, 3) := by decide +kernel
theorem dX11_fitting_41 : decode cX11_fitting 41 = .ok (.iload 4, 2) := by decide +kernel
theorem dX11_fitting_43 : decode cX11_fitting 43 = .ok (.iaload, 1) := by decide +kernel
theorem dX11_fitting_44 : decode cX11_fitting 44 = .ok (.aload_n 0, 1) := by decide +kernel
theorem dX11_fitting_45 : decode cX11_fitting 45 = .ok (.getfield 113, 3) := by decide +kernel
theorem dX11_fitting_48 : decode cX11_fitting 48 = .ok (.iload 4, 2) := by decide +kernel
theorem dX11_fitting_50 : decode cX11_fitting 50 = .ok (.iaload, 1) := by decide +kernel
theorem dX11_fitting_51 : decode cX11_fitting 51 = .ok (.invokevirtual 463, 3) := by decide +kernel
theorem dX11_fitting_54 : decode cX11_fitting 54 = .ok (.ifCond .eq 7, 3) := by decide +kernel
theorem dX11_fitting_57 : decode cX11_fitting 57 = .ok (.iconst 1, 1) := by decide +kernel
theorem dX11_fitting_58 : decode cX11_fitting 58 = .ok (.goto 4, 3) := by decide +kernel
theorem dX11_fitting_61 : decode cX11_fitting 61 = .ok (.iconst 0, 1) := by decide +kernel
theorem dX11_fitting_62 : decode cX11_fitting 62 = .ok (.istore_n 3, 1) := by decide +kernel
theorem dX11_fitting_63 : decode cX11_fitting 63 = .ok (.iinc 4 1, 3) := by decide +kernel
theorem dX11_fitting_66 : decode cX11_fitting 66 = .ok (.goto (-44), 3) := by decide +kernel
theorem dX11_fitting_69 : decode cX11_fitting 69 = .ok (.iload_n 1, 1) := by decide +kernel
theorem dX11_fitting_70 : decode cX11_fitting 70 = .ok (.iload_n 3, 1) := by decide +kernel
theorem dX11_fitting_71 : decode cX11_fitting 71 = .ok (.ifCond .eq 9, 3) := by decide +kernel
theorem dX11_fitting_74 : decode cX11_fitting 74 = .ok (.iconst 1, 1) := by decide +kernel
theorem dX11_fitting_75 : decode cX11_fitting 75 = .ok (.iload_n 2, 1) := by decide +kernel
theorem dX11_fitting_76 : decode cX11_fitting 76 = .ok (.ishl, 1) := by decide +kernel
theorem dX11_fitting_77 : decode cX11_fitting 77 = .ok (.goto 4, 3) := by decide +kernel
theorem dX11_fitting_80 : decode cX11_fitting 80 = .ok (.iconst 0, 1) := by decide +kernel
theorem dX11_fitting_81 : decode cX11_fitting 81 = .ok (.ior, 1) := by decide +kernel
theorem dX11_fitting_82 : decode cX11_fitting 82 = .ok (.istore_n 1, 1) := by decide +kernel
theorem dX11_fitting_83 : decode cX11_fitting 83 = .ok (.iinc 2 1, 3) := by decide +kernel
theorem dX11_fitting_86 : decode cX11_fitting 86 = .ok (.goto (-77), 3) := by decide +kernel
theorem dX11_fitting_89 : decode cX11_fitting 89 = .ok (.iload_n 1, 1) := by decide +kernel
theorem dX11_fitting_90 : decode cX11_fitting 90 = .ok (.ireturn, 1) := by decide +kernel
theorem dX11_fits_0 : decode cX11_fits 0 = .ok (.aload_n 0, 1) := by decide +kernel
theorem dX11_fits_1 : decode cX11_fits 1 = .ok (.iconst 0, 1) := by decide +kernel
theorem dX11_fits_2 : decode cX11_fits 2 = .ok (.putfield 3, 3) := by decide +kernel
theorem dX11_fits_5 : decode cX11_fits 5 = .ok (.aload_n 0, 1) := by decide +kernel
theorem dX11_fits_6 : decode cX11_fits 6 = .ok (.invokevirtual 467, 3) := by decide +kernel
theorem dX11_fits_9 : decode cX11_fits 9 = .ok (.istore_n 1, 1) := by decide +kernel
theorem dX11_fits_10 : decode cX11_fits 10 = .ok (.aload_n 0, 1) := by decide +kernel
theorem dX11_fits_11 : decode cX11_fits 11 = .ok (.iconst 0, 1) := by decide +kernel
theorem dX11_fits_12 : decode cX11_fits 12 = .ok (.putfield 15, 3) := by decide +kernel
theorem dX11_fits_15 : decode cX11_fits 15 = .ok (.aload_n 0, 1) := by decide +kernel
theorem dX11_fits_16 : decode cX11_fits 16 = .ok (.iload_n 1, 1) := by decide +kernel
theorem dX11_fits_17 : decode cX11_fits 17 = .ok (.invokestatic 397, 3) := by decide +kernel
theorem dX11_fits_20 : decode cX11_fits 20 = .ok (.i2l, 1) := by decide +kernel
theorem dX11_fits_21 : decode cX11_fits 21 = .ok (.invokevirtual 18, 3) := by decide +kernel
theorem dX11_fits_24 : decode cX11_fits 24 = .ok (.iload_n 1, 1) := by decide +kernel
theorem dX11_fits_25 : decode cX11_fits 25 = .ok (.ireturn, 1) := by decide +kernel
theorem dX11_asks_0 : decode cX11_asks 0 = .ok (.aload_n 0, 1) := by decide +kernel
theorem dX11_asks_1 : decode cX11_asks 1 = .ok (.iconst 0, 1) := by decide +kernel
theorem dX11_asks_2 : decode cX11_asks 2 = .ok (.putfield 3, 3) := by decide +kernel
theorem dX11_asks_5 : decode cX11_asks 5 = .ok (.aload_n 0, 1) := by decide +kernel
theorem dX11_asks_6 : decode cX11_asks 6 = .ok (.invokevirtual 467, 3) := by decide +kernel
theorem dX11_asks_9 : decode cX11_asks 9 = .ok (.istore_n 1, 1) := by decide +kernel
theorem dX11_asks_10 : decode cX11_asks 10 = .ok (.iload_n 1, 1) := by decide +kernel
theorem dX11_asks_11 : decode cX11_asks 11 = .ok (.ifCond .ne 6, 3) := by decide +kernel
theorem dX11_asks_14 : decode cX11_asks 14 = .ok (.bipush (-2), 2) := by decide +kernel
theorem dX11_asks_16 : decode cX11_asks 16 = .ok (.ireturn, 1) := by decide +kernel
theorem dX11_asks_17 : decode cX11_asks 17 = .ok (.iconst (-1), 1) := by decide +kernel
theorem dX11_asks_18 : decode cX11_asks 18 = .ok (.istore_n 2, 1) := by decide +kernel
theorem dX11_asks_19 : decode cX11_asks 19 = .ok (.ldc_w 264, 3) := by decide +kernel
theorem dX11_asks_22 : decode cX11_asks 22 = .ok (.istore_n 3, 1) := by decide +kernel
theorem dX11_asks_23 : decode cX11_asks 23 = .ok (.iconst 0, 1) := by decide +kernel
theorem dX11_asks_24 : decode cX11_asks 24 = .ok (.istore 4, 2) := by decide +kernel
theorem dX11_asks_26 : decode cX11_asks 26 = .ok (.iload 4, 2) := by decide +kernel
theorem dX11_asks_28 : decode cX11_asks 28 = .ok (.iconst 4, 1) := by decide +kernel
theorem dX11_asks_29 : decode cX11_asks 29 = .ok (.if_icmp .ge 128, 3) := by decide +kernel
theorem dX11_asks_32 : decode cX11_asks 32 = .ok (.iload 4, 2) := by decide +kernel
theorem dX11_asks_34 : decode cX11_asks 34 = .ok (.invokestatic 457, 3) := by decide +kernel
theorem dX11_asks_37 : decode cX11_asks 37 = .ok (.istore 5, 2) := by decide +kernel
theorem dX11_asks_39 : decode cX11_asks 39 = .ok (.iload 5, 2) := by decide +kernel
theorem dX11_asks_41 : decode cX11_asks 41 = .ok (.iload 4, 2) := by decide +kernel
theorem dX11_asks_43 : decode cX11_asks 43 = .ok (.invokestatic 460, 3) := by decide +kernel
theorem dX11_asks_46 : decode cX11_asks 46 = .ok (.if_icmp .gt 105, 3) := by decide +kernel
theorem dX11_asks_49 : decode cX11_asks 49 = .ok (.iconst 0, 1) := by decide +kernel
theorem dX11_asks_50 : decode cX11_asks 50 = .ok (.istore 6, 2) := by decide +kernel
theorem dX11_asks_52 : decode cX11_asks 52 = .ok (.iconst 1, 1) := by decide +kernel
theorem dX11_asks_53 : decode cX11_asks 53 = .ok (.istore 7, 2) := by decide +kernel
theorem dX11_asks_55 : decode cX11_asks 55 = .ok (.iload 7, 2) := by decide +kernel
theorem dX11_asks_57 : decode cX11_asks 57 = .ok (.aload_n 0, 1) := by decide +kernel
theorem dX11_asks_58 : decode cX11_asks 58 = .ok (.getfield 28, 3) := by decide +kernel
theorem dX11_asks_61 : decode cX11_asks 61 = .ok (.if_icmp .ge 44, 3) := by decide +kernel
theorem dX11_asks_64 : decode cX11_asks 64 = .ok (.iload 6, 2) := by decide +kernel
theorem dX11_asks_66 : decode cX11_asks 66 = .ok (.iload_n 1, 1) := by decide +kernel
theorem dX11_asks_67 : decode cX11_asks 67 = .ok (.iload 7, 2) := by decide +kernel
theorem dX11_asks_69 : decode cX11_asks 69 = .ok (.invokestatic 183, 3) := by decide +kernel
theorem dX11_asks_72 : decode cX11_asks 72 = .ok (.ifCond .eq 20, 3) := by decide +kernel
theorem dX11_asks_75 : decode cX11_asks 75 = .ok (.aload_n 0, 1) := by decide +kernel
theorem dX11_asks_76 : decode cX11_asks 76 = .ok (.iload 7, 2) := by decide +kernel
theorem dX11_asks_78 : decode cX11_asks 78 = .ok (.iload 4, 2) := by decide +kernel
theorem dX11_asks_80 : decode cX11_asks 80 = .ok (.iload 5, 2) := by decide +kernel
theorem dX11_asks_82 : decode cX11_asks 82 = .ok (.invokevirtual 463, 3) := by decide +kernel
theorem dX11_asks_85 : decode cX11_asks 85 = .ok (.ifCond .eq 7, 3) := by decide +kernel
theorem dX11_asks_88 : decode cX11_asks 88 = .ok (.iconst 1, 1) := by decide +kernel
theorem dX11_asks_89 : decode cX11_asks 89 = .ok (.goto 4, 3) := by decide +kernel
theorem dX11_asks_92 : decode cX11_asks 92 = .ok (.iconst 0, 1) := by decide +kernel
theorem dX11_asks_93 : decode cX11_asks 93 = .ok (.invokestatic 151, 3) := by decide +kernel
theorem dX11_asks_96 : decode cX11_asks 96 = .ok (.iadd, 1) := by decide +kernel
theorem dX11_asks_97 : decode cX11_asks 97 = .ok (.istore 6, 2) := by decide +kernel
theorem dX11_asks_99 : decode cX11_asks 99 = .ok (.iinc 7 1, 3) := by decide +kernel
theorem dX11_asks_102 : decode cX11_asks 102 = .ok (.goto (-47), 3) := by decide +kernel
theorem dX11_asks_105 : decode cX11_asks 105 = .ok (.iload 6, 2) := by decide +kernel
theorem dX11_asks_107 : decode cX11_asks 107 = .ok (.iload_n 1, 1) := by decide +kernel
theorem dX11_asks_108 : decode cX11_asks 108 = .ok (.invokestatic 397, 3) := by decide +kernel
theorem dX11_asks_111 : decode cX11_asks 111 = .ok (.iload 6, 2) := by decide +kernel
theorem dX11_asks_113 : decode cX11_asks 113 = .ok (.isub, 1) := by decide +kernel
theorem dX11_asks_114 : decode cX11_asks 114 = .ok (.invokestatic 261, 3) := by decide +kernel
theorem dX11_asks_117 : decode cX11_asks 117 = .ok (.istore 7, 2) := by decide +kernel
theorem dX11_asks_119 : decode cX11_asks 119 = .ok (.iload 7, 2) := by decide +kernel
theorem dX11_asks_121 : decode cX11_asks 121 = .ok (.iload_n 3, 1) := by decide +kernel
theorem dX11_asks_122 : decode cX11_asks 122 = .ok (.if_icmp .ge 14, 3) := by decide +kernel
theorem dX11_asks_125 : decode cX11_asks 125 = .ok (.bipush 10, 2) := by decide +kernel
theorem dX11_asks_127 : decode cX11_asks 127 = .ok (.iload 4, 2) := by decide +kernel
theorem dX11_asks_129 : decode cX11_asks 129 = .ok (.imul, 1) := by decide +kernel
theorem dX11_asks_130 : decode cX11_asks 130 = .ok (.iload 5, 2) := by decide +kernel
theorem dX11_asks_132 : decode cX11_asks 132 = .ok (.iadd, 1) := by decide +kernel
theorem dX11_asks_133 : decode cX11_asks 133 = .ok (.goto 4, 3) := by decide +kernel
theorem dX11_asks_136 : decode cX11_asks 136 = .ok (.iload_n 2, 1) := by decide +kernel
theorem dX11_asks_137 : decode cX11_asks 137 = .ok (.istore_n 2, 1) := by decide +kernel
theorem dX11_asks_138 : decode cX11_asks 138 = .ok (.iload_n 3, 1) := by decide +kernel
theorem dX11_asks_139 : decode cX11_asks 139 = .ok (.iload 7, 2) := by decide +kernel
theorem dX11_asks_141 : decode cX11_asks 141 = .ok (.invokestatic 142, 3) := by decide +kernel
theorem dX11_asks_144 : decode cX11_asks 144 = .ok (.istore_n 3, 1) := by decide +kernel
theorem dX11_asks_145 : decode cX11_asks 145 = .ok (.iinc 5 1, 3) := by decide +kernel
theorem dX11_asks_148 : decode cX11_asks 148 = .ok (.goto (-109), 3) := by decide +kernel
theorem dX11_asks_151 : decode cX11_asks 151 = .ok (.iinc 4 1, 3) := by decide +kernel
theorem dX11_asks_154 : decode cX11_asks 154 = .ok (.goto (-128), 3) := by decide +kernel
theorem dX11_asks_157 : decode cX11_asks 157 = .ok (.aload_n 0, 1) := by decide +kernel
theorem dX11_asks_158 : decode cX11_asks 158 = .ok (.iconst 0, 1) := by decide +kernel
theorem dX11_asks_159 : decode cX11_asks 159 = .ok (.putfield 15, 3) := by decide +kernel
theorem dX11_asks_162 : decode cX11_asks 162 = .ok (.aload_n 0, 1) := by decide +kernel
theorem dX11_asks_163 : decode cX11_asks 163 = .ok (.iload_n 3, 1) := by decide +kernel
theorem dX11_asks_164 : decode cX11_asks 164 = .ok (.i2l, 1) := by decide +kernel
theorem dX11_asks_165 : decode cX11_asks 165 = .ok (.invokevirtual 18, 3) := by decide +kernel
theorem dX11_asks_168 : decode cX11_asks 168 = .ok (.iload_n 2, 1) := by decide +kernel
theorem dX11_asks_169 : decode cX11_asks 169 = .ok (.ireturn, 1) := by decide +kernel
theorem dX11_isGood_0 : decode cX11_isGood 0 = .ok (.iload_n 3, 1) := by decide +kernel
theorem dX11_isGood_1 : decode cX11_isGood 1 = .ok (.iload 4, 2) := by decide +kernel
theorem dX11_isGood_3 : decode cX11_isGood 3 = .ok (.iadd, 1) := by decide +kernel
theorem dX11_isGood_4 : decode cX11_isGood 4 = .ok (.ifCond .le 33, 3) := by decide +kernel
theorem dX11_isGood_7 : decode cX11_isGood 7 = .ok (.iload_n 3, 1) := by decide +kernel
theorem dX11_isGood_8 : decode cX11_isGood 8 = .ok (.ifCond .eq 14, 3) := by decide +kernel
theorem dX11_isGood_11 : decode cX11_isGood 11 = .ok (.iload 4, 2) := by decide +kernel
theorem dX11_isGood_13 : decode cX11_isGood 13 = .ok (.ifCond .eq 9, 3) := by decide +kernel
theorem dX11_isGood_16 : decode cX11_isGood 16 = .ok (.iload_n 3, 1) := by decide +kernel
theorem dX11_isGood_17 : decode cX11_isGood 17 = .ok (.iload 4, 2) := by decide +kernel
theorem dX11_isGood_19 : decode cX11_isGood 19 = .ok (.if_icmp .ne 18, 3) := by decide +kernel
theorem dX11_isGood_22 : decode cX11_isGood 22 = .ok (.iload_n 3, 1) := by decide +kernel
theorem dX11_isGood_23 : decode cX11_isGood 23 = .ok (.iload_n 1, 1) := by decide +kernel
theorem dX11_isGood_24 : decode cX11_isGood 24 = .ok (.if_icmp .gt 13, 3) := by decide +kernel
theorem dX11_isGood_27 : decode cX11_isGood 27 = .ok (.iload 4, 2) := by decide +kernel
theorem dX11_isGood_29 : decode cX11_isGood 29 = .ok (.iload_n 2, 1) := by decide +kernel
theorem dX11_isGood_30 : decode cX11_isGood 30 = .ok (.if_icmp .gt 7, 3) := by decide +kernel
theorem dX11_isGood_33 : decode cX11_isGood 33 = .ok (.iconst 1, 1) := by decide +kernel
theorem dX11_isGood_34 : decode cX11_isGood 34 = .ok (.goto 4, 3) := by decide +kernel
theorem dX11_isGood_37 : decode cX11_isGood 37 = .ok (.iconst 0, 1) := by decide +kernel
theorem dX11_isGood_38 : decode cX11_isGood 38 = .ok (.istore 5, 2) := by decide +kernel
theorem dX11_isGood_40 : decode cX11_isGood 40 = .ok (.iload 5, 2) := by decide +kernel
theorem dX11_isGood_42 : decode cX11_isGood 42 = .ok (.ifCond .eq 26, 3) := by decide +kernel
theorem dX11_isGood_45 : decode cX11_isGood 45 = .ok (.aload_n 0, 1) := by decide +kernel
theorem dX11_isGood_46 : decode cX11_isGood 46 = .ok (.getfield 116, 3) := by decide +kernel
theorem dX11_isGood_49 : decode cX11_isGood 49 = .ok (.bipush 31, 2) := by decide +kernel
theorem dX11_isGood_51 : decode cX11_isGood 51 = .ok (.iload_n 1, 1) := by decide +kernel
theorem dX11_isGood_52 : decode cX11_isGood 52 = .ok (.iload_n 3, 1) := by decide +kernel
theorem dX11_isGood_53 : decode cX11_isGood 53 = .ok (.isub, 1) := by decide +kernel
theorem dX11_isGood_54 : decode cX11_isGood 54 = .ok (.imul, 1) := by decide +kernel
theorem dX11_isGood_55 : decode cX11_isGood 55 = .ok (.iload_n 2, 1) := by decide +kernel
theorem dX11_isGood_56 : decode cX11_isGood 56 = .ok (.iadd, 1) := by decide +kernel
theorem dX11_isGood_57 : decode cX11_isGood 57 = .ok (.iload 4, 2) := by decide +kernel
theorem dX11_isGood_59 : decode cX11_isGood 59 = .ok (.isub, 1) := by decide +kernel
theorem dX11_isGood_60 : decode cX11_isGood 60 = .ok (.baload, 1) := by decide +kernel
theorem dX11_isGood_61 : decode cX11_isGood 61 = .ok (.ifCond .ne 7, 3) := by decide +kernel
theorem dX11_isGood_64 : decode cX11_isGood 64 = .ok (.iconst 1, 1) := by decide +kernel
theorem dX11_isGood_65 : decode cX11_isGood 65 = .ok (.goto 4, 3) := by decide +kernel
theorem dX11_isGood_68 : decode cX11_isGood 68 = .ok (.iconst 0, 1) := by decide +kernel
theorem dX11_isGood_69 : decode cX11_isGood 69 = .ok (.ireturn, 1) := by decide +kernel
theorem dX11_goodMove_0 : decode cX11_goodMove 0 = .ok (.iconst 0, 1) := by decide +kernel
theorem dX11_goodMove_1 : decode cX11_goodMove 1 = .ok (.istore_n 3, 1) := by decide +kernel
theorem dX11_goodMove_2 : decode cX11_goodMove 2 = .ok (.iload_n 3, 1) := by decide +kernel
theorem dX11_goodMove_3 : decode cX11_goodMove 3 = .ok (.iload_n 1, 1) := by decide +kernel
theorem dX11_goodMove_4 : decode cX11_goodMove 4 = .ok (.if_icmp .gt 44, 3) := by decide +kernel
theorem dX11_goodMove_7 : decode cX11_goodMove 7 = .ok (.iconst 0, 1) := by decide +kernel
theorem dX11_goodMove_8 : decode cX11_goodMove 8 = .ok (.istore 4, 2) := by decide +kernel
theorem dX11_goodMove_10 : decode cX11_goodMove 10 = .ok (.iload 4, 2) := by decide +kernel
theorem dX11_goodMove_12 : decode cX11_goodMove 12 = .ok (.iload_n 2, 1) := by decide +kernel
theorem dX11_goodMove_13 : decode cX11_goodMove 13 = .ok (.if_icmp .gt 29, 3) := by decide +kernel
theorem dX11_goodMove_16 : decode cX11_goodMove 16 = .ok (.aload_n 0, 1) := by decide +kernel
theorem dX11_goodMove_17 : decode cX11_goodMove 17 = .ok (.iload_n 1, 1) := by decide +kernel
theorem dX11_goodMove_18 : decode cX11_goodMove 18 = .ok (.iload_n 2, 1) := by decide +kernel
theorem dX11_goodMove_19 : decode cX11_goodMove 19 = .ok (.iload_n 3, 1) := by decide +kernel
theorem dX11_goodMove_20 : decode cX11_goodMove 20 = .ok (.iload 4, 2) := by decide +kernel
theorem dX11_goodMove_22 : decode cX11_goodMove 22 = .ok (.invokevirtual 470, 3) := by decide +kernel
theorem dX11_goodMove_25 : decode cX11_goodMove 25 = .ok (.ifCond .eq 11, 3) := by decide +kernel
theorem dX11_goodMove_28 : decode cX11_goodMove 28 = .ok (.bipush 31, 2) := by decide +kernel
theorem dX11_goodMove_30 : decode cX11_goodMove 30 = .ok (.iload_n 3, 1) := by decide +kernel
theorem dX11_goodMove_31 : decode cX11_goodMove 31 = .ok (.imul, 1) := by decide +kernel
theorem dX11_goodMove_32 : decode cX11_goodMove 32 = .ok (.iload 4, 2) := by decide +kernel
theorem dX11_goodMove_34 : decode cX11_goodMove 34 = .ok (.iadd, 1) := by decide +kernel
theorem dX11_goodMove_35 : decode cX11_goodMove 35 = .ok (.ireturn, 1) := by decide +kernel
theorem dX11_goodMove_36 : decode cX11_goodMove 36 = .ok (.iinc 4 1, 3) := by decide +kernel
theorem dX11_goodMove_39 : decode cX11_goodMove 39 = .ok (.goto (-29), 3) := by decide +kernel
theorem dX11_goodMove_42 : decode cX11_goodMove 42 = .ok (.iinc 3 1, 3) := by decide +kernel
theorem dX11_goodMove_45 : decode cX11_goodMove 45 = .ok (.goto (-43), 3) := by decide +kernel
theorem dX11_goodMove_48 : decode cX11_goodMove 48 = .ok (.iconst (-1), 1) := by decide +kernel
theorem dX11_goodMove_49 : decode cX11_goodMove 49 = .ok (.ireturn, 1) := by decide +kernel
theorem dX11_crowds_0 : decode cX11_crowds 0 = .ok (.aload_n 0, 1) := by decide +kernel
theorem dX11_crowds_1 : decode cX11_crowds 1 = .ok (.iconst 0, 1) := by decide +kernel
theorem dX11_crowds_2 : decode cX11_crowds 2 = .ok (.putfield 3, 3) := by decide +kernel
theorem dX11_crowds_5 : decode cX11_crowds 5 = .ok (.iload_n 1, 1) := by decide +kernel
theorem dX11_crowds_6 : decode cX11_crowds 6 = .ok (.i2l, 1) := by decide +kernel
theorem dX11_crowds_7 : decode cX11_crowds 7 = .ok (.lconst 0, 1) := by decide +kernel
theorem dX11_crowds_8 : decode cX11_crowds 8 = .ok (.ldc2_w 474, 3) := by decide +kernel
theorem dX11_crowds_11 : decode cX11_crowds 11 = .ok (.invokestatic 129, 3) := by decide +kernel
theorem dX11_crowds_14 : decode cX11_crowds 14 = .ok (.ifCond .eq 15, 3) := by decide +kernel
theorem dX11_crowds_17 : decode cX11_crowds 17 = .ok (.iload_n 2, 1) := by decide +kernel
theorem dX11_crowds_18 : decode cX11_crowds 18 = .ok (.i2l, 1) := by decide +kernel
theorem dX11_crowds_19 : decode cX11_crowds 19 = .ok (.lconst 0, 1) := by decide +kernel
theorem dX11_crowds_20 : decode cX11_crowds 20 = .ok (.ldc2_w 474, 3) := by decide +kernel
theorem dX11_crowds_23 : decode cX11_crowds 23 = .ok (.invokestatic 129, 3) := by decide +kernel
theorem dX11_crowds_26 : decode cX11_crowds 26 = .ok (.ifCond .ne 5, 3) := by decide +kernel
theorem dX11_crowds_29 : decode cX11_crowds 29 = .ok (.iconst (-1), 1) := by decide +kernel
theorem dX11_crowds_30 : decode cX11_crowds 30 = .ok (.ireturn, 1) := by decide +kernel
theorem dX11_crowds_31 : decode cX11_crowds 31 = .ok (.iconst 0, 1) := by decide +kernel
theorem dX11_crowds_32 : decode cX11_crowds 32 = .ok (.istore_n 3, 1) := by decide +kernel
theorem dX11_crowds_33 : decode cX11_crowds 33 = .ok (.iload_n 3, 1) := by decide +kernel
theorem dX11_crowds_34 : decode cX11_crowds 34 = .ok (.iload_n 1, 1) := by decide +kernel
theorem dX11_crowds_35 : decode cX11_crowds 35 = .ok (.if_icmp .gt 51, 3) := by decide +kernel
theorem dX11_crowds_38 : decode cX11_crowds 38 = .ok (.iconst 0, 1) := by decide +kernel
theorem dX11_crowds_39 : decode cX11_crowds 39 = .ok (.istore 4, 2) := by decide +kernel
theorem dX11_crowds_41 : decode cX11_crowds 41 = .ok (.iload 4, 2) := by decide +kernel
theorem dX11_crowds_43 : decode cX11_crowds 43 = .ok (.iload_n 2, 1) := by decide +kernel
theorem dX11_crowds_44 : decode cX11_crowds 44 = .ok (.if_icmp .gt 36, 3) := by decide +kernel
theorem dX11_crowds_47 : decode cX11_crowds 47 = .ok (.aload_n 0, 1) := by decide +kernel
theorem dX11_crowds_48 : decode cX11_crowds 48 = .ok (.getfield 116, 3) := by decide +kernel
theorem dX11_crowds_51 : decode cX11_crowds 51 = .ok (.bipush 31, 2) := by decide +kernel
theorem dX11_crowds_53 : decode cX11_crowds 53 = .ok (.iload_n 3, 1) := by decide +kernel
theorem dX11_crowds_54 : decode cX11_crowds 54 = .ok (.imul, 1) := by decide +kernel
theorem dX11_crowds_55 : decode cX11_crowds 55 = .ok (.iload 4, 2) := by decide +kernel
theorem dX11_crowds_57 : decode cX11_crowds 57 = .ok (.iadd, 1) := by decide +kernel
theorem dX11_crowds_58 : decode cX11_crowds 58 = .ok (.aload_n 0, 1) := by decide +kernel
theorem dX11_crowds_59 : decode cX11_crowds 59 = .ok (.iload_n 3, 1) := by decide +kernel
theorem dX11_crowds_60 : decode cX11_crowds 60 = .ok (.iload 4, 2) := by decide +kernel
theorem dX11_crowds_62 : decode cX11_crowds 62 = .ok (.invokevirtual 476, 3) := by decide +kernel
theorem dX11_crowds_65 : decode cX11_crowds 65 = .ok (.ifCond .le 7, 3) := by decide +kernel
theorem dX11_crowds_68 : decode cX11_crowds 68 = .ok (.iconst 1, 1) := by decide +kernel
theorem dX11_crowds_69 : decode cX11_crowds 69 = .ok (.goto 4, 3) := by decide +kernel
theorem dX11_crowds_72 : decode cX11_crowds 72 = .ok (.iconst 0, 1) := by decide +kernel
theorem dX11_crowds_73 : decode cX11_crowds 73 = .ok (.bastore, 1) := by decide +kernel
theorem dX11_crowds_74 : decode cX11_crowds 74 = .ok (.iinc 4 1, 3) := by decide +kernel
theorem dX11_crowds_77 : decode cX11_crowds 77 = .ok (.goto (-36), 3) := by decide +kernel
theorem dX11_crowds_80 : decode cX11_crowds 80 = .ok (.iinc 3 1, 3) := by decide +kernel
theorem dX11_crowds_83 : decode cX11_crowds 83 = .ok (.goto (-50), 3) := by decide +kernel
theorem dX11_crowds_86 : decode cX11_crowds 86 = .ok (.aload_n 0, 1) := by decide +kernel
theorem dX11_crowds_87 : decode cX11_crowds 87 = .ok (.iload_n 1, 1) := by decide +kernel
theorem dX11_crowds_88 : decode cX11_crowds 88 = .ok (.iload_n 2, 1) := by decide +kernel
theorem dX11_crowds_89 : decode cX11_crowds 89 = .ok (.invokevirtual 476, 3) := by decide +kernel
theorem dX11_crowds_92 : decode cX11_crowds 92 = .ok (.istore_n 3, 1) := by decide +kernel
theorem dX11_crowds_93 : decode cX11_crowds 93 = .ok (.aload_n 0, 1) := by decide +kernel
theorem dX11_crowds_94 : decode cX11_crowds 94 = .ok (.iconst 0, 1) := by decide +kernel
theorem dX11_crowds_95 : decode cX11_crowds 95 = .ok (.putfield 15, 3) := by decide +kernel
theorem dX11_crowds_98 : decode cX11_crowds 98 = .ok (.iload_n 3, 1) := by decide +kernel
theorem dX11_crowds_99 : decode cX11_crowds 99 = .ok (.ifCond .le 21, 3) := by decide +kernel
theorem dX11_crowds_102 : decode cX11_crowds 102 = .ok (.aload_n 0, 1) := by decide +kernel
theorem dX11_crowds_103 : decode cX11_crowds 103 = .ok (.iload_n 3, 1) := by decide +kernel
theorem dX11_crowds_104 : decode cX11_crowds 104 = .ok (.bipush 31, 2) := by decide +kernel
theorem dX11_crowds_106 : decode cX11_crowds 106 = .ok (.idiv, 1) := by decide +kernel
theorem dX11_crowds_107 : decode cX11_crowds 107 = .ok (.i2l, 1) := by decide +kernel
theorem dX11_crowds_108 : decode cX11_crowds 108 = .ok (.invokevirtual 18, 3) := by decide +kernel
theorem dX11_crowds_111 : decode cX11_crowds 111 = .ok (.aload_n 0, 1) := by decide +kernel
theorem dX11_crowds_112 : decode cX11_crowds 112 = .ok (.iload_n 3, 1) := by decide +kernel
theorem dX11_crowds_113 : decode cX11_crowds 113 = .ok (.bipush 31, 2) := by decide +kernel
theorem dX11_crowds_115 : decode cX11_crowds 115 = .ok (.irem, 1) := by decide +kernel
theorem dX11_crowds_116 : decode cX11_crowds 116 = .ok (.i2l, 1) := by decide +kernel
theorem dX11_crowds_117 : decode cX11_crowds 117 = .ok (.invokevirtual 18, 3) := by decide +kernel
theorem dX11_crowds_120 : decode cX11_crowds 120 = .ok (.iload_n 3, 1) := by decide +kernel
theorem dX11_crowds_121 : decode cX11_crowds 121 = .ok (.ifCond .le 7, 3) := by decide +kernel
theorem dX11_crowds_124 : decode cX11_crowds 124 = .ok (.iconst 1, 1) := by decide +kernel
theorem dX11_crowds_125 : decode cX11_crowds 125 = .ok (.goto 4, 3) := by decide +kernel
theorem dX11_crowds_128 : decode cX11_crowds 128 = .ok (.iconst 0, 1) := by decide +kernel
theorem dX11_crowds_129 : decode cX11_crowds 129 = .ok (.invokestatic 151, 3) := by decide +kernel
theorem dX11_crowds_132 : decode cX11_crowds 132 = .ok (.ireturn, 1) := by decide +kernel
theorem dX11_homeOfLast_0 : decode cX11_homeOfLast 0 = .ok (.aload_n 0, 1) := by decide +kernel
theorem dX11_homeOfLast_1 : decode cX11_homeOfLast 1 = .ok (.getfield 41, 3) := by decide +kernel
theorem dX11_homeOfLast_4 : decode cX11_homeOfLast 4 = .ok (.aload_n 0, 1) := by decide +kernel
theorem dX11_homeOfLast_5 : decode cX11_homeOfLast 5 = .ok (.getfield 38, 3) := by decide +kernel
theorem dX11_homeOfLast_8 : decode cX11_homeOfLast 8 = .ok (.invokestatic 307, 3) := by decide +kernel
theorem dX11_homeOfLast_11 : decode cX11_homeOfLast 11 = .ok (.aload_n 0, 1) := by decide +kernel
theorem dX11_homeOfLast_12 : decode cX11_homeOfLast 12 = .ok (.aload_n 0, 1) := by decide +kernel
theorem dX11_homeOfLast_13 : decode cX11_homeOfLast 13 = .ok (.getfield 28, 3) := by decide +kernel
theorem dX11_homeOfLast_16 : decode cX11_homeOfLast 16 = .ok (.iconst 1, 1) := by decide +kernel
theorem dX11_homeOfLast_17 : decode cX11_homeOfLast 17 = .ok (.isub, 1) := by decide +kernel
theorem dX11_homeOfLast_18 : decode cX11_homeOfLast 18 = .ok (.invokevirtual 368, 3) := by decide +kernel
theorem dX11_homeOfLast_21 : decode cX11_homeOfLast 21 = .ok (.istore_n 1, 1) := by decide +kernel
theorem dX11_homeOfLast_22 : decode cX11_homeOfLast 22 = .ok (.iload_n 1, 1) := by decide +kernel
theorem dX11_homeOfLast_23 : decode cX11_homeOfLast 23 = .ok (.ifCond .ge 9, 3) := by decide +kernel
theorem dX11_homeOfLast_26 : decode cX11_homeOfLast 26 = .ok (.sipush 1000, 3) := by decide +kernel
theorem dX11_homeOfLast_29 : decode cX11_homeOfLast 29 = .ok (.goto 4, 3) := by decide +kernel
theorem dX11_homeOfLast_32 : decode cX11_homeOfLast 32 = .ok (.iload_n 1, 1) := by decide +kernel
theorem dX11_homeOfLast_33 : decode cX11_homeOfLast 33 = .ok (.ireturn, 1) := by decide +kernel
theorem dX11_law_0 : decode cX11_law 0 = .ok (.aload_n 0, 1) := by decide +kernel
theorem dX11_law_1 : decode cX11_law 1 = .ok (.iconst 0, 1) := by decide +kernel
theorem dX11_law_2 : decode cX11_law 2 = .ok (.putfield 3, 3) := by decide +kernel
theorem dX11_law_5 : decode cX11_law 5 = .ok (.aload_n 0, 1) := by decide +kernel
theorem dX11_law_6 : decode cX11_law 6 = .ok (.invokevirtual 244, 3) := by decide +kernel
theorem dX11_law_9 : decode cX11_law 9 = .ok (.istore_n 1, 1) := by decide +kernel
theorem dX11_law_10 : decode cX11_law 10 = .ok (.iload_n 1, 1) := by decide +kernel
theorem dX11_law_11 : decode cX11_law 11 = .ok (.ifCond .ge 11, 3) := by decide +kernel
theorem dX11_law_14 : decode cX11_law 14 = .ok (.iload_n 1, 1) := by decide +kernel
theorem dX11_law_15 : decode cX11_law 15 = .ok (.iconst 1, 1) := by decide +kernel
theorem dX11_law_16 : decode cX11_law 16 = .ok (.iadd, 1) := by decide +kernel
theorem dX11_law_17 : decode cX11_law 17 = .ok (.sipush 10000, 3) := by decide +kernel
theorem dX11_law_20 : decode cX11_law 20 = .ok (.isub, 1) := by decide +kernel
theorem dX11_law_21 : decode cX11_law 21 = .ok (.ireturn, 1) := by decide +kernel
theorem dX11_law_22 : decode cX11_law 22 = .ok (.aload_n 0, 1) := by decide +kernel
theorem dX11_law_23 : decode cX11_law 23 = .ok (.invokevirtual 479, 3) := by decide +kernel
theorem dX11_law_26 : decode cX11_law 26 = .ok (.istore_n 2, 1) := by decide +kernel
theorem dX11_law_27 : decode cX11_law 27 = .ok (.aload_n 0, 1) := by decide +kernel
theorem dX11_law_28 : decode cX11_law 28 = .ok (.getfield 241, 3) := by decide +kernel
theorem dX11_law_31 : decode cX11_law 31 = .ok (.istore_n 3, 1) := by decide +kernel
theorem dX11_law_32 : decode cX11_law 32 = .ok (.iconst 0, 1) := by decide +kernel
theorem dX11_law_33 : decode cX11_law 33 = .ok (.istore 4, 2) := by decide +kernel
theorem dX11_law_35 : decode cX11_law 35 = .ok (.iload 4, 2) := by decide +kernel
theorem dX11_law_37 : decode cX11_law 37 = .ok (.aload_n 0, 1) := by decide +kernel
theorem dX11_law_38 : decode cX11_law 38 = .ok (.getfield 241, 3) := by decide +kernel
theorem dX11_law_41 : decode cX11_law 41 = .ok (.if_icmp .ge 23, 3) := by decide +kernel
theorem dX11_law_44 : decode cX11_law 44 = .ok (.aload_n 0, 1) := by decide +kernel
theorem dX11_law_45 : decode cX11_law 45 = .ok (.getfield 120, 3) := by decide +kernel
theorem dX11_law_48 : decode cX11_law 48 = .ok (.iload 4, 2) := by decide +kernel
theorem dX11_law_50 : decode cX11_law 50 = .ok (.aload_n 0, 1) := by decide +kernel
theorem dX11_law_51 : decode cX11_law 51 = .ok (.getfield 53, 3) := by decide +kernel
theorem dX11_law_54 : decode cX11_law 54 = .ok (.iload 4, 2) := by decide +kernel
theorem dX11_law_56 : decode cX11_law 56 = .ok (.iaload, 1) := by decide +kernel
theorem dX11_law_57 : decode cX11_law 57 = .ok (.iastore, 1) := by decide +kernel
theorem dX11_law_58 : decode cX11_law 58 = .ok (.iinc 4 1, 3) := by decide +kernel
theorem dX11_law_61 : decode cX11_law 61 = .ok (.goto (-26), 3) := by decide +kernel
theorem dX11_law_64 : decode cX11_law 64 = .ok (.aload_n 0, 1) := by decide +kernel
theorem dX11_law_65 : decode cX11_law 65 = .ok (.aload_n 0, 1) := by decide +kernel
theorem dX11_law_66 : decode cX11_law 66 = .ok (.getfield 56, 3) := by decide +kernel
theorem dX11_law_69 : decode cX11_law 69 = .ok (.aload_n 0, 1) := by decide +kernel
theorem dX11_law_70 : decode cX11_law 70 = .ok (.getfield 209, 3) := by decide +kernel
theorem dX11_law_73 : decode cX11_law 73 = .ok (.invokevirtual 247, 3) := by decide +kernel
theorem dX11_law_76 : decode cX11_law 76 = .ok (.aload_n 0, 1) := by decide +kernel
theorem dX11_law_77 : decode cX11_law 77 = .ok (.invokevirtual 479, 3) := by decide +kernel
theorem dX11_law_80 : decode cX11_law 80 = .ok (.istore 4, 2) := by decide +kernel
theorem dX11_law_82 : decode cX11_law 82 = .ok (.aload_n 0, 1) := by decide +kernel
theorem dX11_law_83 : decode cX11_law 83 = .ok (.aload_n 0, 1) := by decide +kernel
theorem dX11_law_84 : decode cX11_law 84 = .ok (.getfield 120, 3) := by decide +kernel
theorem dX11_law_87 : decode cX11_law 87 = .ok (.iload_n 3, 1) := by decide +kernel
theorem dX11_law_88 : decode cX11_law 88 = .ok (.invokevirtual 247, 3) := by decide +kernel
theorem dX11_law_91 : decode cX11_law 91 = .ok (.aload_n 0, 1) := by decide +kernel
theorem dX11_law_92 : decode cX11_law 92 = .ok (.iconst 0, 1) := by decide +kernel
theorem dX11_law_93 : decode cX11_law 93 = .ok (.putfield 15, 3) := by decide +kernel
theorem dX11_law_96 : decode cX11_law 96 = .ok (.aload_n 0, 1) := by decide +kernel
theorem dX11_law_97 : decode cX11_law 97 = .ok (.iload 4, 2) := by decide +kernel
theorem dX11_law_99 : decode cX11_law 99 = .ok (.i2l, 1) := by decide +kernel
theorem dX11_law_100 : decode cX11_law 100 = .ok (.invokevirtual 18, 3) := by decide +kernel
theorem dX11_law_103 : decode cX11_law 103 = .ok (.aload_n 0, 1) := by decide +kernel
theorem dX11_law_104 : decode cX11_law 104 = .ok (.iload_n 2, 1) := by decide +kernel
theorem dX11_law_105 : decode cX11_law 105 = .ok (.i2l, 1) := by decide +kernel
theorem dX11_law_106 : decode cX11_law 106 = .ok (.invokevirtual 18, 3) := by decide +kernel
theorem dX11_law_109 : decode cX11_law 109 = .ok (.iload 4, 2) := by decide +kernel
theorem dX11_law_111 : decode cX11_law 111 = .ok (.iload_n 2, 1) := by decide +kernel
theorem dX11_law_112 : decode cX11_law 112 = .ok (.isub, 1) := by decide +kernel
theorem dX11_law_113 : decode cX11_law 113 = .ok (.ireturn, 1) := by decide +kernel
theorem dX11_costs_0 : decode cX11_costs 0 = .ok (.iload_n 0, 1) := by decide +kernel
theorem dX11_costs_1 : decode cX11_costs 1 = .ok (.iload_n 0, 1) := by decide +kernel
theorem dX11_costs_2 : decode cX11_costs 2 = .ok (.iload_n 2, 1) := by decide +kernel
theorem dX11_costs_3 : decode cX11_costs 3 = .ok (.if_icmp .ge 8, 3) := by decide +kernel
theorem dX11_costs_6 : decode cX11_costs 6 = .ok (.bipush 6, 2) := by decide +kernel
theorem dX11_costs_8 : decode cX11_costs 8 = .ok (.goto 4, 3) := by decide +kernel
theorem dX11_costs_11 : decode cX11_costs 11 = .ok (.iconst 0, 1) := by decide +kernel
theorem dX11_costs_12 : decode cX11_costs 12 = .ok (.iadd, 1) := by decide +kernel
theorem dX11_costs_13 : decode cX11_costs 13 = .ok (.iload_n 0, 1) := by decide +kernel
theorem dX11_costs_14 : decode cX11_costs 14 = .ok (.iload_n 1, 1) := by decide +kernel
theorem dX11_costs_15 : decode cX11_costs 15 = .ok (.if_icmp .le 7, 3) := by decide +kernel
theorem dX11_costs_18 : decode cX11_costs 18 = .ok (.iconst 2, 1) := by decide +kernel
theorem dX11_costs_19 : decode cX11_costs 19 = .ok (.goto 4, 3) := by decide +kernel
theorem dX11_costs_22 : decode cX11_costs 22 = .ok (.iconst 0, 1) := by decide +kernel
theorem dX11_costs_23 : decode cX11_costs 23 = .ok (.iadd, 1) := by decide +kernel
theorem dX11_costs_24 : decode cX11_costs 24 = .ok (.ireturn, 1) := by decide +kernel
theorem dX11_isRest_0 : decode cX11_isRest 0 = .ok (.iconst 1, 1) := by decide +kernel
theorem dX11_isRest_1 : decode cX11_isRest 1 = .ok (.istore_n 3, 1) := by decide +kernel
theorem dX11_isRest_2 : decode cX11_isRest 2 = .ok (.iconst 0, 1) := by decide +kernel
theorem dX11_isRest_3 : decode cX11_isRest 3 = .ok (.istore 4, 2) := by decide +kernel
theorem dX11_isRest_5 : decode cX11_isRest 5 = .ok (.iload 4, 2) := by decide +kernel
theorem dX11_isRest_7 : decode cX11_isRest 7 = .ok (.bipush 9, 2) := by decide +kernel
theorem dX11_isRest_9 : decode cX11_isRest 9 = .ok (.if_icmp .gt 35, 3) := by decide +kernel
theorem dX11_isRest_12 : decode cX11_isRest 12 = .ok (.iload_n 3, 1) := by decide +kernel
theorem dX11_isRest_13 : decode cX11_isRest 13 = .ok (.ifCond .eq 23, 3) := by decide +kernel
theorem dX11_isRest_16 : decode cX11_isRest 16 = .ok (.iload 4, 2) := by decide +kernel
theorem dX11_isRest_18 : decode cX11_isRest 18 = .ok (.iload_n 1, 1) := by decide +kernel
theorem dX11_isRest_19 : decode cX11_isRest 19 = .ok (.iload_n 2, 1) := by decide +kernel
theorem dX11_isRest_20 : decode cX11_isRest 20 = .ok (.invokestatic 482, 3) := by decide +kernel
theorem dX11_isRest_23 : decode cX11_isRest 23 = .ok (.iload_n 0, 1) := by decide +kernel
theorem dX11_isRest_24 : decode cX11_isRest 24 = .ok (.iload_n 1, 1) := by decide +kernel
theorem dX11_isRest_25 : decode cX11_isRest 25 = .ok (.iload_n 2, 1) := by decide +kernel
theorem dX11_isRest_26 : decode cX11_isRest 26 = .ok (.invokestatic 482, 3) := by decide +kernel
theorem dX11_isRest_29 : decode cX11_isRest 29 = .ok (.if_icmp .lt 7, 3) := by decide +kernel
theorem dX11_isRest_32 : decode cX11_isRest 32 = .ok (.iconst 1, 1) := by decide +kernel
theorem dX11_isRest_33 : decode cX11_isRest 33 = .ok (.goto 4, 3) := by decide +kernel
theorem dX11_isRest_36 : decode cX11_isRest 36 = .ok (.iconst 0, 1) := by decide +kernel
theorem dX11_isRest_37 : decode cX11_isRest 37 = .ok (.istore_n 3, 1) := by decide +kernel
theorem dX11_isRest_38 : decode cX11_isRest 38 = .ok (.iinc 4 1, 3) := by decide +kernel
theorem dX11_isRest_41 : decode cX11_isRest 41 = .ok (.goto (-36), 3) := by decide +kernel
theorem dX11_isRest_44 : decode cX11_isRest 44 = .ok (.iload_n 3, 1) := by decide +kernel
theorem dX11_isRest_45 : decode cX11_isRest 45 = .ok (.ireturn, 1) := by decide +kernel
theorem dX11_waits_0 : decode cX11_waits 0 = .ok (.aload_n 0, 1) := by decide +kernel
theorem dX11_waits_1 : decode cX11_waits 1 = .ok (.iconst 0, 1) := by decide +kernel
theorem dX11_waits_2 : decode cX11_waits 2 = .ok (.putfield 3, 3) := by decide +kernel
theorem dX11_waits_5 : decode cX11_waits 5 = .ok (.iload_n 1, 1) := by decide +kernel
theorem dX11_waits_6 : decode cX11_waits 6 = .ok (.i2l, 1) := by decide +kernel
theorem dX11_waits_7 : decode cX11_waits 7 = .ok (.lconst 0, 1) := by decide +kernel
theorem dX11_waits_8 : decode cX11_waits 8 = .ok (.ldc2_w 485, 3) := by decide +kernel
theorem dX11_waits_11 : decode cX11_waits 11 = .ok (.invokestatic 129, 3) := by decide +kernel
theorem dX11_waits_14 : decode cX11_waits 14 = .ok (.ifCond .ne 5, 3) := by decide +kernel
theorem dX11_waits_17 : decode cX11_waits 17 = .ok (.iconst (-1), 1) := by decide +kernel
theorem dX11_waits_18 : decode cX11_waits 18 = .ok (.ireturn, 1) := by decide +kernel
theorem dX11_waits_19 : decode cX11_waits 19 = .ok (.iconst 0, 1) := by decide +kernel
theorem dX11_waits_20 : decode cX11_waits 20 = .ok (.istore_n 2, 1) := by decide +kernel
theorem dX11_waits_21 : decode cX11_waits 21 = .ok (.aload_n 0, 1) := by decide +kernel
theorem dX11_waits_22 : decode cX11_waits 22 = .ok (.iconst 0, 1) := by decide +kernel
theorem dX11_waits_23 : decode cX11_waits 23 = .ok (.putfield 15, 3) := by decide +kernel
theorem dX11_waits_26 : decode cX11_waits 26 = .ok (.iconst 0, 1) := by decide +kernel
theorem dX11_waits_27 : decode cX11_waits 27 = .ok (.istore_n 3, 1) := by decide +kernel
theorem dX11_waits_28 : decode cX11_waits 28 = .ok (.iload_n 3, 1) := by decide +kernel
theorem dX11_waits_29 : decode cX11_waits 29 = .ok (.bipush 9, 2) := by decide +kernel
theorem dX11_waits_31 : decode cX11_waits 31 = .ok (.if_icmp .gt 65, 3) := by decide +kernel
theorem dX11_waits_34 : decode cX11_waits 34 = .ok (.iconst 0, 1) := by decide +kernel
theorem dX11_waits_35 : decode cX11_waits 35 = .ok (.istore 4, 2) := by decide +kernel
theorem dX11_waits_37 : decode cX11_waits 37 = .ok (.iload 4, 2) := by decide +kernel
theorem dX11_waits_39 : decode cX11_waits 39 = .ok (.bipush 9, 2) := by decide +kernel
theorem dX11_waits_41 : decode cX11_waits 41 = .ok (.if_icmp .gt 49, 3) := by decide +kernel
theorem dX11_waits_44 : decode cX11_waits 44 = .ok (.iload_n 3, 1) := by decide +kernel
theorem dX11_waits_45 : decode cX11_waits 45 = .ok (.iload 4, 2) := by decide +kernel
theorem dX11_waits_47 : decode cX11_waits 47 = .ok (.iload_n 1, 1) := by decide +kernel
theorem dX11_waits_48 : decode cX11_waits 48 = .ok (.invokestatic 487, 3) := by decide +kernel
theorem dX11_waits_51 : decode cX11_waits 51 = .ok (.ifCond .eq 33, 3) := by decide +kernel
theorem dX11_waits_54 : decode cX11_waits 54 = .ok (.iload 4, 2) := by decide +kernel
theorem dX11_waits_56 : decode cX11_waits 56 = .ok (.iload_n 3, 1) := by decide +kernel
theorem dX11_waits_57 : decode cX11_waits 57 = .ok (.iload_n 1, 1) := by decide +kernel
theorem dX11_waits_58 : decode cX11_waits 58 = .ok (.invokestatic 487, 3) := by decide +kernel
theorem dX11_waits_61 : decode cX11_waits 61 = .ok (.ifCond .eq 23, 3) := by decide +kernel
theorem dX11_waits_64 : decode cX11_waits 64 = .ok (.iload_n 2, 1) := by decide +kernel
theorem dX11_waits_65 : decode cX11_waits 65 = .ok (.ifCond .ne 16, 3) := by decide +kernel
theorem dX11_waits_68 : decode cX11_waits 68 = .ok (.aload_n 0, 1) := by decide +kernel
theorem dX11_waits_69 : decode cX11_waits 69 = .ok (.iload_n 3, 1) := by decide +kernel
theorem dX11_waits_70 : decode cX11_waits 70 = .ok (.i2l, 1) := by decide +kernel
theorem dX11_waits_71 : decode cX11_waits 71 = .ok (.invokevirtual 18, 3) := by decide +kernel
theorem dX11_waits_74 : decode cX11_waits 74 = .ok (.aload_n 0, 1) := by decide +kernel
theorem dX11_waits_75 : decode cX11_waits 75 = .ok (.iload 4, 2) := by decide +kernel
theorem dX11_waits_77 : decode cX11_waits 77 = .ok (.i2l, 1) := by decide +kernel
theorem dX11_waits_78 : decode cX11_waits 78 = .ok (.invokevirtual 18, 3) := by decide +kernel
theorem dX11_waits_81 : decode cX11_waits 81 = .ok (.iinc 2 1, 3) := by decide +kernel
theorem dX11_waits_84 : decode cX11_waits 84 = .ok (.iinc 4 1, 3) := by decide +kernel
theorem dX11_waits_87 : decode cX11_waits 87 = .ok (.goto (-50), 3) := by decide +kernel
theorem dX11_waits_90 : decode cX11_waits 90 = .ok (.iinc 3 1, 3) := by decide +kernel
theorem dX11_waits_93 : decode cX11_waits 93 = .ok (.goto (-65), 3) := by decide +kernel
theorem dX11_waits_96 : decode cX11_waits 96 = .ok (.iload_n 2, 1) := by decide +kernel
theorem dX11_waits_97 : decode cX11_waits 97 = .ok (.ireturn, 1) := by decide +kernel
theorem dX11_draws_0 : decode cX11_draws 0 = .ok (.aload_n 0, 1) := by decide +kernel
theorem dX11_draws_1 : decode cX11_draws 1 = .ok (.aload_n 0, 1) := by decide +kernel
theorem dX11_draws_2 : decode cX11_draws 2 = .ok (.getfield 490, 3) := by decide +kernel
theorem dX11_draws_5 : decode cX11_draws 5 = .ok (.ldc_w 493, 3) := by decide +kernel
theorem dX11_draws_8 : decode cX11_draws 8 = .ok (.imul, 1) := by decide +kernel
theorem dX11_draws_9 : decode cX11_draws 9 = .ok (.sipush 12345, 3) := by decide +kernel
theorem dX11_draws_12 : decode cX11_draws 12 = .ok (.iadd, 1) := by decide +kernel
theorem dX11_draws_13 : decode cX11_draws 13 = .ok (.putfield 490, 3) := by decide +kernel
theorem dX11_draws_16 : decode cX11_draws 16 = .ok (.aload_n 0, 1) := by decide +kernel
theorem dX11_draws_17 : decode cX11_draws 17 = .ok (.getfield 490, 3) := by decide +kernel
theorem dX11_draws_20 : decode cX11_draws 20 = .ok (.bipush 16, 2) := by decide +kernel
theorem dX11_draws_22 : decode cX11_draws 22 = .ok (.iushr, 1) := by decide +kernel
theorem dX11_draws_23 : decode cX11_draws 23 = .ok (.iload_n 1, 1) := by decide +kernel
theorem dX11_draws_24 : decode cX11_draws 24 = .ok (.irem, 1) := by decide +kernel
theorem dX11_draws_25 : decode cX11_draws 25 = .ok (.ireturn, 1) := by decide +kernel
theorem dX11_innOf_0 : decode cX11_innOf 0 = .ok (.iconst 0, 1) := by decide +kernel
theorem dX11_innOf_1 : decode cX11_innOf 1 = .ok (.istore_n 2, 1) := by decide +kernel
theorem dX11_innOf_2 : decode cX11_innOf 2 = .ok (.iconst 0, 1) := by decide +kernel
theorem dX11_innOf_3 : decode cX11_innOf 3 = .ok (.istore_n 3, 1) := by decide +kernel
theorem dX11_innOf_4 : decode cX11_innOf 4 = .ok (.iload_n 3, 1) := by decide +kernel
theorem dX11_innOf_5 : decode cX11_innOf 5 = .ok (.aload_n 0, 1) := by decide +kernel
theorem dX11_innOf_6 : decode cX11_innOf 6 = .ok (.getfield 31, 3) := by decide +kernel
theorem dX11_innOf_9 : decode cX11_innOf 9 = .ok (.iload_n 1, 1) := by decide +kernel
theorem dX11_innOf_10 : decode cX11_innOf 10 = .ok (.iaload, 1) := by decide +kernel
theorem dX11_innOf_11 : decode cX11_innOf 11 = .ok (.if_icmp .ge 29, 3) := by decide +kernel
theorem dX11_innOf_14 : decode cX11_innOf 14 = .ok (.iload_n 2, 1) := by decide +kernel
theorem dX11_innOf_15 : decode cX11_innOf 15 = .ok (.aload_n 0, 1) := by decide +kernel
theorem dX11_innOf_16 : decode cX11_innOf 16 = .ok (.iload_n 1, 1) := by decide +kernel
theorem dX11_innOf_17 : decode cX11_innOf 17 = .ok (.iload_n 3, 1) := by decide +kernel
theorem dX11_innOf_18 : decode cX11_innOf 18 = .ok (.invokevirtual 255, 3) := by decide +kernel
theorem dX11_innOf_21 : decode cX11_innOf 21 = .ok (.ifCond .ne 7, 3) := by decide +kernel
theorem dX11_innOf_24 : decode cX11_innOf 24 = .ok (.iconst 1, 1) := by decide +kernel
theorem dX11_innOf_25 : decode cX11_innOf 25 = .ok (.goto 4, 3) := by decide +kernel
theorem dX11_innOf_28 : decode cX11_innOf 28 = .ok (.iconst 0, 1) := by decide +kernel
theorem dX11_innOf_29 : decode cX11_innOf 29 = .ok (.invokestatic 151, 3) := by decide +kernel
theorem dX11_innOf_32 : decode cX11_innOf 32 = .ok (.iadd, 1) := by decide +kernel
theorem dX11_innOf_33 : decode cX11_innOf 33 = .ok (.istore_n 2, 1) := by decide +kernel
theorem dX11_innOf_34 : decode cX11_innOf 34 = .ok (.iinc 3 1, 3) := by decide +kernel
theorem dX11_innOf_37 : decode cX11_innOf 37 = .ok (.goto (-33), 3) := by decide +kernel
theorem dX11_innOf_40 : decode cX11_innOf 40 = .ok (.iload_n 2, 1) := by decide +kernel
theorem dX11_innOf_41 : decode cX11_innOf 41 = .ok (.ireturn, 1) := by decide +kernel
theorem dX11_years_0 : decode cX11_years 0 = .ok (.aload_n 0, 1) := by decide +kernel
theorem dX11_years_1 : decode cX11_years 1 = .ok (.iconst 0, 1) := by decide +kernel
theorem dX11_years_2 : decode cX11_years 2 = .ok (.putfield 3, 3) := by decide +kernel
theorem dX11_years_5 : decode cX11_years 5 = .ok (.iload_n 2, 1) := by decide +kernel
theorem dX11_years_6 : decode cX11_years 6 = .ok (.i2l, 1) := by decide +kernel
theorem dX11_years_7 : decode cX11_years 7 = .ok (.lconst 1, 1) := by decide +kernel
theorem dX11_years_8 : decode cX11_years 8 = .ok (.ldc2_w 371, 3) := by decide +kernel
theorem dX11_years_11 : decode cX11_years 11 = .ok (.invokestatic 129, 3) := by decide +kernel
theorem dX11_years_14 : decode cX11_years 14 = .ok (.ifCond .ne 5, 3) := by decide +kernel
theorem dX11_years_17 : decode cX11_years 17 = .ok (.iconst (-1), 1) := by decide +kernel
theorem dX11_years_18 : decode cX11_years 18 = .ok (.ireturn, 1) := by decide +kernel
theorem dX11_years_19 : decode cX11_years 19 = .ok (.aload_n 0, 1) := by decide +kernel
theorem dX11_years_20 : decode cX11_years 20 = .ok (.iload_n 1, 1) := by decide +kernel
theorem dX11_years_21 : decode cX11_years 21 = .ok (.putfield 490, 3) := by decide +kernel
theorem dX11_years_24 : decode cX11_years 24 = .ok (.aload_n 0, 1) := by decide +kernel
theorem dX11_years_25 : decode cX11_years 25 = .ok (.getfield 41, 3) := by decide +kernel
theorem dX11_years_28 : decode cX11_years 28 = .ok (.aload_n 0, 1) := by decide +kernel
theorem dX11_years_29 : decode cX11_years 29 = .ok (.getfield 38, 3) := by decide +kernel
theorem dX11_years_32 : decode cX11_years 32 = .ok (.invokestatic 307, 3) := by decide +kernel
theorem dX11_years_35 : decode cX11_years 35 = .ok (.iconst 0, 1) := by decide +kernel
theorem dX11_years_36 : decode cX11_years 36 = .ok (.istore_n 3, 1) := by decide +kernel
theorem dX11_years_37 : decode cX11_years 37 = .ok (.iconst 0, 1) := by decide +kernel
theorem dX11_years_38 : decode cX11_years 38 = .ok (.istore 4, 2) := by decide +kernel
theorem dX11_years_40 : decode cX11_years 40 = .ok (.iconst 0, 1) := by decide +kernel
theorem dX11_years_41 : decode cX11_years 41 = .ok (.istore 5, 2) := by decide +kernel
theorem dX11_years_43 : decode cX11_years 43 = .ok (.iload 5, 2) := by decide +kernel
theorem dX11_years_45 : decode cX11_years 45 = .ok (.iload_n 2, 1) := by decide +kernel
theorem dX11_years_46 : decode cX11_years 46 = .ok (.if_icmp .ge 132, 3) := by decide +kernel
theorem dX11_years_49 : decode cX11_years 49 = .ok (.aload_n 0, 1) := by decide +kernel
theorem dX11_years_50 : decode cX11_years 50 = .ok (.iconst 4, 1) := by decide +kernel
theorem dX11_years_51 : decode cX11_years 51 = .ok (.invokevirtual 494, 3) := by decide +kernel
theorem dX11_years_54 : decode cX11_years 54 = .ok (.istore 6, 2) := by decide +kernel
theorem dX11_years_56 : decode cX11_years 56 = .ok (.iconst 1, 1) := by decide +kernel
theorem dX11_years_57 : decode cX11_years 57 = .ok (.aload_n 0, 1) := by decide +kernel
theorem dX11_years_58 : decode cX11_years 58 = .ok (.aload_n 0, 1) := by decide +kernel
theorem dX11_years_59 : decode cX11_years 59 = .ok (.getfield 28, 3) := by decide +kernel
theorem dX11_years_62 : decode cX11_years 62 = .ok (.iconst 1, 1) := by decide +kernel
theorem dX11_years_63 : decode cX11_years 63 = .ok (.isub, 1) := by decide +kernel
theorem dX11_years_64 : decode cX11_years 64 = .ok (.invokevirtual 494, 3) := by decide +kernel
theorem dX11_years_67 : decode cX11_years 67 = .ok (.iadd, 1) := by decide +kernel
theorem dX11_years_68 : decode cX11_years 68 = .ok (.istore 7, 2) := by decide +kernel
theorem dX11_years_70 : decode cX11_years 70 = .ok (.iload 6, 2) := by decide +kernel
theorem dX11_years_72 : decode cX11_years 72 = .ok (.iconst 2, 1) := by decide +kernel
theorem dX11_years_73 : decode cX11_years 73 = .ok (.if_icmp .ge 18, 3) := by decide +kernel
theorem dX11_years_76 : decode cX11_years 76 = .ok (.aload_n 0, 1) := by decide +kernel
theorem dX11_years_77 : decode cX11_years 77 = .ok (.aload_n 0, 1) := by decide +kernel
theorem dX11_years_78 : decode cX11_years 78 = .ok (.getfield 41, 3) := by decide +kernel
theorem dX11_years_81 : decode cX11_years 81 = .ok (.iload 7, 2) := by decide +kernel
theorem dX11_years_83 : decode cX11_years 83 = .ok (.iconst 1, 1) := by decide +kernel
theorem dX11_years_84 : decode cX11_years 84 = .ok (.invokevirtual 323, 3) := by decide +kernel
theorem dX11_years_87 : decode cX11_years 87 = .ok (.pop, 1) := by decide +kernel
theorem dX11_years_88 : decode cX11_years 88 = .ok (.goto 84, 3) := by decide +kernel
theorem dX11_years_91 : decode cX11_years 91 = .ok (.iload 6, 2) := by decide +kernel
theorem dX11_years_93 : decode cX11_years 93 = .ok (.iconst 2, 1) := by decide +kernel
theorem dX11_years_94 : decode cX11_years 94 = .ok (.if_icmp .ne 52, 3) := by decide +kernel
theorem dX11_years_97 : decode cX11_years 97 = .ok (.aload_n 0, 1) := by decide +kernel
theorem dX11_years_98 : decode cX11_years 98 = .ok (.aload_n 0, 1) := by decide +kernel
theorem dX11_years_99 : decode cX11_years 99 = .ok (.getfield 41, 3) := by decide +kernel
theorem dX11_years_102 : decode cX11_years 102 = .ok (.iload 7, 2) := by decide +kernel
theorem dX11_years_104 : decode cX11_years 104 = .ok (.invokevirtual 330, 3) := by decide +kernel
theorem dX11_years_107 : decode cX11_years 107 = .ok (.istore 8, 2) := by decide +kernel
theorem dX11_years_109 : decode cX11_years 109 = .ok (.iload_n 3, 1) := by decide +kernel
theorem dX11_years_110 : decode cX11_years 110 = .ok (.iload 8, 2) := by decide +kernel
theorem dX11_years_112 : decode cX11_years 112 = .ok (.ifCond .ne 7, 3) := by decide +kernel
theorem dX11_years_115 : decode cX11_years 115 = .ok (.iconst 1, 1) := by decide +kernel
theorem dX11_years_116 : decode cX11_years 116 = .ok (.goto 4, 3) := by decide +kernel
theorem dX11_years_119 : decode cX11_years 119 = .ok (.iconst 0, 1) := by decide +kernel
theorem dX11_years_120 : decode cX11_years 120 = .ok (.invokestatic 151, 3) := by decide +kernel
theorem dX11_years_123 : decode cX11_years 123 = .ok (.iadd, 1) := by decide +kernel
theorem dX11_years_124 : decode cX11_years 124 = .ok (.istore_n 3, 1) := by decide +kernel
theorem dX11_years_125 : decode cX11_years 125 = .ok (.iload 4, 2) := by decide +kernel
theorem dX11_years_127 : decode cX11_years 127 = .ok (.iload 8, 2) := by decide +kernel
theorem dX11_years_129 : decode cX11_years 129 = .ok (.ifCond .lt 7, 3) := by decide +kernel
theorem dX11_years_132 : decode cX11_years 132 = .ok (.iconst 1, 1) := by decide +kernel
theorem dX11_years_133 : decode cX11_years 133 = .ok (.goto 4, 3) := by decide +kernel
theorem dX11_years_136 : decode cX11_years 136 = .ok (.iconst 0, 1) := by decide +kernel
theorem dX11_years_137 : decode cX11_years 137 = .ok (.invokestatic 151, 3) := by decide +kernel
theorem dX11_years_140 : decode cX11_years 140 = .ok (.iadd, 1) := by decide +kernel
theorem dX11_years_141 : decode cX11_years 141 = .ok (.istore 4, 2) := by decide +kernel
theorem dX11_years_143 : decode cX11_years 143 = .ok (.goto 29, 3) := by decide +kernel
theorem dX11_years_146 : decode cX11_years 146 = .ok (.iload_n 3, 1) := by decide +kernel
theorem dX11_years_147 : decode cX11_years 147 = .ok (.aload_n 0, 1) := by decide +kernel
theorem dX11_years_148 : decode cX11_years 148 = .ok (.aload_n 0, 1) := by decide +kernel
theorem dX11_years_149 : decode cX11_years 149 = .ok (.getfield 41, 3) := by decide +kernel
theorem dX11_years_152 : decode cX11_years 152 = .ok (.iload 7, 2) := by decide +kernel
theorem dX11_years_154 : decode cX11_years 154 = .ok (.invokevirtual 336, 3) := by decide +kernel
theorem dX11_years_157 : decode cX11_years 157 = .ok (.ifCond .lt 12, 3) := by decide +kernel
theorem dX11_years_160 : decode cX11_years 160 = .ok (.aload_n 0, 1) := by decide +kernel
theorem dX11_years_161 : decode cX11_years 161 = .ok (.iload 7, 2) := by decide +kernel
theorem dX11_years_163 : decode cX11_years 163 = .ok (.invokevirtual 497, 3) := by decide +kernel
theorem dX11_years_166 : decode cX11_years 166 = .ok (.goto 4, 3) := by decide +kernel
theorem dX11_years_169 : decode cX11_years 169 = .ok (.iconst 0, 1) := by decide +kernel
theorem dX11_years_170 : decode cX11_years 170 = .ok (.iadd, 1) := by decide +kernel
theorem dX11_years_171 : decode cX11_years 171 = .ok (.istore_n 3, 1) := by decide +kernel
theorem dX11_years_172 : decode cX11_years 172 = .ok (.iinc 5 1, 3) := by decide +kernel
theorem dX11_years_175 : decode cX11_years 175 = .ok (.goto (-132), 3) := by decide +kernel
theorem dX11_years_178 : decode cX11_years 178 = .ok (.aload_n 0, 1) := by decide +kernel
theorem dX11_years_179 : decode cX11_years 179 = .ok (.iconst 0, 1) := by decide +kernel
theorem dX11_years_180 : decode cX11_years 180 = .ok (.putfield 15, 3) := by decide +kernel
theorem dX11_years_183 : decode cX11_years 183 = .ok (.aload_n 0, 1) := by decide +kernel
theorem dX11_years_184 : decode cX11_years 184 = .ok (.aload_n 0, 1) := by decide +kernel
theorem dX11_years_185 : decode cX11_years 185 = .ok (.aload_n 0, 1) := by decide +kernel
theorem dX11_years_186 : decode cX11_years 186 = .ok (.getfield 41, 3) := by decide +kernel
theorem dX11_years_189 : decode cX11_years 189 = .ok (.invokevirtual 285, 3) := by decide +kernel
theorem dX11_years_192 : decode cX11_years 192 = .ok (.i2l, 1) := by decide +kernel
theorem dX11_years_193 : decode cX11_years 193 = .ok (.invokevirtual 18, 3) := by decide +kernel
theorem dX11_years_196 : decode cX11_years 196 = .ok (.aload_n 0, 1) := by decide +kernel
theorem dX11_years_197 : decode cX11_years 197 = .ok (.iload 4, 2) := by decide +kernel
theorem dX11_years_199 : decode cX11_years 199 = .ok (.i2l, 1) := by decide +kernel
theorem dX11_years_200 : decode cX11_years 200 = .ok (.invokevirtual 18, 3) := by decide +kernel
theorem dX11_years_203 : decode cX11_years 203 = .ok (.iload_n 3, 1) := by decide +kernel
theorem dX11_years_204 : decode cX11_years 204 = .ok (.ireturn, 1) := by decide +kernel
theorem dX11_keep_0 : decode cX11_keep 0 = .ok (.aload_n 0, 1) := by decide +kernel
theorem dX11_keep_1 : decode cX11_keep 1 = .ok (.iconst 0, 1) := by decide +kernel
theorem dX11_keep_2 : decode cX11_keep 2 = .ok (.putfield 3, 3) := by decide +kernel
theorem dX11_keep_5 : decode cX11_keep 5 = .ok (.iload_n 1, 1) := by decide +kernel
theorem dX11_keep_6 : decode cX11_keep 6 = .ok (.i2l, 1) := by decide +kernel
theorem dX11_keep_7 : decode cX11_keep 7 = .ok (.lconst 0, 1) := by decide +kernel
theorem dX11_keep_8 : decode cX11_keep 8 = .ok (.ldc2_w 446, 3) := by decide +kernel
theorem dX11_keep_11 : decode cX11_keep 11 = .ok (.invokestatic 129, 3) := by decide +kernel
theorem dX11_keep_14 : decode cX11_keep 14 = .ok (.ifCond .ne 5, 3) := by decide +kernel
theorem dX11_keep_17 : decode cX11_keep 17 = .ok (.iconst 0, 1) := by decide +kernel
theorem dX11_keep_18 : decode cX11_keep 18 = .ok (.ireturn, 1) := by decide +kernel
theorem dX11_keep_19 : decode cX11_keep 19 = .ok (.aload_n 0, 1) := by decide +kernel
theorem dX11_keep_20 : decode cX11_keep 20 = .ok (.getfield 123, 3) := by decide +kernel
theorem dX11_keep_23 : decode cX11_keep 23 = .ok (.iload_n 1, 1) := by decide +kernel
theorem dX11_keep_24 : decode cX11_keep 24 = .ok (.iconst 1, 1) := by decide +kernel
theorem dX11_keep_25 : decode cX11_keep 25 = .ok (.bastore, 1) := by decide +kernel
theorem dX11_keep_26 : decode cX11_keep 26 = .ok (.iconst 0, 1) := by decide +kernel
theorem dX11_keep_27 : decode cX11_keep 27 = .ok (.istore_n 2, 1) := by decide +kernel
theorem dX11_keep_28 : decode cX11_keep 28 = .ok (.iload_n 2, 1) := by decide +kernel
theorem dX11_keep_29 : decode cX11_keep 29 = .ok (.bipush 17, 2) := by decide +kernel
theorem dX11_keep_31 : decode cX11_keep 31 = .ok (.if_icmp .ge 26, 3) := by decide +kernel
theorem dX11_keep_34 : decode cX11_keep 34 = .ok (.aload_n 0, 1) := by decide +kernel
theorem dX11_keep_35 : decode cX11_keep 35 = .ok (.getfield 126, 3) := by decide +kernel
theorem dX11_keep_38 : decode cX11_keep 38 = .ok (.bipush 17, 2) := by decide +kernel
theorem dX11_keep_40 : decode cX11_keep 40 = .ok (.iload_n 1, 1) := by decide +kernel
theorem dX11_keep_41 : decode cX11_keep 41 = .ok (.imul, 1) := by decide +kernel
theorem dX11_keep_42 : decode cX11_keep 42 = .ok (.iload_n 2, 1) := by decide +kernel
theorem dX11_keep_43 : decode cX11_keep 43 = .ok (.iadd, 1) := by decide +kernel
theorem dX11_keep_44 : decode cX11_keep 44 = .ok (.aload_n 0, 1) := by decide +kernel
theorem dX11_keep_45 : decode cX11_keep 45 = .ok (.getfield 38, 3) := by decide +kernel
theorem dX11_keep_48 : decode cX11_keep 48 = .ok (.iload_n 2, 1) := by decide +kernel
theorem dX11_keep_49 : decode cX11_keep 49 = .ok (.iaload, 1) := by decide +kernel
theorem dX11_keep_50 : decode cX11_keep 50 = .ok (.iastore, 1) := by decide +kernel
theorem dX11_keep_51 : decode cX11_keep 51 = .ok (.iinc 2 1, 3) := by decide +kernel
theorem dX11_keep_54 : decode cX11_keep 54 = .ok (.goto (-26), 3) := by decide +kernel
theorem dX11_keep_57 : decode cX11_keep 57 = .ok (.iconst 1, 1) := by decide +kernel
theorem dX11_keep_58 : decode cX11_keep 58 = .ok (.ireturn, 1) := by decide +kernel
theorem dX11_again_0 : decode cX11_again 0 = .ok (.aload_n 0, 1) := by decide +kernel
theorem dX11_again_1 : decode cX11_again 1 = .ok (.iconst 0, 1) := by decide +kernel
theorem dX11_again_2 : decode cX11_again 2 = .ok (.putfield 3, 3) := by decide +kernel
theorem dX11_again_5 : decode cX11_again 5 = .ok (.iload_n 1, 1) := by decide +kernel
theorem dX11_again_6 : decode cX11_again 6 = .ok (.i2l, 1) := by decide +kernel
theorem dX11_again_7 : decode cX11_again 7 = .ok (.lconst 0, 1) := by decide +kernel
theorem dX11_again_8 : decode cX11_again 8 = .ok (.ldc2_w 446, 3) := by decide +kernel
theorem dX11_again_11 : decode cX11_again 11 = .ok (.invokestatic 129, 3) := by decide +kernel
theorem dX11_again_14 : decode cX11_again 14 = .ok (.ifCond .eq 12, 3) := by decide +kernel
theorem dX11_again_17 : decode cX11_again 17 = .ok (.aload_n 0, 1) := by decide +kernel
theorem dX11_again_18 : decode cX11_again 18 = .ok (.getfield 123, 3) := by decide +kernel
theorem dX11_again_21 : decode cX11_again 21 = .ok (.iload_n 1, 1) := by decide +kernel
theorem dX11_again_22 : decode cX11_again 22 = .ok (.baload, 1) := by decide +kernel
theorem dX11_again_23 : decode cX11_again 23 = .ok (.ifCond .ne 5, 3) := by decide +kernel
theorem dX11_again_26 : decode cX11_again 26 = .ok (.iconst 0, 1) := by decide +kernel
theorem dX11_again_27 : decode cX11_again 27 = .ok (.ireturn, 1) := by decide +kernel
theorem dX11_again_28 : decode cX11_again 28 = .ok (.iconst 0, 1) := by decide +kernel
theorem dX11_again_29 : decode cX11_again 29 = .ok (.istore_n 2, 1) := by decide +kernel
theorem dX11_again_30 : decode cX11_again 30 = .ok (.iload_n 2, 1) := by decide +kernel
theorem dX11_again_31 : decode cX11_again 31 = .ok (.bipush 17, 2) := by decide +kernel
theorem dX11_again_33 : decode cX11_again 33 = .ok (.if_icmp .ge 26, 3) := by decide +kernel
theorem dX11_again_36 : decode cX11_again 36 = .ok (.aload_n 0, 1) := by decide +kernel
theorem dX11_again_37 : decode cX11_again 37 = .ok (.getfield 38, 3) := by decide +kernel
theorem dX11_again_40 : decode cX11_again 40 = .ok (.iload_n 2, 1) := by decide +kernel
theorem dX11_again_41 : decode cX11_again 41 = .ok (.aload_n 0, 1) := by decide +kernel
theorem dX11_again_42 : decode cX11_again 42 = .ok (.getfield 126, 3) := by decide +kernel
theorem dX11_again_45 : decode cX11_again 45 = .ok (.bipush 17, 2) := by decide +kernel
theorem dX11_again_47 : decode cX11_again 47 = .ok (.iload_n 1, 1) := by decide +kernel
theorem dX11_again_48 : decode cX11_again 48 = .ok (.imul, 1) := by decide +kernel
theorem dX11_again_49 : decode cX11_again 49 = .ok (.iload_n 2, 1) := by decide +kernel
theorem dX11_again_50 : decode cX11_again 50 = .ok (.iadd, 1) := by decide +kernel
theorem dX11_again_51 : decode cX11_again 51 = .ok (.iaload, 1) := by decide +kernel
theorem dX11_again_52 : decode cX11_again 52 = .ok (.iastore, 1) := by decide +kernel
theorem dX11_again_53 : decode cX11_again 53 = .ok (.iinc 2 1, 3) := by decide +kernel
theorem dX11_again_56 : decode cX11_again 56 = .ok (.goto (-26), 3) := by decide +kernel
theorem dX11_again_59 : decode cX11_again 59 = .ok (.aload_n 0, 1) := by decide +kernel
theorem dX11_again_60 : decode cX11_again 60 = .ok (.iconst 0, 1) := by decide +kernel
theorem dX11_again_61 : decode cX11_again 61 = .ok (.putfield 200, 3) := by decide +kernel
theorem dX11_again_64 : decode cX11_again 64 = .ok (.iconst 1, 1) := by decide +kernel
theorem dX11_again_65 : decode cX11_again 65 = .ok (.ireturn, 1) := by decide +kernel
theorem dX11_count_0 : decode cX11_count 0 = .ok (.aload_n 0, 1) := by decide +kernel
theorem dX11_count_1 : decode cX11_count 1 = .ok (.iconst 0, 1) := by decide +kernel
theorem dX11_count_2 : decode cX11_count 2 = .ok (.putfield 3, 3) := by decide +kernel
theorem dX11_count_5 : decode cX11_count 5 = .ok (.iconst 0, 1) := by decide +kernel
theorem dX11_count_6 : decode cX11_count 6 = .ok (.istore_n 2, 1) := by decide +kernel
theorem dX11_count_7 : decode cX11_count 7 = .ok (.iconst 0, 1) := by decide +kernel
theorem dX11_count_8 : decode cX11_count 8 = .ok (.istore_n 3, 1) := by decide +kernel
theorem dX11_count_9 : decode cX11_count 9 = .ok (.iconst 1, 1) := by decide +kernel
theorem dX11_count_10 : decode cX11_count 10 = .ok (.istore 4, 2) := by decide +kernel
theorem dX11_count_12 : decode cX11_count 12 = .ok (.iload 4, 2) := by decide +kernel
theorem dX11_count_14 : decode cX11_count 14 = .ok (.aload_n 0, 1) := by decide +kernel
theorem dX11_count_15 : decode cX11_count 15 = .ok (.getfield 28, 3) := by decide +kernel
theorem dX11_count_18 : decode cX11_count 18 = .ok (.if_icmp .ge 43, 3) := by decide +kernel
theorem dX11_count_21 : decode cX11_count 21 = .ok (.iload_n 2, 1) := by decide +kernel
theorem dX11_count_22 : decode cX11_count 22 = .ok (.aload_n 0, 1) := by decide +kernel
theorem dX11_count_23 : decode cX11_count 23 = .ok (.getfield 31, 3) := by decide +kernel
theorem dX11_count_26 : decode cX11_count 26 = .ok (.iload 4, 2) := by decide +kernel
theorem dX11_count_28 : decode cX11_count 28 = .ok (.iaload, 1) := by decide +kernel
theorem dX11_count_29 : decode cX11_count 29 = .ok (.iadd, 1) := by decide +kernel
theorem dX11_count_30 : decode cX11_count 30 = .ok (.istore_n 2, 1) := by decide +kernel
theorem dX11_count_31 : decode cX11_count 31 = .ok (.iload_n 3, 1) := by decide +kernel
theorem dX11_count_32 : decode cX11_count 32 = .ok (.aload_n 0, 1) := by decide +kernel
theorem dX11_count_33 : decode cX11_count 33 = .ok (.getfield 38, 3) := by decide +kernel
theorem dX11_count_36 : decode cX11_count 36 = .ok (.bipush 8, 2) := by decide +kernel
theorem dX11_count_38 : decode cX11_count 38 = .ok (.iload 4, 2) := by decide +kernel
theorem dX11_count_40 : decode cX11_count 40 = .ok (.iadd, 1) := by decide +kernel
theorem dX11_count_41 : decode cX11_count 41 = .ok (.iaload, 1) := by decide +kernel
theorem dX11_count_42 : decode cX11_count 42 = .ok (.ifCond .le 10, 3) := by decide +kernel
theorem dX11_count_45 : decode cX11_count 45 = .ok (.iconst 1, 1) := by decide +kernel
theorem dX11_count_46 : decode cX11_count 46 = .ok (.iload 4, 2) := by decide +kernel
theorem dX11_count_48 : decode cX11_count 48 = .ok (.ishl, 1) := by decide +kernel
theorem dX11_count_49 : decode cX11_count 49 = .ok (.goto 4, 3) := by decide +kernel
theorem dX11_count_52 : decode cX11_count 52 = .ok (.iconst 0, 1) := by decide +kernel
theorem dX11_count_53 : decode cX11_count 53 = .ok (.ior, 1) := by decide +kernel
theorem dX11_count_54 : decode cX11_count 54 = .ok (.istore_n 3, 1) := by decide +kernel
theorem dX11_count_55 : decode cX11_count 55 = .ok (.iinc 4 1, 3) := by decide +kernel
theorem dX11_count_58 : decode cX11_count 58 = .ok (.goto (-46), 3) := by decide +kernel
theorem dX11_count_61 : decode cX11_count 61 = .ok (.iload_n 1, 1) := by decide +kernel
theorem dX11_count_62 : decode cX11_count 62 = .ok (.tableswitch 117 0 10 #[58, 63, 65, 73, 81, 90, 92, 97, 102, 107, 112], 58) := by decide +kernel
theorem dX11_count_120 : decode cX11_count 120 = .ok (.aload_n 0, 1) := by decide +kernel
theorem dX11_count_121 : decode cX11_count 121 = .ok (.getfield 28, 3) := by decide +kernel
theorem dX11_count_124 : decode cX11_count 124 = .ok (.ireturn, 1) := by decide +kernel
theorem dX11_count_125 : decode cX11_count 125 = .ok (.iload_n 2, 1) := by decide +kernel
theorem dX11_count_126 : decode cX11_count 126 = .ok (.ireturn, 1) := by decide +kernel
theorem dX11_count_127 : decode cX11_count 127 = .ok (.aload_n 0, 1) := by decide +kernel
theorem dX11_count_128 : decode cX11_count 128 = .ok (.getfield 38, 3) := by decide +kernel
theorem dX11_count_131 : decode cX11_count 131 = .ok (.bipush 8, 2) := by decide +kernel
theorem dX11_count_133 : decode cX11_count 133 = .ok (.iaload, 1) := by decide +kernel
theorem dX11_count_134 : decode cX11_count 134 = .ok (.ireturn, 1) := by decide +kernel
theorem dX11_count_135 : decode cX11_count 135 = .ok (.aload_n 0, 1) := by decide +kernel
theorem dX11_count_136 : decode cX11_count 136 = .ok (.getfield 38, 3) := by decide +kernel
theorem dX11_count_139 : decode cX11_count 139 = .ok (.bipush 16, 2) := by decide +kernel
theorem dX11_count_141 : decode cX11_count 141 = .ok (.iaload, 1) := by decide +kernel
theorem dX11_count_142 : decode cX11_count 142 = .ok (.ireturn, 1) := by decide +kernel
theorem dX11_count_143 : decode cX11_count 143 = .ok (.aload_n 0, 1) := by decide +kernel
theorem dX11_count_144 : decode cX11_count 144 = .ok (.aload_n 0, 1) := by decide +kernel
theorem dX11_count_145 : decode cX11_count 145 = .ok (.getfield 38, 3) := by decide +kernel
theorem dX11_count_148 : decode cX11_count 148 = .ok (.invokevirtual 285, 3) := by decide +kernel
theorem dX11_count_151 : decode cX11_count 151 = .ok (.ireturn, 1) := by decide +kernel
theorem dX11_count_152 : decode cX11_count 152 = .ok (.iload_n 3, 1) := by decide +kernel
theorem dX11_count_153 : decode cX11_count 153 = .ok (.ireturn, 1) := by decide +kernel
theorem dX11_count_154 : decode cX11_count 154 = .ok (.aload_n 0, 1) := by decide +kernel
theorem dX11_count_155 : decode cX11_count 155 = .ok (.getfield 203, 3) := by decide +kernel
theorem dX11_count_158 : decode cX11_count 158 = .ok (.ireturn, 1) := by decide +kernel
theorem dX11_count_159 : decode cX11_count 159 = .ok (.aload_n 0, 1) := by decide +kernel
theorem dX11_count_160 : decode cX11_count 160 = .ok (.getfield 206, 3) := by decide +kernel
theorem dX11_count_163 : decode cX11_count 163 = .ok (.ireturn, 1) := by decide +kernel
theorem dX11_count_164 : decode cX11_count 164 = .ok (.aload_n 0, 1) := by decide +kernel
theorem dX11_count_165 : decode cX11_count 165 = .ok (.getfield 200, 3) := by decide +kernel
theorem dX11_count_168 : decode cX11_count 168 = .ok (.ireturn, 1) := by decide +kernel
theorem dX11_count_169 : decode cX11_count 169 = .ok (.aload_n 0, 1) := by decide +kernel
theorem dX11_count_170 : decode cX11_count 170 = .ok (.getfield 15, 3) := by decide +kernel
theorem dX11_count_173 : decode cX11_count 173 = .ok (.ireturn, 1) := by decide +kernel
theorem dX11_count_174 : decode cX11_count 174 = .ok (.aload_n 0, 1) := by decide +kernel
theorem dX11_count_175 : decode cX11_count 175 = .ok (.getfield 133, 3) := by decide +kernel
theorem dX11_count_178 : decode cX11_count 178 = .ok (.ireturn, 1) := by decide +kernel
theorem dX11_count_179 : decode cX11_count 179 = .ok (.bipush (-100), 2) := by decide +kernel
theorem dX11_count_181 : decode cX11_count 181 = .ok (.ireturn, 1) := by decide +kernel
theorem dX11_row_0 : decode cX11_row 0 = .ok (.aload_n 0, 1) := by decide +kernel
theorem dX11_row_1 : decode cX11_row 1 = .ok (.iconst 0, 1) := by decide +kernel
theorem dX11_row_2 : decode cX11_row 2 = .ok (.putfield 3, 3) := by decide +kernel
theorem dX11_row_5 : decode cX11_row 5 = .ok (.iload_n 1, 1) := by decide +kernel
theorem dX11_row_6 : decode cX11_row 6 = .ok (.i2l, 1) := by decide +kernel
theorem dX11_row_7 : decode cX11_row 7 = .ok (.lconst 0, 1) := by decide +kernel
theorem dX11_row_8 : decode cX11_row 8 = .ok (.aload_n 0, 1) := by decide +kernel
theorem dX11_row_9 : decode cX11_row 9 = .ok (.getfield 15, 3) := by decide +kernel
theorem dX11_row_12 : decode cX11_row 12 = .ok (.iconst 1, 1) := by decide +kernel
theorem dX11_row_13 : decode cX11_row 13 = .ok (.isub, 1) := by decide +kernel
theorem dX11_row_14 : decode cX11_row 14 = .ok (.i2l, 1) := by decide +kernel
theorem dX11_row_15 : decode cX11_row 15 = .ok (.invokestatic 129, 3) := by decide +kernel
theorem dX11_row_18 : decode cX11_row 18 = .ok (.ifCond .ne 10, 3) := by decide +kernel
theorem dX11_row_21 : decode cX11_row 21 = .ok (.aload_n 0, 1) := by decide +kernel
theorem dX11_row_22 : decode cX11_row 22 = .ok (.iconst 1, 1) := by decide +kernel
theorem dX11_row_23 : decode cX11_row 23 = .ok (.putfield 3, 3) := by decide +kernel
theorem dX11_row_26 : decode cX11_row 26 = .ok (.lconst 0, 1) := by decide +kernel
theorem dX11_row_27 : decode cX11_row 27 = .ok (.lreturn, 1) := by decide +kernel
theorem dX11_row_28 : decode cX11_row 28 = .ok (.aload_n 0, 1) := by decide +kernel
theorem dX11_row_29 : decode cX11_row 29 = .ok (.getfield 11, 3) := by decide +kernel
theorem dX11_row_32 : decode cX11_row 32 = .ok (.iload_n 1, 1) := by decide +kernel
theorem dX11_row_33 : decode cX11_row 33 = .ok (.laload, 1) := by decide +kernel
theorem dX11_row_34 : decode cX11_row 34 = .ok (.lreturn, 1) := by decide +kernel
theorem dJ6_numberOfTrailingZeros_0f7a4_0 : decode cJ6_numberOfTrailingZeros_0f7a4 0 = .ok (.iload_n 0, 1) := by decide +kernel
theorem dJ6_numberOfTrailingZeros_0f7a4_1 : decode cJ6_numberOfTrailingZeros_0f7a4 1 = .ok (.iconst (-1), 1) := by decide +kernel
theorem dJ6_numberOfTrailingZeros_0f7a4_2 : decode cJ6_numberOfTrailingZeros_0f7a4 2 = .ok (.ixor, 1) := by decide +kernel
theorem dJ6_numberOfTrailingZeros_0f7a4_3 : decode cJ6_numberOfTrailingZeros_0f7a4 3 = .ok (.iload_n 0, 1) := by decide +kernel
theorem dJ6_numberOfTrailingZeros_0f7a4_4 : decode cJ6_numberOfTrailingZeros_0f7a4 4 = .ok (.iconst 1, 1) := by decide +kernel
theorem dJ6_numberOfTrailingZeros_0f7a4_5 : decode cJ6_numberOfTrailingZeros_0f7a4 5 = .ok (.isub, 1) := by decide +kernel
theorem dJ6_numberOfTrailingZeros_0f7a4_6 : decode cJ6_numberOfTrailingZeros_0f7a4 6 = .ok (.iand, 1) := by decide +kernel
theorem dJ6_numberOfTrailingZeros_0f7a4_7 : decode cJ6_numberOfTrailingZeros_0f7a4 7 = .ok (.istore_n 0, 1) := by decide +kernel
theorem dJ6_numberOfTrailingZeros_0f7a4_8 : decode cJ6_numberOfTrailingZeros_0f7a4 8 = .ok (.iload_n 0, 1) := by decide +kernel
theorem dJ6_numberOfTrailingZeros_0f7a4_9 : decode cJ6_numberOfTrailingZeros_0f7a4 9 = .ok (.ifCond .gt 8, 3) := by decide +kernel
theorem dJ6_numberOfTrailingZeros_0f7a4_12 : decode cJ6_numberOfTrailingZeros_0f7a4 12 = .ok (.iload_n 0, 1) := by decide +kernel
theorem dJ6_numberOfTrailingZeros_0f7a4_13 : decode cJ6_numberOfTrailingZeros_0f7a4 13 = .ok (.bipush 32, 2) := by decide +kernel
theorem dJ6_numberOfTrailingZeros_0f7a4_15 : decode cJ6_numberOfTrailingZeros_0f7a4 15 = .ok (.iand, 1) := by decide +kernel
theorem dJ6_numberOfTrailingZeros_0f7a4_16 : decode cJ6_numberOfTrailingZeros_0f7a4 16 = .ok (.ireturn, 1) := by decide +kernel
theorem dJ6_numberOfTrailingZeros_0f7a4_17 : decode cJ6_numberOfTrailingZeros_0f7a4 17 = .ok (.iconst 1, 1) := by decide +kernel
theorem dJ6_numberOfTrailingZeros_0f7a4_18 : decode cJ6_numberOfTrailingZeros_0f7a4 18 = .ok (.istore_n 1, 1) := by decide +kernel
theorem dJ6_numberOfTrailingZeros_0f7a4_19 : decode cJ6_numberOfTrailingZeros_0f7a4 19 = .ok (.iload_n 0, 1) := by decide +kernel
theorem dJ6_numberOfTrailingZeros_0f7a4_20 : decode cJ6_numberOfTrailingZeros_0f7a4 20 = .ok (.ldc_w 264, 3) := by decide +kernel
theorem dJ6_numberOfTrailingZeros_0f7a4_23 : decode cJ6_numberOfTrailingZeros_0f7a4 23 = .ok (.if_icmp .le 11, 3) := by decide +kernel
theorem dJ6_numberOfTrailingZeros_0f7a4_26 : decode cJ6_numberOfTrailingZeros_0f7a4 26 = .ok (.iinc 1 16, 3) := by decide +kernel
theorem dJ6_numberOfTrailingZeros_0f7a4_29 : decode cJ6_numberOfTrailingZeros_0f7a4 29 = .ok (.iload_n 0, 1) := by decide +kernel
theorem dJ6_numberOfTrailingZeros_0f7a4_30 : decode cJ6_numberOfTrailingZeros_0f7a4 30 = .ok (.bipush 16, 2) := by decide +kernel
theorem dJ6_numberOfTrailingZeros_0f7a4_32 : decode cJ6_numberOfTrailingZeros_0f7a4 32 = .ok (.iushr, 1) := by decide +kernel
theorem dJ6_numberOfTrailingZeros_0f7a4_33 : decode cJ6_numberOfTrailingZeros_0f7a4 33 = .ok (.istore_n 0, 1) := by decide +kernel
theorem dJ6_numberOfTrailingZeros_0f7a4_34 : decode cJ6_numberOfTrailingZeros_0f7a4 34 = .ok (.iload_n 0, 1) := by decide +kernel
theorem dJ6_numberOfTrailingZeros_0f7a4_35 : decode cJ6_numberOfTrailingZeros_0f7a4 35 = .ok (.sipush 256, 3) := by decide +kernel
theorem dJ6_numberOfTrailingZeros_0f7a4_38 : decode cJ6_numberOfTrailingZeros_0f7a4 38 = .ok (.if_icmp .le 11, 3) := by decide +kernel
theorem dJ6_numberOfTrailingZeros_0f7a4_41 : decode cJ6_numberOfTrailingZeros_0f7a4 41 = .ok (.iinc 1 8, 3) := by decide +kernel
theorem dJ6_numberOfTrailingZeros_0f7a4_44 : decode cJ6_numberOfTrailingZeros_0f7a4 44 = .ok (.iload_n 0, 1) := by decide +kernel
theorem dJ6_numberOfTrailingZeros_0f7a4_45 : decode cJ6_numberOfTrailingZeros_0f7a4 45 = .ok (.bipush 8, 2) := by decide +kernel
theorem dJ6_numberOfTrailingZeros_0f7a4_47 : decode cJ6_numberOfTrailingZeros_0f7a4 47 = .ok (.iushr, 1) := by decide +kernel
theorem dJ6_numberOfTrailingZeros_0f7a4_48 : decode cJ6_numberOfTrailingZeros_0f7a4 48 = .ok (.istore_n 0, 1) := by decide +kernel
theorem dJ6_numberOfTrailingZeros_0f7a4_49 : decode cJ6_numberOfTrailingZeros_0f7a4 49 = .ok (.iload_n 0, 1) := by decide +kernel
theorem dJ6_numberOfTrailingZeros_0f7a4_50 : decode cJ6_numberOfTrailingZeros_0f7a4 50 = .ok (.bipush 16, 2) := by decide +kernel
theorem dJ6_numberOfTrailingZeros_0f7a4_52 : decode cJ6_numberOfTrailingZeros_0f7a4 52 = .ok (.if_icmp .le 10, 3) := by decide +kernel
theorem dJ6_numberOfTrailingZeros_0f7a4_55 : decode cJ6_numberOfTrailingZeros_0f7a4 55 = .ok (.iinc 1 4, 3) := by decide +kernel
theorem dJ6_numberOfTrailingZeros_0f7a4_58 : decode cJ6_numberOfTrailingZeros_0f7a4 58 = .ok (.iload_n 0, 1) := by decide +kernel
theorem dJ6_numberOfTrailingZeros_0f7a4_59 : decode cJ6_numberOfTrailingZeros_0f7a4 59 = .ok (.iconst 4, 1) := by decide +kernel
theorem dJ6_numberOfTrailingZeros_0f7a4_60 : decode cJ6_numberOfTrailingZeros_0f7a4 60 = .ok (.iushr, 1) := by decide +kernel
theorem dJ6_numberOfTrailingZeros_0f7a4_61 : decode cJ6_numberOfTrailingZeros_0f7a4 61 = .ok (.istore_n 0, 1) := by decide +kernel
theorem dJ6_numberOfTrailingZeros_0f7a4_62 : decode cJ6_numberOfTrailingZeros_0f7a4 62 = .ok (.iload_n 0, 1) := by decide +kernel
theorem dJ6_numberOfTrailingZeros_0f7a4_63 : decode cJ6_numberOfTrailingZeros_0f7a4 63 = .ok (.iconst 4, 1) := by decide +kernel
theorem dJ6_numberOfTrailingZeros_0f7a4_64 : decode cJ6_numberOfTrailingZeros_0f7a4 64 = .ok (.if_icmp .le 10, 3) := by decide +kernel
theorem dJ6_numberOfTrailingZeros_0f7a4_67 : decode cJ6_numberOfTrailingZeros_0f7a4 67 = .ok (.iinc 1 2, 3) := by decide +kernel
theorem dJ6_numberOfTrailingZeros_0f7a4_70 : decode cJ6_numberOfTrailingZeros_0f7a4 70 = .ok (.iload_n 0, 1) := by decide +kernel
theorem dJ6_numberOfTrailingZeros_0f7a4_71 : decode cJ6_numberOfTrailingZeros_0f7a4 71 = .ok (.iconst 2, 1) := by decide +kernel
theorem dJ6_numberOfTrailingZeros_0f7a4_72 : decode cJ6_numberOfTrailingZeros_0f7a4 72 = .ok (.iushr, 1) := by decide +kernel
theorem dJ6_numberOfTrailingZeros_0f7a4_73 : decode cJ6_numberOfTrailingZeros_0f7a4 73 = .ok (.istore_n 0, 1) := by decide +kernel
theorem dJ6_numberOfTrailingZeros_0f7a4_74 : decode cJ6_numberOfTrailingZeros_0f7a4 74 = .ok (.iload_n 1, 1) := by decide +kernel
theorem dJ6_numberOfTrailingZeros_0f7a4_75 : decode cJ6_numberOfTrailingZeros_0f7a4 75 = .ok (.iload_n 0, 1) := by decide +kernel
theorem dJ6_numberOfTrailingZeros_0f7a4_76 : decode cJ6_numberOfTrailingZeros_0f7a4 76 = .ok (.iconst 1, 1) := by decide +kernel
theorem dJ6_numberOfTrailingZeros_0f7a4_77 : decode cJ6_numberOfTrailingZeros_0f7a4 77 = .ok (.iushr, 1) := by decide +kernel
theorem dJ6_numberOfTrailingZeros_0f7a4_78 : decode cJ6_numberOfTrailingZeros_0f7a4 78 = .ok (.iadd, 1) := by decide +kernel
theorem dJ6_numberOfTrailingZeros_0f7a4_79 : decode cJ6_numberOfTrailingZeros_0f7a4 79 = .ok (.ireturn, 1) := by decide +kernel
theorem dJ6_bitCount_0f7a4_0 : decode cJ6_bitCount_0f7a4 0 = .ok (.iload_n 0, 1) := by decide +kernel
theorem dJ6_bitCount_0f7a4_1 : decode cJ6_bitCount_0f7a4 1 = .ok (.iload_n 0, 1) := by decide +kernel
theorem dJ6_bitCount_0f7a4_2 : decode cJ6_bitCount_0f7a4 2 = .ok (.iconst 1, 1) := by decide +kernel
theorem dJ6_bitCount_0f7a4_3 : decode cJ6_bitCount_0f7a4 3 = .ok (.iushr, 1) := by decide +kernel
theorem dJ6_bitCount_0f7a4_4 : decode cJ6_bitCount_0f7a4 4 = .ok (.ldc_w 265, 3) := by decide +kernel
theorem dJ6_bitCount_0f7a4_7 : decode cJ6_bitCount_0f7a4 7 = .ok (.iand, 1) := by decide +kernel
theorem dJ6_bitCount_0f7a4_8 : decode cJ6_bitCount_0f7a4 8 = .ok (.isub, 1) := by decide +kernel
theorem dJ6_bitCount_0f7a4_9 : decode cJ6_bitCount_0f7a4 9 = .ok (.istore_n 0, 1) := by decide +kernel
theorem dJ6_bitCount_0f7a4_10 : decode cJ6_bitCount_0f7a4 10 = .ok (.iload_n 0, 1) := by decide +kernel
theorem dJ6_bitCount_0f7a4_11 : decode cJ6_bitCount_0f7a4 11 = .ok (.ldc_w 266, 3) := by decide +kernel
theorem dJ6_bitCount_0f7a4_14 : decode cJ6_bitCount_0f7a4 14 = .ok (.iand, 1) := by decide +kernel
theorem dJ6_bitCount_0f7a4_15 : decode cJ6_bitCount_0f7a4 15 = .ok (.iload_n 0, 1) := by decide +kernel
theorem dJ6_bitCount_0f7a4_16 : decode cJ6_bitCount_0f7a4 16 = .ok (.iconst 2, 1) := by decide +kernel
theorem dJ6_bitCount_0f7a4_17 : decode cJ6_bitCount_0f7a4 17 = .ok (.iushr, 1) := by decide +kernel
theorem dJ6_bitCount_0f7a4_18 : decode cJ6_bitCount_0f7a4 18 = .ok (.ldc_w 266, 3) := by decide +kernel
theorem dJ6_bitCount_0f7a4_21 : decode cJ6_bitCount_0f7a4 21 = .ok (.iand, 1) := by decide +kernel
theorem dJ6_bitCount_0f7a4_22 : decode cJ6_bitCount_0f7a4 22 = .ok (.iadd, 1) := by decide +kernel
theorem dJ6_bitCount_0f7a4_23 : decode cJ6_bitCount_0f7a4 23 = .ok (.istore_n 0, 1) := by decide +kernel
theorem dJ6_bitCount_0f7a4_24 : decode cJ6_bitCount_0f7a4 24 = .ok (.iload_n 0, 1) := by decide +kernel
theorem dJ6_bitCount_0f7a4_25 : decode cJ6_bitCount_0f7a4 25 = .ok (.iload_n 0, 1) := by decide +kernel
theorem dJ6_bitCount_0f7a4_26 : decode cJ6_bitCount_0f7a4 26 = .ok (.iconst 4, 1) := by decide +kernel
theorem dJ6_bitCount_0f7a4_27 : decode cJ6_bitCount_0f7a4 27 = .ok (.iushr, 1) := by decide +kernel
theorem dJ6_bitCount_0f7a4_28 : decode cJ6_bitCount_0f7a4 28 = .ok (.iadd, 1) := by decide +kernel
theorem dJ6_bitCount_0f7a4_29 : decode cJ6_bitCount_0f7a4 29 = .ok (.ldc_w 267, 3) := by decide +kernel
theorem dJ6_bitCount_0f7a4_32 : decode cJ6_bitCount_0f7a4 32 = .ok (.iand, 1) := by decide +kernel
theorem dJ6_bitCount_0f7a4_33 : decode cJ6_bitCount_0f7a4 33 = .ok (.istore_n 0, 1) := by decide +kernel
theorem dJ6_bitCount_0f7a4_34 : decode cJ6_bitCount_0f7a4 34 = .ok (.iload_n 0, 1) := by decide +kernel
theorem dJ6_bitCount_0f7a4_35 : decode cJ6_bitCount_0f7a4 35 = .ok (.iload_n 0, 1) := by decide +kernel
theorem dJ6_bitCount_0f7a4_36 : decode cJ6_bitCount_0f7a4 36 = .ok (.bipush 8, 2) := by decide +kernel
theorem dJ6_bitCount_0f7a4_38 : decode cJ6_bitCount_0f7a4 38 = .ok (.iushr, 1) := by decide +kernel
theorem dJ6_bitCount_0f7a4_39 : decode cJ6_bitCount_0f7a4 39 = .ok (.iadd, 1) := by decide +kernel
theorem dJ6_bitCount_0f7a4_40 : decode cJ6_bitCount_0f7a4 40 = .ok (.istore_n 0, 1) := by decide +kernel
theorem dJ6_bitCount_0f7a4_41 : decode cJ6_bitCount_0f7a4 41 = .ok (.iload_n 0, 1) := by decide +kernel
theorem dJ6_bitCount_0f7a4_42 : decode cJ6_bitCount_0f7a4 42 = .ok (.iload_n 0, 1) := by decide +kernel
theorem dJ6_bitCount_0f7a4_43 : decode cJ6_bitCount_0f7a4 43 = .ok (.bipush 16, 2) := by decide +kernel
theorem dJ6_bitCount_0f7a4_45 : decode cJ6_bitCount_0f7a4 45 = .ok (.iushr, 1) := by decide +kernel
theorem dJ6_bitCount_0f7a4_46 : decode cJ6_bitCount_0f7a4 46 = .ok (.iadd, 1) := by decide +kernel
theorem dJ6_bitCount_0f7a4_47 : decode cJ6_bitCount_0f7a4 47 = .ok (.istore_n 0, 1) := by decide +kernel
theorem dJ6_bitCount_0f7a4_48 : decode cJ6_bitCount_0f7a4 48 = .ok (.iload_n 0, 1) := by decide +kernel
theorem dJ6_bitCount_0f7a4_49 : decode cJ6_bitCount_0f7a4 49 = .ok (.bipush 63, 2) := by decide +kernel
theorem dJ6_bitCount_0f7a4_51 : decode cJ6_bitCount_0f7a4 51 = .ok (.iand, 1) := by decide +kernel
theorem dJ6_bitCount_0f7a4_52 : decode cJ6_bitCount_0f7a4 52 = .ok (.ireturn, 1) := by decide +kernel
theorem dJ9_max_7cf53_0 : decode cJ9_max_7cf53 0 = .ok (.iload_n 0, 1) := by decide +kernel
theorem dJ9_max_7cf53_1 : decode cJ9_max_7cf53 1 = .ok (.iload_n 1, 1) := by decide +kernel
theorem dJ9_max_7cf53_2 : decode cJ9_max_7cf53 2 = .ok (.if_icmp .lt 7, 3) := by decide +kernel
theorem dJ9_max_7cf53_5 : decode cJ9_max_7cf53 5 = .ok (.iload_n 0, 1) := by decide +kernel
theorem dJ9_max_7cf53_6 : decode cJ9_max_7cf53 6 = .ok (.goto 4, 3) := by decide +kernel
theorem dJ9_max_7cf53_9 : decode cJ9_max_7cf53 9 = .ok (.iload_n 1, 1) := by decide +kernel
theorem dJ9_max_7cf53_10 : decode cJ9_max_7cf53 10 = .ok (.ireturn, 1) := by decide +kernel
theorem dJ9_min_7cf53_0 : decode cJ9_min_7cf53 0 = .ok (.iload_n 0, 1) := by decide +kernel
theorem dJ9_min_7cf53_1 : decode cJ9_min_7cf53 1 = .ok (.iload_n 1, 1) := by decide +kernel
theorem dJ9_min_7cf53_2 : decode cJ9_min_7cf53 2 = .ok (.if_icmp .gt 7, 3) := by decide +kernel
theorem dJ9_min_7cf53_5 : decode cJ9_min_7cf53 5 = .ok (.iload_n 0, 1) := by decide +kernel
theorem dJ9_min_7cf53_6 : decode cJ9_min_7cf53 6 = .ok (.goto 4, 3) := by decide +kernel
theorem dJ9_min_7cf53_9 : decode cJ9_min_7cf53 9 = .ok (.iload_n 1, 1) := by decide +kernel
theorem dJ9_min_7cf53_10 : decode cJ9_min_7cf53 10 = .ok (.ireturn, 1) := by decide +kernel
theorem dJ0_length_8abf5_0 : decode cJ0_length_8abf5 0 = .ok (.aload_n 0, 1) := by decide +kernel
theorem dJ0_length_8abf5_1 : decode cJ0_length_8abf5 1 = .ok (.getfield 9, 3) := by decide +kernel
theorem dJ0_length_8abf5_4 : decode cJ0_length_8abf5 4 = .ok (.arraylength, 1) := by decide +kernel
theorem dJ0_length_8abf5_5 : decode cJ0_length_8abf5 5 = .ok (.aload_n 0, 1) := by decide +kernel
theorem dJ0_length_8abf5_6 : decode cJ0_length_8abf5 6 = .ok (.invokevirtual 335, 3) := by decide +kernel
theorem dJ0_length_8abf5_9 : decode cJ0_length_8abf5 9 = .ok (.ishr, 1) := by decide +kernel
theorem dJ0_length_8abf5_10 : decode cJ0_length_8abf5 10 = .ok (.ireturn, 1) := by decide +kernel
theorem dJ0_charAt_5068e_0 : decode cJ0_charAt_5068e 0 = .ok (.aload_n 0, 1) := by decide +kernel
theorem dJ0_charAt_5068e_1 : decode cJ0_charAt_5068e 1 = .ok (.invokevirtual 492, 3) := by decide +kernel
theorem dJ0_charAt_5068e_4 : decode cJ0_charAt_5068e 4 = .ok (.ifCond .eq 12, 3) := by decide +kernel
theorem dJ0_charAt_5068e_7 : decode cJ0_charAt_5068e 7 = .ok (.aload_n 0, 1) := by decide +kernel
theorem dJ0_charAt_5068e_8 : decode cJ0_charAt_5068e 8 = .ok (.getfield 9, 3) := by decide +kernel
theorem dJ0_charAt_5068e_11 : decode cJ0_charAt_5068e 11 = .ok (.iload_n 1, 1) := by decide +kernel
theorem dJ0_charAt_5068e_12 : decode cJ0_charAt_5068e 12 = .ok (.invokestatic 495, 3) := by decide +kernel
theorem dJ0_charAt_5068e_15 : decode cJ0_charAt_5068e 15 = .ok (.ireturn, 1) := by decide +kernel
theorem dJ0_charAt_5068e_16 : decode cJ0_charAt_5068e 16 = .ok (.aload_n 0, 1) := by decide +kernel
theorem dJ0_charAt_5068e_17 : decode cJ0_charAt_5068e 17 = .ok (.getfield 9, 3) := by decide +kernel
theorem dJ0_charAt_5068e_20 : decode cJ0_charAt_5068e 20 = .ok (.iload_n 1, 1) := by decide +kernel
theorem dJ0_charAt_5068e_21 : decode cJ0_charAt_5068e 21 = .ok (.invokestatic 498, 3) := by decide +kernel
theorem dJ0_charAt_5068e_24 : decode cJ0_charAt_5068e 24 = .ok (.ireturn, 1) := by decide +kernel
theorem dJ0_coder_7d493_0 : decode cJ0_coder_7d493 0 = .ok (.getstatic 38, 3) := by decide +kernel
theorem dJ0_coder_7d493_3 : decode cJ0_coder_7d493 3 = .ok (.ifCond .eq 10, 3) := by decide +kernel
theorem dJ0_coder_7d493_6 : decode cJ0_coder_7d493 6 = .ok (.aload_n 0, 1) := by decide +kernel
theorem dJ0_coder_7d493_7 : decode cJ0_coder_7d493 7 = .ok (.getfield 15, 3) := by decide +kernel
theorem dJ0_coder_7d493_10 : decode cJ0_coder_7d493 10 = .ok (.goto 4, 3) := by decide +kernel
theorem dJ0_coder_7d493_13 : decode cJ0_coder_7d493 13 = .ok (.iconst 1, 1) := by decide +kernel
theorem dJ0_coder_7d493_14 : decode cJ0_coder_7d493 14 = .ok (.ireturn, 1) := by decide +kernel
theorem dJ0_isLatin1_aae02_0 : decode cJ0_isLatin1_aae02 0 = .ok (.getstatic 38, 3) := by decide +kernel
theorem dJ0_isLatin1_aae02_3 : decode cJ0_isLatin1_aae02 3 = .ok (.ifCond .eq 14, 3) := by decide +kernel
theorem dJ0_isLatin1_aae02_6 : decode cJ0_isLatin1_aae02 6 = .ok (.aload_n 0, 1) := by decide +kernel
theorem dJ0_isLatin1_aae02_7 : decode cJ0_isLatin1_aae02 7 = .ok (.getfield 15, 3) := by decide +kernel
theorem dJ0_isLatin1_aae02_10 : decode cJ0_isLatin1_aae02 10 = .ok (.ifCond .ne 7, 3) := by decide +kernel
theorem dJ0_isLatin1_aae02_13 : decode cJ0_isLatin1_aae02 13 = .ok (.iconst 1, 1) := by decide +kernel
theorem dJ0_isLatin1_aae02_14 : decode cJ0_isLatin1_aae02 14 = .ok (.goto 4, 3) := by decide +kernel
theorem dJ0_isLatin1_aae02_17 : decode cJ0_isLatin1_aae02 17 = .ok (.iconst 0, 1) := by decide +kernel
theorem dJ0_isLatin1_aae02_18 : decode cJ0_isLatin1_aae02 18 = .ok (.ireturn, 1) := by decide +kernel
theorem dJ0_checkIndex_df160_0 : decode cJ0_checkIndex_df160 0 = .ok (.iload_n 0, 1) := by decide +kernel
theorem dJ0_checkIndex_df160_1 : decode cJ0_checkIndex_df160 1 = .ok (.iload_n 1, 1) := by decide +kernel
theorem dJ0_checkIndex_df160_2 : decode cJ0_checkIndex_df160 2 = .ok (.getstatic 1053, 3) := by decide +kernel
theorem dJ0_checkIndex_df160_5 : decode cJ0_checkIndex_df160 5 = .ok (.invokestatic 1059, 3) := by decide +kernel
theorem dJ0_checkIndex_df160_8 : decode cJ0_checkIndex_df160 8 = .ok (.pop, 1) := by decide +kernel
theorem dJ0_checkIndex_df160_9 : decode cJ0_checkIndex_df160 9 = .ok (.return_, 1) := by decide +kernel
theorem dJ1_charAt_3b067_0 : decode cJ1_charAt_3b067 0 = .ok (.iload_n 1, 1) := by decide +kernel
theorem dJ1_charAt_3b067_1 : decode cJ1_charAt_3b067 1 = .ok (.aload_n 0, 1) := by decide +kernel
theorem dJ1_charAt_3b067_2 : decode cJ1_charAt_3b067 2 = .ok (.arraylength, 1) := by decide +kernel
theorem dJ1_charAt_3b067_3 : decode cJ1_charAt_3b067 3 = .ok (.invokestatic 9, 3) := by decide +kernel
theorem dJ1_charAt_3b067_6 : decode cJ1_charAt_3b067 6 = .ok (.aload_n 0, 1) := by decide +kernel
theorem dJ1_charAt_3b067_7 : decode cJ1_charAt_3b067 7 = .ok (.iload_n 1, 1) := by decide +kernel
theorem dJ1_charAt_3b067_8 : decode cJ1_charAt_3b067 8 = .ok (.baload, 1) := by decide +kernel
theorem dJ1_charAt_3b067_9 : decode cJ1_charAt_3b067 9 = .ok (.sipush 255, 3) := by decide +kernel
theorem dJ1_charAt_3b067_12 : decode cJ1_charAt_3b067 12 = .ok (.iand, 1) := by decide +kernel
theorem dJ1_charAt_3b067_13 : decode cJ1_charAt_3b067 13 = .ok (.i2c, 1) := by decide +kernel
theorem dJ1_charAt_3b067_14 : decode cJ1_charAt_3b067 14 = .ok (.ireturn, 1) := by decide +kernel
theorem dJ2_getChar_3b067_0 : decode cJ2_getChar_3b067 0 = .ok (.getstatic 44, 3) := by decide +kernel
theorem dJ2_getChar_3b067_3 : decode cJ2_getChar_3b067 3 = .ok (.ifCond .ne 25, 3) := by decide +kernel
theorem dJ2_getChar_3b067_6 : decode cJ2_getChar_3b067 6 = .ok (.iload_n 1, 1) := by decide +kernel
theorem dJ2_getChar_3b067_7 : decode cJ2_getChar_3b067 7 = .ok (.ifCond .lt 11, 3) := by decide +kernel
theorem dJ2_getChar_3b067_10 : decode cJ2_getChar_3b067 10 = .ok (.iload_n 1, 1) := by decide +kernel
theorem dJ2_getChar_3b067_11 : decode cJ2_getChar_3b067 11 = .ok (.aload_n 0, 1) := by decide +kernel
theorem dJ2_getChar_3b067_12 : decode cJ2_getChar_3b067 12 = .ok (.invokestatic 48, 3) := by decide +kernel
theorem dJ2_getChar_3b067_15 : decode cJ2_getChar_3b067 15 = .ok (.if_icmp .lt 13, 3) := by decide +kernel
theorem dJ2_getChar_3b067_18 : decode cJ2_getChar_3b067 18 = .ok (.new 52, 3) := by decide +kernel
theorem dJ2_getChar_3b067_21 : decode cJ2_getChar_3b067 21 = .ok (.dup, 1) := by decide +kernel
theorem dJ2_getChar_3b067_22 : decode cJ2_getChar_3b067 22 = .ok (.ldc 54, 2) := by decide +kernel
theorem dJ2_getChar_3b067_24 : decode cJ2_getChar_3b067 24 = .ok (.invokespecial 56, 3) := by decide +kernel
theorem dJ2_getChar_3b067_27 : decode cJ2_getChar_3b067 27 = .ok (.athrow, 1) := by decide +kernel
theorem dJ2_getChar_3b067_28 : decode cJ2_getChar_3b067 28 = .ok (.iload_n 1, 1) := by decide +kernel
theorem dJ2_getChar_3b067_29 : decode cJ2_getChar_3b067 29 = .ok (.iconst 1, 1) := by decide +kernel
theorem dJ2_getChar_3b067_30 : decode cJ2_getChar_3b067 30 = .ok (.ishl, 1) := by decide +kernel
theorem dJ2_getChar_3b067_31 : decode cJ2_getChar_3b067 31 = .ok (.istore_n 1, 1) := by decide +kernel
theorem dJ2_getChar_3b067_32 : decode cJ2_getChar_3b067 32 = .ok (.aload_n 0, 1) := by decide +kernel
theorem dJ2_getChar_3b067_33 : decode cJ2_getChar_3b067 33 = .ok (.iload_n 1, 1) := by decide +kernel
theorem dJ2_getChar_3b067_34 : decode cJ2_getChar_3b067 34 = .ok (.iinc 1 1, 3) := by decide +kernel
theorem dJ2_getChar_3b067_37 : decode cJ2_getChar_3b067 37 = .ok (.baload, 1) := by decide +kernel
theorem dJ2_getChar_3b067_38 : decode cJ2_getChar_3b067 38 = .ok (.sipush 255, 3) := by decide +kernel
theorem dJ2_getChar_3b067_41 : decode cJ2_getChar_3b067 41 = .ok (.iand, 1) := by decide +kernel
theorem dJ2_getChar_3b067_42 : decode cJ2_getChar_3b067 42 = .ok (.getstatic 59, 3) := by decide +kernel
theorem dJ2_getChar_3b067_45 : decode cJ2_getChar_3b067 45 = .ok (.ishl, 1) := by decide +kernel
theorem dJ2_getChar_3b067_46 : decode cJ2_getChar_3b067 46 = .ok (.aload_n 0, 1) := by decide +kernel
theorem dJ2_getChar_3b067_47 : decode cJ2_getChar_3b067 47 = .ok (.iload_n 1, 1) := by decide +kernel
theorem dJ2_getChar_3b067_48 : decode cJ2_getChar_3b067 48 = .ok (.baload, 1) := by decide +kernel
theorem dJ2_getChar_3b067_49 : decode cJ2_getChar_3b067 49 = .ok (.sipush 255, 3) := by decide +kernel
theorem dJ2_getChar_3b067_52 : decode cJ2_getChar_3b067 52 = .ok (.iand, 1) := by decide +kernel
theorem dJ2_getChar_3b067_53 : decode cJ2_getChar_3b067 53 = .ok (.getstatic 63, 3) := by decide +kernel
theorem dJ2_getChar_3b067_56 : decode cJ2_getChar_3b067 56 = .ok (.ishl, 1) := by decide +kernel
theorem dJ2_getChar_3b067_57 : decode cJ2_getChar_3b067 57 = .ok (.ior, 1) := by decide +kernel
theorem dJ2_getChar_3b067_58 : decode cJ2_getChar_3b067 58 = .ok (.i2c, 1) := by decide +kernel
theorem dJ2_getChar_3b067_59 : decode cJ2_getChar_3b067 59 = .ok (.ireturn, 1) := by decide +kernel
theorem dJ2_length_9d52b_0 : decode cJ2_length_9d52b 0 = .ok (.aload_n 0, 1) := by decide +kernel
theorem dJ2_length_9d52b_1 : decode cJ2_length_9d52b 1 = .ok (.arraylength, 1) := by decide +kernel
theorem dJ2_length_9d52b_2 : decode cJ2_length_9d52b 2 = .ok (.iconst 1, 1) := by decide +kernel
theorem dJ2_length_9d52b_3 : decode cJ2_length_9d52b 3 = .ok (.ishr, 1) := by decide +kernel
theorem dJ2_length_9d52b_4 : decode cJ2_length_9d52b 4 = .ok (.ireturn, 1) := by decide +kernel
theorem dJ2_charAt_3b067_0 : decode cJ2_charAt_3b067 0 = .ok (.iload_n 1, 1) := by decide +kernel
theorem dJ2_charAt_3b067_1 : decode cJ2_charAt_3b067 1 = .ok (.aload_n 0, 1) := by decide +kernel
theorem dJ2_charAt_3b067_2 : decode cJ2_charAt_3b067 2 = .ok (.invokestatic 67, 3) := by decide +kernel
theorem dJ2_charAt_3b067_5 : decode cJ2_charAt_3b067 5 = .ok (.aload_n 0, 1) := by decide +kernel
theorem dJ2_charAt_3b067_6 : decode cJ2_charAt_3b067 6 = .ok (.iload_n 1, 1) := by decide +kernel
theorem dJ2_charAt_3b067_7 : decode cJ2_charAt_3b067 7 = .ok (.invokestatic 71, 3) := by decide +kernel
theorem dJ2_charAt_3b067_10 : decode cJ2_charAt_3b067 10 = .ok (.ireturn, 1) := by decide +kernel
theorem dJ2_checkIndex_2214a_0 : decode cJ2_checkIndex_2214a 0 = .ok (.iload_n 0, 1) := by decide +kernel
theorem dJ2_checkIndex_2214a_1 : decode cJ2_checkIndex_2214a 1 = .ok (.aload_n 1, 1) := by decide +kernel
theorem dJ2_checkIndex_2214a_2 : decode cJ2_checkIndex_2214a 2 = .ok (.invokestatic 48, 3) := by decide +kernel
theorem dJ2_checkIndex_2214a_5 : decode cJ2_checkIndex_2214a 5 = .ok (.invokestatic 414, 3) := by decide +kernel
theorem dJ2_checkIndex_2214a_8 : decode cJ2_checkIndex_2214a 8 = .ok (.return_, 1) := by decide +kernel
theorem dJ3_checkIndex_8e157_0 : decode cJ3_checkIndex_8e157 0 = .ok (.iload_n 0, 1) := by decide +kernel
theorem dJ3_checkIndex_8e157_1 : decode cJ3_checkIndex_8e157 1 = .ok (.ifCond .lt 8, 3) := by decide +kernel
theorem dJ3_checkIndex_8e157_4 : decode cJ3_checkIndex_8e157 4 = .ok (.iload_n 0, 1) := by decide +kernel
theorem dJ3_checkIndex_8e157_5 : decode cJ3_checkIndex_8e157 5 = .ok (.iload_n 1, 1) := by decide +kernel
theorem dJ3_checkIndex_8e157_6 : decode cJ3_checkIndex_8e157 6 = .ok (.if_icmp .lt 10, 3) := by decide +kernel
theorem dJ3_checkIndex_8e157_9 : decode cJ3_checkIndex_8e157 9 = .ok (.aload_n 2, 1) := by decide +kernel
theorem dJ3_checkIndex_8e157_10 : decode cJ3_checkIndex_8e157 10 = .ok (.iload_n 0, 1) := by decide +kernel
theorem dJ3_checkIndex_8e157_11 : decode cJ3_checkIndex_8e157 11 = .ok (.iload_n 1, 1) := by decide +kernel
theorem dJ3_checkIndex_8e157_12 : decode cJ3_checkIndex_8e157 12 = .ok (.invokestatic 95, 3) := by decide +kernel
theorem dJ3_checkIndex_8e157_15 : decode cJ3_checkIndex_8e157 15 = .ok (.athrow, 1) := by decide +kernel
theorem dJ3_checkIndex_8e157_16 : decode cJ3_checkIndex_8e157 16 = .ok (.iload_n 0, 1) := by decide +kernel
theorem dJ3_checkIndex_8e157_17 : decode cJ3_checkIndex_8e157 17 = .ok (.ireturn, 1) := by decide +kernel
theorem dL_post_0 : decode cL_post 0 = .ok (.aload_n 3, 1) := by decide +kernel
theorem dL_post_1 : decode cL_post 1 = .ok (.iconst 0, 1) := by decide +kernel
theorem dL_post_2 : decode cL_post 2 = .ok (.aload_n 0, 1) := by decide +kernel
theorem dL_post_3 : decode cL_post 3 = .ok (.iload_n 1, 1) := by decide +kernel
theorem dL_post_4 : decode cL_post 4 = .ok (.iload_n 2, 1) := by decide +kernel
theorem dL_post_5 : decode cL_post 5 = .ok (.invokevirtual 7, 3) := by decide +kernel
theorem dL_post_8 : decode cL_post 8 = .ok (.i2l, 1) := by decide +kernel
theorem dL_post_9 : decode cL_post 9 = .ok (.lastore, 1) := by decide +kernel
theorem dL_post_10 : decode cL_post 10 = .ok (.goto 7, 3) := by decide +kernel
theorem dL_post_13 : decode cL_post 13 = .ok (.astore 4, 2) := by decide +kernel
theorem dL_post_15 : decode cL_post 15 = .ok (.iconst 1, 1) := by decide +kernel
theorem dL_post_16 : decode cL_post 16 = .ok (.ireturn, 1) := by decide +kernel
theorem dL_post_17 : decode cL_post 17 = .ok (.iconst 0, 1) := by decide +kernel
theorem dL_post_18 : decode cL_post 18 = .ok (.ireturn, 1) := by decide +kernel
theorem dL_way_0 : decode cL_way 0 = .ok (.aload_n 3, 1) := by decide +kernel
theorem dL_way_1 : decode cL_way 1 = .ok (.iconst 0, 1) := by decide +kernel
theorem dL_way_2 : decode cL_way 2 = .ok (.aload_n 0, 1) := by decide +kernel
theorem dL_way_3 : decode cL_way 3 = .ok (.iload_n 1, 1) := by decide +kernel
theorem dL_way_4 : decode cL_way 4 = .ok (.iload_n 2, 1) := by decide +kernel
theorem dL_way_5 : decode cL_way 5 = .ok (.invokevirtual 15, 3) := by decide +kernel
theorem dL_way_8 : decode cL_way 8 = .ok (.i2l, 1) := by decide +kernel
theorem dL_way_9 : decode cL_way 9 = .ok (.lastore, 1) := by decide +kernel
theorem dL_way_10 : decode cL_way 10 = .ok (.goto 7, 3) := by decide +kernel
theorem dL_way_13 : decode cL_way 13 = .ok (.astore 4, 2) := by decide +kernel
theorem dL_way_15 : decode cL_way 15 = .ok (.iconst 1, 1) := by decide +kernel
theorem dL_way_16 : decode cL_way 16 = .ok (.ireturn, 1) := by decide +kernel
theorem dL_way_17 : decode cL_way 17 = .ok (.iconst 0, 1) := by decide +kernel
theorem dL_way_18 : decode cL_way 18 = .ok (.ireturn, 1) := by decide +kernel
theorem dL_row_0 : decode cL_row 0 = .ok (.aload_n 2, 1) := by decide +kernel
theorem dL_row_1 : decode cL_row 1 = .ok (.iconst 0, 1) := by decide +kernel
theorem dL_row_2 : decode cL_row 2 = .ok (.aload_n 0, 1) := by decide +kernel
theorem dL_row_3 : decode cL_row 3 = .ok (.iload_n 1, 1) := by decide +kernel
theorem dL_row_4 : decode cL_row 4 = .ok (.invokevirtual 18, 3) := by decide +kernel
theorem dL_row_7 : decode cL_row 7 = .ok (.lastore, 1) := by decide +kernel
theorem dL_row_8 : decode cL_row 8 = .ok (.goto 6, 3) := by decide +kernel
theorem dL_row_11 : decode cL_row 11 = .ok (.astore_n 3, 1) := by decide +kernel
theorem dL_row_12 : decode cL_row 12 = .ok (.iconst 1, 1) := by decide +kernel
theorem dL_row_13 : decode cL_row 13 = .ok (.ireturn, 1) := by decide +kernel
theorem dL_row_14 : decode cL_row 14 = .ok (.iconst 0, 1) := by decide +kernel
theorem dL_row_15 : decode cL_row 15 = .ok (.ireturn, 1) := by decide +kernel
