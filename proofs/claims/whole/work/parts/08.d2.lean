theorem dX10_checkDay_0 : decode cX10_checkDay 0 = .ok (.iconst 0, 1) := by decide +kernel
theorem dX10_checkDay_1 : decode cX10_checkDay 1 = .ok (.istore_n 1, 1) := by decide +kernel
theorem dX10_checkDay_2 : decode cX10_checkDay 2 = .ok (.iconst 0, 1) := by decide +kernel
theorem dX10_checkDay_3 : decode cX10_checkDay 3 = .ok (.istore_n 2, 1) := by decide +kernel
theorem dX10_checkDay_4 : decode cX10_checkDay 4 = .ok (.aload_n 0, 1) := by decide +kernel
theorem dX10_checkDay_5 : decode cX10_checkDay 5 = .ok (.getfield 12, 3) := by decide +kernel
theorem dX10_checkDay_8 : decode cX10_checkDay 8 = .ok (.invokevirtual 114, 3) := by decide +kernel
theorem dX10_checkDay_11 : decode cX10_checkDay 11 = .ok (.bipush 60, 2) := by decide +kernel
theorem dX10_checkDay_13 : decode cX10_checkDay 13 = .ok (.invokestatic 193, 3) := by decide +kernel
theorem dX10_checkDay_16 : decode cX10_checkDay 16 = .ok (.istore_n 3, 1) := by decide +kernel
theorem dX10_checkDay_17 : decode cX10_checkDay 17 = .ok (.iconst 0, 1) := by decide +kernel
theorem dX10_checkDay_18 : decode cX10_checkDay 18 = .ok (.istore 4, 2) := by decide +kernel
theorem dX10_checkDay_20 : decode cX10_checkDay 20 = .ok (.iload 4, 2) := by decide +kernel
theorem dX10_checkDay_22 : decode cX10_checkDay 22 = .ok (.iload_n 3, 1) := by decide +kernel
theorem dX10_checkDay_23 : decode cX10_checkDay 23 = .ok (.if_icmp .ge 103, 3) := by decide +kernel
theorem dX10_checkDay_26 : decode cX10_checkDay 26 = .ok (.aload_n 0, 1) := by decide +kernel
theorem dX10_checkDay_27 : decode cX10_checkDay 27 = .ok (.getfield 12, 3) := by decide +kernel
theorem dX10_checkDay_30 : decode cX10_checkDay 30 = .ok (.iload 4, 2) := by decide +kernel
theorem dX10_checkDay_32 : decode cX10_checkDay 32 = .ok (.invokevirtual 228, 3) := by decide +kernel
theorem dX10_checkDay_35 : decode cX10_checkDay 35 = .ok (.istore 5, 2) := by decide +kernel
theorem dX10_checkDay_37 : decode cX10_checkDay 37 = .ok (.iload_n 2, 1) := by decide +kernel
theorem dX10_checkDay_38 : decode cX10_checkDay 38 = .ok (.ifCond .ne 29, 3) := by decide +kernel
theorem dX10_checkDay_41 : decode cX10_checkDay 41 = .ok (.iload 5, 2) := by decide +kernel
theorem dX10_checkDay_43 : decode cX10_checkDay 43 = .ok (.invokestatic 231, 3) := by decide +kernel
theorem dX10_checkDay_46 : decode cX10_checkDay 46 = .ok (.ifCond .ne 8, 3) := by decide +kernel
theorem dX10_checkDay_49 : decode cX10_checkDay 49 = .ok (.iconst (-1), 1) := by decide +kernel
theorem dX10_checkDay_50 : decode cX10_checkDay 50 = .ok (.iload 4, 2) := by decide +kernel
theorem dX10_checkDay_52 : decode cX10_checkDay 52 = .ok (.isub, 1) := by decide +kernel
theorem dX10_checkDay_53 : decode cX10_checkDay 53 = .ok (.ireturn, 1) := by decide +kernel
theorem dX10_checkDay_54 : decode cX10_checkDay 54 = .ok (.iload 5, 2) := by decide +kernel
theorem dX10_checkDay_56 : decode cX10_checkDay 56 = .ok (.istore_n 1, 1) := by decide +kernel
theorem dX10_checkDay_57 : decode cX10_checkDay 57 = .ok (.iload_n 1, 1) := by decide +kernel
theorem dX10_checkDay_58 : decode cX10_checkDay 58 = .ok (.invokestatic 294, 3) := by decide +kernel
theorem dX10_checkDay_61 : decode cX10_checkDay 61 = .ok (.iconst 1, 1) := by decide +kernel
theorem dX10_checkDay_62 : decode cX10_checkDay 62 = .ok (.isub, 1) := by decide +kernel
theorem dX10_checkDay_63 : decode cX10_checkDay 63 = .ok (.istore_n 2, 1) := by decide +kernel
theorem dX10_checkDay_64 : decode cX10_checkDay 64 = .ok (.goto 56, 3) := by decide +kernel
theorem dX10_checkDay_67 : decode cX10_checkDay 67 = .ok (.iload_n 2, 1) := by decide +kernel
theorem dX10_checkDay_68 : decode cX10_checkDay 68 = .ok (.iconst 1, 1) := by decide +kernel
theorem dX10_checkDay_69 : decode cX10_checkDay 69 = .ok (.if_icmp .ne 15, 3) := by decide +kernel
theorem dX10_checkDay_72 : decode cX10_checkDay 72 = .ok (.iload_n 1, 1) := by decide +kernel
theorem dX10_checkDay_73 : decode cX10_checkDay 73 = .ok (.invokestatic 294, 3) := by decide +kernel
theorem dX10_checkDay_76 : decode cX10_checkDay 76 = .ok (.iconst 3, 1) := by decide +kernel
theorem dX10_checkDay_77 : decode cX10_checkDay 77 = .ok (.if_icmp .ne 7, 3) := by decide +kernel
theorem dX10_checkDay_80 : decode cX10_checkDay 80 = .ok (.iconst 1, 1) := by decide +kernel
theorem dX10_checkDay_81 : decode cX10_checkDay 81 = .ok (.goto 4, 3) := by decide +kernel
theorem dX10_checkDay_84 : decode cX10_checkDay 84 = .ok (.iconst 0, 1) := by decide +kernel
theorem dX10_checkDay_85 : decode cX10_checkDay 85 = .ok (.istore 6, 2) := by decide +kernel
theorem dX10_checkDay_87 : decode cX10_checkDay 87 = .ok (.iload 6, 2) := by decide +kernel
theorem dX10_checkDay_89 : decode cX10_checkDay 89 = .ok (.ifCond .eq 15, 3) := by decide +kernel
theorem dX10_checkDay_92 : decode cX10_checkDay 92 = .ok (.iload_n 1, 1) := by decide +kernel
theorem dX10_checkDay_93 : decode cX10_checkDay 93 = .ok (.iload 5, 2) := by decide +kernel
theorem dX10_checkDay_95 : decode cX10_checkDay 95 = .ok (.invokestatic 297, 3) := by decide +kernel
theorem dX10_checkDay_98 : decode cX10_checkDay 98 = .ok (.ifCond .eq 14, 3) := by decide +kernel
theorem dX10_checkDay_101 : decode cX10_checkDay 101 = .ok (.goto 16, 3) := by decide +kernel
theorem dX10_checkDay_104 : decode cX10_checkDay 104 = .ok (.iload 5, 2) := by decide +kernel
theorem dX10_checkDay_106 : decode cX10_checkDay 106 = .ok (.invokestatic 300, 3) := by decide +kernel
theorem dX10_checkDay_109 : decode cX10_checkDay 109 = .ok (.ifCond .ne 8, 3) := by decide +kernel
theorem dX10_checkDay_112 : decode cX10_checkDay 112 = .ok (.iconst (-1), 1) := by decide +kernel
theorem dX10_checkDay_113 : decode cX10_checkDay 113 = .ok (.iload 4, 2) := by decide +kernel
theorem dX10_checkDay_115 : decode cX10_checkDay 115 = .ok (.isub, 1) := by decide +kernel
theorem dX10_checkDay_116 : decode cX10_checkDay 116 = .ok (.ireturn, 1) := by decide +kernel
theorem dX10_checkDay_117 : decode cX10_checkDay 117 = .ok (.iinc 2 (-1), 3) := by decide +kernel
theorem dX10_checkDay_120 : decode cX10_checkDay 120 = .ok (.iinc 4 1, 3) := by decide +kernel
theorem dX10_checkDay_123 : decode cX10_checkDay 123 = .ok (.goto (-103), 3) := by decide +kernel
theorem dX10_checkDay_126 : decode cX10_checkDay 126 = .ok (.aload_n 0, 1) := by decide +kernel
theorem dX10_checkDay_127 : decode cX10_checkDay 127 = .ok (.getfield 12, 3) := by decide +kernel
theorem dX10_checkDay_130 : decode cX10_checkDay 130 = .ok (.invokevirtual 114, 3) := by decide +kernel
theorem dX10_checkDay_133 : decode cX10_checkDay 133 = .ok (.bipush 60, 2) := by decide +kernel
theorem dX10_checkDay_135 : decode cX10_checkDay 135 = .ok (.if_icmp .le 6, 3) := by decide +kernel
theorem dX10_checkDay_138 : decode cX10_checkDay 138 = .ok (.bipush (-61), 2) := by decide +kernel
theorem dX10_checkDay_140 : decode cX10_checkDay 140 = .ok (.ireturn, 1) := by decide +kernel
theorem dX10_checkDay_141 : decode cX10_checkDay 141 = .ok (.iload_n 2, 1) := by decide +kernel
theorem dX10_checkDay_142 : decode cX10_checkDay 142 = .ok (.ifCond .le 15, 3) := by decide +kernel
theorem dX10_checkDay_145 : decode cX10_checkDay 145 = .ok (.iconst (-1), 1) := by decide +kernel
theorem dX10_checkDay_146 : decode cX10_checkDay 146 = .ok (.aload_n 0, 1) := by decide +kernel
theorem dX10_checkDay_147 : decode cX10_checkDay 147 = .ok (.getfield 12, 3) := by decide +kernel
theorem dX10_checkDay_150 : decode cX10_checkDay 150 = .ok (.invokevirtual 114, 3) := by decide +kernel
theorem dX10_checkDay_153 : decode cX10_checkDay 153 = .ok (.isub, 1) := by decide +kernel
theorem dX10_checkDay_154 : decode cX10_checkDay 154 = .ok (.goto 4, 3) := by decide +kernel
theorem dX10_checkDay_157 : decode cX10_checkDay 157 = .ok (.iconst 0, 1) := by decide +kernel
theorem dX10_checkDay_158 : decode cX10_checkDay 158 = .ok (.ireturn, 1) := by decide +kernel
theorem dX10_isAct_0 : decode cX10_isAct 0 = .ok (.iload_n 0, 1) := by decide +kernel
theorem dX10_isAct_1 : decode cX10_isAct 1 = .ok (.lookupswitch 61 #[(97, 59), (98, 59), (99, 59), (103, 59), (112, 59), (119, 59)], 59) := by decide +kernel
theorem dX10_isAct_60 : decode cX10_isAct 60 = .ok (.iconst 1, 1) := by decide +kernel
theorem dX10_isAct_61 : decode cX10_isAct 61 = .ok (.ireturn, 1) := by decide +kernel
theorem dX10_isAct_62 : decode cX10_isAct 62 = .ok (.iconst 0, 1) := by decide +kernel
theorem dX10_isAct_63 : decode cX10_isAct 63 = .ok (.ireturn, 1) := by decide +kernel
theorem dX10_signsOf_0 : decode cX10_signsOf 0 = .ok (.iload_n 0, 1) := by decide +kernel
theorem dX10_signsOf_1 : decode cX10_signsOf 1 = .ok (.lookupswitch 55 #[(98, 51), (99, 53), (103, 51), (112, 53), (119, 51)], 51) := by decide +kernel
theorem dX10_signsOf_52 : decode cX10_signsOf 52 = .ok (.iconst 2, 1) := by decide +kernel
theorem dX10_signsOf_53 : decode cX10_signsOf 53 = .ok (.ireturn, 1) := by decide +kernel
theorem dX10_signsOf_54 : decode cX10_signsOf 54 = .ok (.iconst 3, 1) := by decide +kernel
theorem dX10_signsOf_55 : decode cX10_signsOf 55 = .ok (.ireturn, 1) := by decide +kernel
theorem dX10_signsOf_56 : decode cX10_signsOf 56 = .ok (.iconst 1, 1) := by decide +kernel
theorem dX10_signsOf_57 : decode cX10_signsOf 57 = .ok (.ireturn, 1) := by decide +kernel
theorem dX10_isSecondDigit_0 : decode cX10_isSecondDigit 0 = .ok (.iload_n 0, 1) := by decide +kernel
theorem dX10_isSecondDigit_1 : decode cX10_isSecondDigit 1 = .ok (.bipush 99, 2) := by decide +kernel
theorem dX10_isSecondDigit_3 : decode cX10_isSecondDigit 3 = .ok (.if_icmp .ne 23, 3) := by decide +kernel
theorem dX10_isSecondDigit_6 : decode cX10_isSecondDigit 6 = .ok (.iload_n 1, 1) := by decide +kernel
theorem dX10_isSecondDigit_7 : decode cX10_isSecondDigit 7 = .ok (.bipush 49, 2) := by decide +kernel
theorem dX10_isSecondDigit_9 : decode cX10_isSecondDigit 9 = .ok (.if_icmp .lt 13, 3) := by decide +kernel
theorem dX10_isSecondDigit_12 : decode cX10_isSecondDigit 12 = .ok (.iload_n 1, 1) := by decide +kernel
theorem dX10_isSecondDigit_13 : decode cX10_isSecondDigit 13 = .ok (.bipush 57, 2) := by decide +kernel
theorem dX10_isSecondDigit_15 : decode cX10_isSecondDigit 15 = .ok (.if_icmp .gt 7, 3) := by decide +kernel
theorem dX10_isSecondDigit_18 : decode cX10_isSecondDigit 18 = .ok (.iconst 1, 1) := by decide +kernel
theorem dX10_isSecondDigit_19 : decode cX10_isSecondDigit 19 = .ok (.goto 24, 3) := by decide +kernel
theorem dX10_isSecondDigit_22 : decode cX10_isSecondDigit 22 = .ok (.iconst 0, 1) := by decide +kernel
theorem dX10_isSecondDigit_23 : decode cX10_isSecondDigit 23 = .ok (.goto 20, 3) := by decide +kernel
theorem dX10_isSecondDigit_26 : decode cX10_isSecondDigit 26 = .ok (.iload_n 1, 1) := by decide +kernel
theorem dX10_isSecondDigit_27 : decode cX10_isSecondDigit 27 = .ok (.bipush 48, 2) := by decide +kernel
theorem dX10_isSecondDigit_29 : decode cX10_isSecondDigit 29 = .ok (.if_icmp .lt 13, 3) := by decide +kernel
theorem dX10_isSecondDigit_32 : decode cX10_isSecondDigit 32 = .ok (.iload_n 1, 1) := by decide +kernel
theorem dX10_isSecondDigit_33 : decode cX10_isSecondDigit 33 = .ok (.bipush 51, 2) := by decide +kernel
theorem dX10_isSecondDigit_35 : decode cX10_isSecondDigit 35 = .ok (.if_icmp .gt 7, 3) := by decide +kernel
theorem dX10_isSecondDigit_38 : decode cX10_isSecondDigit 38 = .ok (.iconst 1, 1) := by decide +kernel
theorem dX10_isSecondDigit_39 : decode cX10_isSecondDigit 39 = .ok (.goto 4, 3) := by decide +kernel
theorem dX10_isSecondDigit_42 : decode cX10_isSecondDigit 42 = .ok (.iconst 0, 1) := by decide +kernel
theorem dX10_isSecondDigit_43 : decode cX10_isSecondDigit 43 = .ok (.ireturn, 1) := by decide +kernel
theorem dX10_isDigit_0 : decode cX10_isDigit 0 = .ok (.iload_n 0, 1) := by decide +kernel
theorem dX10_isDigit_1 : decode cX10_isDigit 1 = .ok (.bipush 48, 2) := by decide +kernel
theorem dX10_isDigit_3 : decode cX10_isDigit 3 = .ok (.if_icmp .lt 13, 3) := by decide +kernel
theorem dX10_isDigit_6 : decode cX10_isDigit 6 = .ok (.iload_n 0, 1) := by decide +kernel
theorem dX10_isDigit_7 : decode cX10_isDigit 7 = .ok (.bipush 57, 2) := by decide +kernel
theorem dX10_isDigit_9 : decode cX10_isDigit 9 = .ok (.if_icmp .gt 7, 3) := by decide +kernel
theorem dX10_isDigit_12 : decode cX10_isDigit 12 = .ok (.iconst 1, 1) := by decide +kernel
theorem dX10_isDigit_13 : decode cX10_isDigit 13 = .ok (.goto 4, 3) := by decide +kernel
theorem dX10_isDigit_16 : decode cX10_isDigit 16 = .ok (.iconst 0, 1) := by decide +kernel
theorem dX10_isDigit_17 : decode cX10_isDigit 17 = .ok (.ireturn, 1) := by decide +kernel
theorem dX10_stepOf_0 : decode cX10_stepOf 0 = .ok (.aload_n 0, 1) := by decide +kernel
theorem dX10_stepOf_1 : decode cX10_stepOf 1 = .ok (.getfield 26, 3) := by decide +kernel
theorem dX10_stepOf_4 : decode cX10_stepOf 4 = .ok (.iload_n 2, 1) := by decide +kernel
theorem dX10_stepOf_5 : decode cX10_stepOf 5 = .ok (.invokevirtual 176, 3) := by decide +kernel
theorem dX10_stepOf_8 : decode cX10_stepOf 8 = .ok (.ifCond .ne 5, 3) := by decide +kernel
theorem dX10_stepOf_11 : decode cX10_stepOf 11 = .ok (.iconst 0, 1) := by decide +kernel
theorem dX10_stepOf_12 : decode cX10_stepOf 12 = .ok (.ireturn, 1) := by decide +kernel
theorem dX10_stepOf_13 : decode cX10_stepOf 13 = .ok (.aload_n 1, 1) := by decide +kernel
theorem dX10_stepOf_14 : decode cX10_stepOf 14 = .ok (.getfield 167, 3) := by decide +kernel
theorem dX10_stepOf_17 : decode cX10_stepOf 17 = .ok (.iload_n 2, 1) := by decide +kernel
theorem dX10_stepOf_18 : decode cX10_stepOf 18 = .ok (.dup2, 1) := by decide +kernel
theorem dX10_stepOf_19 : decode cX10_stepOf 19 = .ok (.iaload, 1) := by decide +kernel
theorem dX10_stepOf_20 : decode cX10_stepOf 20 = .ok (.iconst 1, 1) := by decide +kernel
theorem dX10_stepOf_21 : decode cX10_stepOf 21 = .ok (.isub, 1) := by decide +kernel
theorem dX10_stepOf_22 : decode cX10_stepOf 22 = .ok (.iastore, 1) := by decide +kernel
theorem dX10_stepOf_23 : decode cX10_stepOf 23 = .ok (.aload_n 0, 1) := by decide +kernel
theorem dX10_stepOf_24 : decode cX10_stepOf 24 = .ok (.aload_n 1, 1) := by decide +kernel
theorem dX10_stepOf_25 : decode cX10_stepOf 25 = .ok (.aload_n 0, 1) := by decide +kernel
theorem dX10_stepOf_26 : decode cX10_stepOf 26 = .ok (.getfield 36, 3) := by decide +kernel
theorem dX10_stepOf_29 : decode cX10_stepOf 29 = .ok (.iload_n 2, 1) := by decide +kernel
theorem dX10_stepOf_30 : decode cX10_stepOf 30 = .ok (.invokevirtual 303, 3) := by decide +kernel
theorem dX10_stepOf_33 : decode cX10_stepOf 33 = .ok (.istore_n 3, 1) := by decide +kernel
theorem dX10_stepOf_34 : decode cX10_stepOf 34 = .ok (.aload_n 0, 1) := by decide +kernel
theorem dX10_stepOf_35 : decode cX10_stepOf 35 = .ok (.getfield 26, 3) := by decide +kernel
theorem dX10_stepOf_38 : decode cX10_stepOf 38 = .ok (.iload_n 3, 1) := by decide +kernel
theorem dX10_stepOf_39 : decode cX10_stepOf 39 = .ok (.invokevirtual 176, 3) := by decide +kernel
theorem dX10_stepOf_42 : decode cX10_stepOf 42 = .ok (.ifCond .eq 13, 3) := by decide +kernel
theorem dX10_stepOf_45 : decode cX10_stepOf 45 = .ok (.aload_n 1, 1) := by decide +kernel
theorem dX10_stepOf_46 : decode cX10_stepOf 46 = .ok (.getfield 167, 3) := by decide +kernel
theorem dX10_stepOf_49 : decode cX10_stepOf 49 = .ok (.iload_n 3, 1) := by decide +kernel
theorem dX10_stepOf_50 : decode cX10_stepOf 50 = .ok (.dup2, 1) := by decide +kernel
theorem dX10_stepOf_51 : decode cX10_stepOf 51 = .ok (.iaload, 1) := by decide +kernel
theorem dX10_stepOf_52 : decode cX10_stepOf 52 = .ok (.iconst 1, 1) := by decide +kernel
theorem dX10_stepOf_53 : decode cX10_stepOf 53 = .ok (.iadd, 1) := by decide +kernel
theorem dX10_stepOf_54 : decode cX10_stepOf 54 = .ok (.iastore, 1) := by decide +kernel
theorem dX10_stepOf_55 : decode cX10_stepOf 55 = .ok (.iload_n 3, 1) := by decide +kernel
theorem dX10_stepOf_56 : decode cX10_stepOf 56 = .ok (.ireturn, 1) := by decide +kernel
theorem dX10_stride_0 : decode cX10_stride 0 = .ok (.aload_n 0, 1) := by decide +kernel
theorem dX10_stride_1 : decode cX10_stride 1 = .ok (.getfield 26, 3) := by decide +kernel
theorem dX10_stride_4 : decode cX10_stride 4 = .ok (.iload_n 3, 1) := by decide +kernel
theorem dX10_stride_5 : decode cX10_stride 5 = .ok (.invokevirtual 156, 3) := by decide +kernel
theorem dX10_stride_8 : decode cX10_stride 8 = .ok (.istore 4, 2) := by decide +kernel
theorem dX10_stride_10 : decode cX10_stride 10 = .ok (.iload 4, 2) := by decide +kernel
theorem dX10_stride_12 : decode cX10_stride 12 = .ok (.iconst 1, 1) := by decide +kernel
theorem dX10_stride_13 : decode cX10_stride 13 = .ok (.if_icmp .ge 5, 3) := by decide +kernel
theorem dX10_stride_16 : decode cX10_stride 16 = .ok (.iconst 0, 1) := by decide +kernel
theorem dX10_stride_17 : decode cX10_stride 17 = .ok (.ireturn, 1) := by decide +kernel
theorem dX10_stride_18 : decode cX10_stride 18 = .ok (.aload_n 0, 1) := by decide +kernel
theorem dX10_stride_19 : decode cX10_stride 19 = .ok (.getfield 26, 3) := by decide +kernel
theorem dX10_stride_22 : decode cX10_stride 22 = .ok (.iload_n 3, 1) := by decide +kernel
theorem dX10_stride_23 : decode cX10_stride 23 = .ok (.aload_n 1, 1) := by decide +kernel
theorem dX10_stride_24 : decode cX10_stride 24 = .ok (.getfield 160, 3) := by decide +kernel
theorem dX10_stride_27 : decode cX10_stride 27 = .ok (.iload_n 3, 1) := by decide +kernel
theorem dX10_stride_28 : decode cX10_stride 28 = .ok (.iaload, 1) := by decide +kernel
theorem dX10_stride_29 : decode cX10_stride 29 = .ok (.invokevirtual 163, 3) := by decide +kernel
theorem dX10_stride_32 : decode cX10_stride 32 = .ok (.istore 5, 2) := by decide +kernel
theorem dX10_stride_34 : decode cX10_stride 34 = .ok (.aload_n 2, 1) := by decide +kernel
theorem dX10_stride_35 : decode cX10_stride 35 = .ok (.aload_n 1, 1) := by decide +kernel
theorem dX10_stride_36 : decode cX10_stride 36 = .ok (.iload_n 3, 1) := by decide +kernel
theorem dX10_stride_37 : decode cX10_stride 37 = .ok (.iload 4, 2) := by decide +kernel
theorem dX10_stride_39 : decode cX10_stride 39 = .ok (.iload 5, 2) := by decide +kernel
theorem dX10_stride_41 : decode cX10_stride 41 = .ok (.invokevirtual 179, 3) := by decide +kernel
theorem dX10_stride_44 : decode cX10_stride 44 = .ok (.istore 6, 2) := by decide +kernel
theorem dX10_stride_46 : decode cX10_stride 46 = .ok (.aload_n 1, 1) := by decide +kernel
theorem dX10_stride_47 : decode cX10_stride 47 = .ok (.getfield 160, 3) := by decide +kernel
theorem dX10_stride_50 : decode cX10_stride 50 = .ok (.iload_n 3, 1) := by decide +kernel
theorem dX10_stride_51 : decode cX10_stride 51 = .ok (.aload_n 1, 1) := by decide +kernel
theorem dX10_stride_52 : decode cX10_stride 52 = .ok (.getfield 160, 3) := by decide +kernel
theorem dX10_stride_55 : decode cX10_stride 55 = .ok (.iload_n 3, 1) := by decide +kernel
theorem dX10_stride_56 : decode cX10_stride 56 = .ok (.iaload, 1) := by decide +kernel
theorem dX10_stride_57 : decode cX10_stride 57 = .ok (.iload 6, 2) := by decide +kernel
theorem dX10_stride_59 : decode cX10_stride 59 = .ok (.iadd, 1) := by decide +kernel
theorem dX10_stride_60 : decode cX10_stride 60 = .ok (.iload 4, 2) := by decide +kernel
theorem dX10_stride_62 : decode cX10_stride 62 = .ok (.irem, 1) := by decide +kernel
theorem dX10_stride_63 : decode cX10_stride 63 = .ok (.iastore, 1) := by decide +kernel
theorem dX10_stride_64 : decode cX10_stride 64 = .ok (.iload 5, 2) := by decide +kernel
theorem dX10_stride_66 : decode cX10_stride 66 = .ok (.ifCond .ne 8, 3) := by decide +kernel
theorem dX10_stride_69 : decode cX10_stride 69 = .ok (.aload_n 1, 1) := by decide +kernel
theorem dX10_stride_70 : decode cX10_stride 70 = .ok (.iconst 1, 1) := by decide +kernel
theorem dX10_stride_71 : decode cX10_stride 71 = .ok (.invokevirtual 287, 3) := by decide +kernel
theorem dX10_stride_74 : decode cX10_stride 74 = .ok (.aload_n 1, 1) := by decide +kernel
theorem dX10_stride_75 : decode cX10_stride 75 = .ok (.ldc_w 306, 3) := by decide +kernel
theorem dX10_stride_78 : decode cX10_stride 78 = .ok (.aload_n 1, 1) := by decide +kernel
theorem dX10_stride_79 : decode cX10_stride 79 = .ok (.getfield 307, 3) := by decide +kernel
theorem dX10_stride_82 : decode cX10_stride 82 = .ok (.iconst 1, 1) := by decide +kernel
theorem dX10_stride_83 : decode cX10_stride 83 = .ok (.iadd, 1) := by decide +kernel
theorem dX10_stride_84 : decode cX10_stride 84 = .ok (.invokestatic 193, 3) := by decide +kernel
theorem dX10_stride_87 : decode cX10_stride 87 = .ok (.putfield 307, 3) := by decide +kernel
theorem dX10_stride_90 : decode cX10_stride 90 = .ok (.iload 5, 2) := by decide +kernel
theorem dX10_stride_92 : decode cX10_stride 92 = .ok (.ireturn, 1) := by decide +kernel
theorem dX10_walkHome_0 : decode cX10_walkHome 0 = .ok (.iconst 0, 1) := by decide +kernel
theorem dX10_walkHome_1 : decode cX10_walkHome 1 = .ok (.istore 4, 2) := by decide +kernel
theorem dX10_walkHome_3 : decode cX10_walkHome 3 = .ok (.iload 4, 2) := by decide +kernel
theorem dX10_walkHome_5 : decode cX10_walkHome 5 = .ok (.aload_n 0, 1) := by decide +kernel
theorem dX10_walkHome_6 : decode cX10_walkHome 6 = .ok (.getfield 91, 3) := by decide +kernel
theorem dX10_walkHome_9 : decode cX10_walkHome 9 = .ok (.arraylength, 1) := by decide +kernel
theorem dX10_walkHome_10 : decode cX10_walkHome 10 = .ok (.if_icmp .ge 17, 3) := by decide +kernel
theorem dX10_walkHome_13 : decode cX10_walkHome 13 = .ok (.aload_n 0, 1) := by decide +kernel
theorem dX10_walkHome_14 : decode cX10_walkHome 14 = .ok (.getfield 91, 3) := by decide +kernel
theorem dX10_walkHome_17 : decode cX10_walkHome 17 = .ok (.iload 4, 2) := by decide +kernel
theorem dX10_walkHome_19 : decode cX10_walkHome 19 = .ok (.iconst 0, 1) := by decide +kernel
theorem dX10_walkHome_20 : decode cX10_walkHome 20 = .ok (.iastore, 1) := by decide +kernel
theorem dX10_walkHome_21 : decode cX10_walkHome 21 = .ok (.iinc 4 1, 3) := by decide +kernel
theorem dX10_walkHome_24 : decode cX10_walkHome 24 = .ok (.goto (-21), 3) := by decide +kernel
theorem dX10_walkHome_27 : decode cX10_walkHome 27 = .ok (.iload_n 3, 1) := by decide +kernel
theorem dX10_walkHome_28 : decode cX10_walkHome 28 = .ok (.istore 4, 2) := by decide +kernel
theorem dX10_walkHome_30 : decode cX10_walkHome 30 = .ok (.iconst 1, 1) := by decide +kernel
theorem dX10_walkHome_31 : decode cX10_walkHome 31 = .ok (.istore 5, 2) := by decide +kernel
theorem dX10_walkHome_33 : decode cX10_walkHome 33 = .ok (.iload 5, 2) := by decide +kernel
theorem dX10_walkHome_35 : decode cX10_walkHome 35 = .ok (.sipush 999, 3) := by decide +kernel
theorem dX10_walkHome_38 : decode cX10_walkHome 38 = .ok (.if_icmp .gt 53, 3) := by decide +kernel
theorem dX10_walkHome_41 : decode cX10_walkHome 41 = .ok (.aload_n 0, 1) := by decide +kernel
theorem dX10_walkHome_42 : decode cX10_walkHome 42 = .ok (.getfield 26, 3) := by decide +kernel
theorem dX10_walkHome_45 : decode cX10_walkHome 45 = .ok (.iload 4, 2) := by decide +kernel
theorem dX10_walkHome_47 : decode cX10_walkHome 47 = .ok (.invokevirtual 176, 3) := by decide +kernel
theorem dX10_walkHome_50 : decode cX10_walkHome 50 = .ok (.ifCond .ne 6, 3) := by decide +kernel
theorem dX10_walkHome_53 : decode cX10_walkHome 53 = .ok (.bipush (-3), 2) := by decide +kernel
theorem dX10_walkHome_55 : decode cX10_walkHome 55 = .ok (.ireturn, 1) := by decide +kernel
theorem dX10_walkHome_56 : decode cX10_walkHome 56 = .ok (.aload_n 0, 1) := by decide +kernel
theorem dX10_walkHome_57 : decode cX10_walkHome 57 = .ok (.getfield 91, 3) := by decide +kernel
theorem dX10_walkHome_60 : decode cX10_walkHome 60 = .ok (.iload 4, 2) := by decide +kernel
theorem dX10_walkHome_62 : decode cX10_walkHome 62 = .ok (.dup2, 1) := by decide +kernel
theorem dX10_walkHome_63 : decode cX10_walkHome 63 = .ok (.iaload, 1) := by decide +kernel
theorem dX10_walkHome_64 : decode cX10_walkHome 64 = .ok (.iconst 1, 1) := by decide +kernel
theorem dX10_walkHome_65 : decode cX10_walkHome 65 = .ok (.iadd, 1) := by decide +kernel
theorem dX10_walkHome_66 : decode cX10_walkHome 66 = .ok (.iastore, 1) := by decide +kernel
theorem dX10_walkHome_67 : decode cX10_walkHome 67 = .ok (.aload_n 0, 1) := by decide +kernel
theorem dX10_walkHome_68 : decode cX10_walkHome 68 = .ok (.aload_n 1, 1) := by decide +kernel
theorem dX10_walkHome_69 : decode cX10_walkHome 69 = .ok (.aload_n 2, 1) := by decide +kernel
theorem dX10_walkHome_70 : decode cX10_walkHome 70 = .ok (.iload 4, 2) := by decide +kernel
theorem dX10_walkHome_72 : decode cX10_walkHome 72 = .ok (.invokevirtual 303, 3) := by decide +kernel
theorem dX10_walkHome_75 : decode cX10_walkHome 75 = .ok (.istore 4, 2) := by decide +kernel
theorem dX10_walkHome_77 : decode cX10_walkHome 77 = .ok (.iload 4, 2) := by decide +kernel
theorem dX10_walkHome_79 : decode cX10_walkHome 79 = .ok (.ifCond .ne 6, 3) := by decide +kernel
theorem dX10_walkHome_82 : decode cX10_walkHome 82 = .ok (.iload 5, 2) := by decide +kernel
theorem dX10_walkHome_84 : decode cX10_walkHome 84 = .ok (.ireturn, 1) := by decide +kernel
theorem dX10_walkHome_85 : decode cX10_walkHome 85 = .ok (.iinc 5 1, 3) := by decide +kernel
theorem dX10_walkHome_88 : decode cX10_walkHome 88 = .ok (.goto (-55), 3) := by decide +kernel
theorem dX10_walkHome_91 : decode cX10_walkHome 91 = .ok (.bipush (-3), 2) := by decide +kernel
theorem dX10_walkHome_93 : decode cX10_walkHome 93 = .ok (.ireturn, 1) := by decide +kernel
theorem dX10_canBurst_0 : decode cX10_canBurst 0 = .ok (.aload_n 0, 1) := by decide +kernel
theorem dX10_canBurst_1 : decode cX10_canBurst 1 = .ok (.getfield 26, 3) := by decide +kernel
theorem dX10_canBurst_4 : decode cX10_canBurst 4 = .ok (.iload_n 2, 1) := by decide +kernel
theorem dX10_canBurst_5 : decode cX10_canBurst 5 = .ok (.invokevirtual 176, 3) := by decide +kernel
theorem dX10_canBurst_8 : decode cX10_canBurst 8 = .ok (.ifCond .eq 24, 3) := by decide +kernel
theorem dX10_canBurst_11 : decode cX10_canBurst 11 = .ok (.aload_n 1, 1) := by decide +kernel
theorem dX10_canBurst_12 : decode cX10_canBurst 12 = .ok (.getfield 167, 3) := by decide +kernel
theorem dX10_canBurst_15 : decode cX10_canBurst 15 = .ok (.iload_n 2, 1) := by decide +kernel
theorem dX10_canBurst_16 : decode cX10_canBurst 16 = .ok (.iaload, 1) := by decide +kernel
theorem dX10_canBurst_17 : decode cX10_canBurst 17 = .ok (.aload_n 0, 1) := by decide +kernel
theorem dX10_canBurst_18 : decode cX10_canBurst 18 = .ok (.getfield 26, 3) := by decide +kernel
theorem dX10_canBurst_21 : decode cX10_canBurst 21 = .ok (.iload_n 2, 1) := by decide +kernel
theorem dX10_canBurst_22 : decode cX10_canBurst 22 = .ok (.invokevirtual 156, 3) := by decide +kernel
theorem dX10_canBurst_25 : decode cX10_canBurst 25 = .ok (.if_icmp .lt 7, 3) := by decide +kernel
theorem dX10_canBurst_28 : decode cX10_canBurst 28 = .ok (.iconst 1, 1) := by decide +kernel
theorem dX10_canBurst_29 : decode cX10_canBurst 29 = .ok (.goto 4, 3) := by decide +kernel
theorem dX10_canBurst_32 : decode cX10_canBurst 32 = .ok (.iconst 0, 1) := by decide +kernel
theorem dX10_canBurst_33 : decode cX10_canBurst 33 = .ok (.ireturn, 1) := by decide +kernel
theorem dX10_burst_0 : decode cX10_burst 0 = .ok (.aload_n 0, 1) := by decide +kernel
theorem dX10_burst_1 : decode cX10_burst 1 = .ok (.getfield 26, 3) := by decide +kernel
theorem dX10_burst_4 : decode cX10_burst 4 = .ok (.iload_n 2, 1) := by decide +kernel
theorem dX10_burst_5 : decode cX10_burst 5 = .ok (.invokevirtual 176, 3) := by decide +kernel
theorem dX10_burst_8 : decode cX10_burst 8 = .ok (.ifCond .ne 5, 3) := by decide +kernel
theorem dX10_burst_11 : decode cX10_burst 11 = .ok (.iconst 0, 1) := by decide +kernel
theorem dX10_burst_12 : decode cX10_burst 12 = .ok (.ireturn, 1) := by decide +kernel
theorem dX10_burst_13 : decode cX10_burst 13 = .ok (.aload_n 0, 1) := by decide +kernel
theorem dX10_burst_14 : decode cX10_burst 14 = .ok (.getfield 26, 3) := by decide +kernel
theorem dX10_burst_17 : decode cX10_burst 17 = .ok (.iload_n 2, 1) := by decide +kernel
theorem dX10_burst_18 : decode cX10_burst 18 = .ok (.invokevirtual 156, 3) := by decide +kernel
theorem dX10_burst_21 : decode cX10_burst 21 = .ok (.istore_n 3, 1) := by decide +kernel
theorem dX10_burst_22 : decode cX10_burst 22 = .ok (.aload_n 0, 1) := by decide +kernel
theorem dX10_burst_23 : decode cX10_burst 23 = .ok (.getfield 26, 3) := by decide +kernel
theorem dX10_burst_26 : decode cX10_burst 26 = .ok (.iload_n 2, 1) := by decide +kernel
theorem dX10_burst_27 : decode cX10_burst 27 = .ok (.iconst 0, 1) := by decide +kernel
theorem dX10_burst_28 : decode cX10_burst 28 = .ok (.invokevirtual 284, 3) := by decide +kernel
theorem dX10_burst_31 : decode cX10_burst 31 = .ok (.istore 4, 2) := by decide +kernel
theorem dX10_burst_33 : decode cX10_burst 33 = .ok (.aload_n 1, 1) := by decide +kernel
theorem dX10_burst_34 : decode cX10_burst 34 = .ok (.getfield 167, 3) := by decide +kernel
theorem dX10_burst_37 : decode cX10_burst 37 = .ok (.iload_n 2, 1) := by decide +kernel
theorem dX10_burst_38 : decode cX10_burst 38 = .ok (.dup2, 1) := by decide +kernel
theorem dX10_burst_39 : decode cX10_burst 39 = .ok (.iaload, 1) := by decide +kernel
theorem dX10_burst_40 : decode cX10_burst 40 = .ok (.iload_n 3, 1) := by decide +kernel
theorem dX10_burst_41 : decode cX10_burst 41 = .ok (.isub, 1) := by decide +kernel
theorem dX10_burst_42 : decode cX10_burst 42 = .ok (.iastore, 1) := by decide +kernel
theorem dX10_burst_43 : decode cX10_burst 43 = .ok (.iconst 0, 1) := by decide +kernel
theorem dX10_burst_44 : decode cX10_burst 44 = .ok (.istore 5, 2) := by decide +kernel
theorem dX10_burst_46 : decode cX10_burst 46 = .ok (.iload 5, 2) := by decide +kernel
theorem dX10_burst_48 : decode cX10_burst 48 = .ok (.iload_n 3, 1) := by decide +kernel
theorem dX10_burst_49 : decode cX10_burst 49 = .ok (.if_icmp .ge 44, 3) := by decide +kernel
theorem dX10_burst_52 : decode cX10_burst 52 = .ok (.aload_n 0, 1) := by decide +kernel
theorem dX10_burst_53 : decode cX10_burst 53 = .ok (.getfield 26, 3) := by decide +kernel
theorem dX10_burst_56 : decode cX10_burst 56 = .ok (.iload_n 2, 1) := by decide +kernel
theorem dX10_burst_57 : decode cX10_burst 57 = .ok (.iload 5, 2) := by decide +kernel
theorem dX10_burst_59 : decode cX10_burst 59 = .ok (.invokevirtual 163, 3) := by decide +kernel
theorem dX10_burst_62 : decode cX10_burst 62 = .ok (.istore 6, 2) := by decide +kernel
theorem dX10_burst_64 : decode cX10_burst 64 = .ok (.aload_n 0, 1) := by decide +kernel
theorem dX10_burst_65 : decode cX10_burst 65 = .ok (.getfield 26, 3) := by decide +kernel
theorem dX10_burst_68 : decode cX10_burst 68 = .ok (.iload 6, 2) := by decide +kernel
theorem dX10_burst_70 : decode cX10_burst 70 = .ok (.invokevirtual 176, 3) := by decide +kernel
theorem dX10_burst_73 : decode cX10_burst 73 = .ok (.ifCond .eq 14, 3) := by decide +kernel
theorem dX10_burst_76 : decode cX10_burst 76 = .ok (.aload_n 1, 1) := by decide +kernel
theorem dX10_burst_77 : decode cX10_burst 77 = .ok (.getfield 167, 3) := by decide +kernel
theorem dX10_burst_80 : decode cX10_burst 80 = .ok (.iload 6, 2) := by decide +kernel
theorem dX10_burst_82 : decode cX10_burst 82 = .ok (.dup2, 1) := by decide +kernel
theorem dX10_burst_83 : decode cX10_burst 83 = .ok (.iaload, 1) := by decide +kernel
theorem dX10_burst_84 : decode cX10_burst 84 = .ok (.iconst 1, 1) := by decide +kernel
theorem dX10_burst_85 : decode cX10_burst 85 = .ok (.iadd, 1) := by decide +kernel
theorem dX10_burst_86 : decode cX10_burst 86 = .ok (.iastore, 1) := by decide +kernel
theorem dX10_burst_87 : decode cX10_burst 87 = .ok (.iinc 5 1, 3) := by decide +kernel
theorem dX10_burst_90 : decode cX10_burst 90 = .ok (.goto (-44), 3) := by decide +kernel
theorem dX10_burst_93 : decode cX10_burst 93 = .ok (.aload_n 1, 1) := by decide +kernel
theorem dX10_burst_94 : decode cX10_burst 94 = .ok (.iload 4, 2) := by decide +kernel
theorem dX10_burst_96 : decode cX10_burst 96 = .ok (.invokevirtual 287, 3) := by decide +kernel
theorem dX10_burst_99 : decode cX10_burst 99 = .ok (.iload 4, 2) := by decide +kernel
theorem dX10_burst_101 : decode cX10_burst 101 = .ok (.ireturn, 1) := by decide +kernel
theorem dX10_later_0 : decode cX10_later 0 = .ok (.aload_n 0, 1) := by decide +kernel
theorem dX10_later_1 : decode cX10_later 1 = .ok (.getfield 26, 3) := by decide +kernel
theorem dX10_later_4 : decode cX10_later 4 = .ok (.iload_n 1, 1) := by decide +kernel
theorem dX10_later_5 : decode cX10_later 5 = .ok (.invokevirtual 176, 3) := by decide +kernel
theorem dX10_later_8 : decode cX10_later 8 = .ok (.ifCond .eq 13, 3) := by decide +kernel
theorem dX10_later_11 : decode cX10_later 11 = .ok (.iload_n 2, 1) := by decide +kernel
theorem dX10_later_12 : decode cX10_later 12 = .ok (.ifCond .lt 9, 3) := by decide +kernel
theorem dX10_later_15 : decode cX10_later 15 = .ok (.iload_n 2, 1) := by decide +kernel
theorem dX10_later_16 : decode cX10_later 16 = .ok (.bipush 99, 2) := by decide +kernel
theorem dX10_later_18 : decode cX10_later 18 = .ok (.if_icmp .le 5, 3) := by decide +kernel
theorem dX10_later_21 : decode cX10_later 21 = .ok (.iconst (-1), 1) := by decide +kernel
theorem dX10_later_22 : decode cX10_later 22 = .ok (.ireturn, 1) := by decide +kernel
theorem dX10_later_23 : decode cX10_later 23 = .ok (.aload_n 0, 1) := by decide +kernel
theorem dX10_later_24 : decode cX10_later 24 = .ok (.getfield 50, 3) := by decide +kernel
theorem dX10_later_27 : decode cX10_later 27 = .ok (.aload_n 0, 1) := by decide +kernel
theorem dX10_later_28 : decode cX10_later 28 = .ok (.getfield 46, 3) := by decide +kernel
theorem dX10_later_31 : decode cX10_later 31 = .ok (.invokevirtual 201, 3) := by decide +kernel
theorem dX10_later_34 : decode cX10_later 34 = .ok (.iload_n 1, 1) := by decide +kernel
theorem dX10_later_35 : decode cX10_later 35 = .ok (.istore_n 3, 1) := by decide +kernel
theorem dX10_later_36 : decode cX10_later 36 = .ok (.iconst 0, 1) := by decide +kernel
theorem dX10_later_37 : decode cX10_later 37 = .ok (.istore 4, 2) := by decide +kernel
theorem dX10_later_39 : decode cX10_later 39 = .ok (.iconst 1, 1) := by decide +kernel
theorem dX10_later_40 : decode cX10_later 40 = .ok (.istore 5, 2) := by decide +kernel
theorem dX10_later_42 : decode cX10_later 42 = .ok (.iload 4, 2) := by decide +kernel
theorem dX10_later_44 : decode cX10_later 44 = .ok (.iload_n 2, 1) := by decide +kernel
theorem dX10_later_45 : decode cX10_later 45 = .ok (.if_icmp .ge 35, 3) := by decide +kernel
theorem dX10_later_48 : decode cX10_later 48 = .ok (.iload_n 3, 1) := by decide +kernel
theorem dX10_later_49 : decode cX10_later 49 = .ok (.ifCond .eq 31, 3) := by decide +kernel
theorem dX10_later_52 : decode cX10_later 52 = .ok (.aload_n 0, 1) := by decide +kernel
theorem dX10_later_53 : decode cX10_later 53 = .ok (.aload_n 0, 1) := by decide +kernel
theorem dX10_later_54 : decode cX10_later 54 = .ok (.getfield 50, 3) := by decide +kernel
theorem dX10_later_57 : decode cX10_later 57 = .ok (.aload_n 0, 1) := by decide +kernel
theorem dX10_later_58 : decode cX10_later 58 = .ok (.getfield 36, 3) := by decide +kernel
theorem dX10_later_61 : decode cX10_later 61 = .ok (.iload_n 3, 1) := by decide +kernel
theorem dX10_later_62 : decode cX10_later 62 = .ok (.invokevirtual 303, 3) := by decide +kernel
theorem dX10_later_65 : decode cX10_later 65 = .ok (.istore_n 3, 1) := by decide +kernel
theorem dX10_later_66 : decode cX10_later 66 = .ok (.iinc 4 1, 3) := by decide +kernel
theorem dX10_later_69 : decode cX10_later 69 = .ok (.iload_n 3, 1) := by decide +kernel
theorem dX10_later_70 : decode cX10_later 70 = .ok (.iload_n 1, 1) := by decide +kernel
theorem dX10_later_71 : decode cX10_later 71 = .ok (.if_icmp .ne (-29), 3) := by decide +kernel
theorem dX10_later_74 : decode cX10_later 74 = .ok (.iinc 5 1, 3) := by decide +kernel
theorem dX10_later_77 : decode cX10_later 77 = .ok (.goto (-35), 3) := by decide +kernel
theorem dX10_later_80 : decode cX10_later 80 = .ok (.aload_n 0, 1) := by decide +kernel
theorem dX10_later_81 : decode cX10_later 81 = .ok (.getfield 19, 3) := by decide +kernel
theorem dX10_later_84 : decode cX10_later 84 = .ok (.iload 4, 2) := by decide +kernel
theorem dX10_later_86 : decode cX10_later 86 = .ok (.i2l, 1) := by decide +kernel
theorem dX10_later_87 : decode cX10_later 87 = .ok (.iload 5, 2) := by decide +kernel
theorem dX10_later_89 : decode cX10_later 89 = .ok (.i2l, 1) := by decide +kernel
theorem dX10_later_90 : decode cX10_later 90 = .ok (.invokevirtual 241, 3) := by decide +kernel
theorem dX10_later_93 : decode cX10_later 93 = .ok (.iload_n 3, 1) := by decide +kernel
theorem dX10_later_94 : decode cX10_later 94 = .ok (.ireturn, 1) := by decide +kernel
theorem dX10_home_0 : decode cX10_home 0 = .ok (.aload_n 0, 1) := by decide +kernel
theorem dX10_home_1 : decode cX10_home 1 = .ok (.getfield 26, 3) := by decide +kernel
theorem dX10_home_4 : decode cX10_home 4 = .ok (.iload_n 1, 1) := by decide +kernel
theorem dX10_home_5 : decode cX10_home 5 = .ok (.invokevirtual 176, 3) := by decide +kernel
theorem dX10_home_8 : decode cX10_home 8 = .ok (.ifCond .ne 5, 3) := by decide +kernel
theorem dX10_home_11 : decode cX10_home 11 = .ok (.iconst (-1), 1) := by decide +kernel
theorem dX10_home_12 : decode cX10_home 12 = .ok (.ireturn, 1) := by decide +kernel
theorem dX10_home_13 : decode cX10_home 13 = .ok (.aload_n 0, 1) := by decide +kernel
theorem dX10_home_14 : decode cX10_home 14 = .ok (.getfield 50, 3) := by decide +kernel
theorem dX10_home_17 : decode cX10_home 17 = .ok (.aload_n 0, 1) := by decide +kernel
theorem dX10_home_18 : decode cX10_home 18 = .ok (.getfield 46, 3) := by decide +kernel
theorem dX10_home_21 : decode cX10_home 21 = .ok (.invokevirtual 201, 3) := by decide +kernel
theorem dX10_home_24 : decode cX10_home 24 = .ok (.aload_n 0, 1) := by decide +kernel
theorem dX10_home_25 : decode cX10_home 25 = .ok (.aload_n 0, 1) := by decide +kernel
theorem dX10_home_26 : decode cX10_home 26 = .ok (.getfield 50, 3) := by decide +kernel
theorem dX10_home_29 : decode cX10_home 29 = .ok (.aload_n 0, 1) := by decide +kernel
theorem dX10_home_30 : decode cX10_home 30 = .ok (.getfield 36, 3) := by decide +kernel
theorem dX10_home_33 : decode cX10_home 33 = .ok (.iload_n 1, 1) := by decide +kernel
theorem dX10_home_34 : decode cX10_home 34 = .ok (.invokevirtual 254, 3) := by decide +kernel
theorem dX10_home_37 : decode cX10_home 37 = .ok (.istore_n 2, 1) := by decide +kernel
theorem dX10_home_38 : decode cX10_home 38 = .ok (.iload_n 2, 1) := by decide +kernel
theorem dX10_home_39 : decode cX10_home 39 = .ok (.ifCond .lt 21, 3) := by decide +kernel
theorem dX10_home_42 : decode cX10_home 42 = .ok (.aload_n 0, 1) := by decide +kernel
theorem dX10_home_43 : decode cX10_home 43 = .ok (.getfield 19, 3) := by decide +kernel
theorem dX10_home_46 : decode cX10_home 46 = .ok (.aload_n 0, 1) := by decide +kernel
theorem dX10_home_47 : decode cX10_home 47 = .ok (.getfield 91, 3) := by decide +kernel
theorem dX10_home_50 : decode cX10_home 50 = .ok (.aload_n 0, 1) := by decide +kernel
theorem dX10_home_51 : decode cX10_home 51 = .ok (.getfield 26, 3) := by decide +kernel
theorem dX10_home_54 : decode cX10_home 54 = .ok (.invokevirtual 275, 3) := by decide +kernel
theorem dX10_home_57 : decode cX10_home 57 = .ok (.invokevirtual 290, 3) := by decide +kernel
theorem dX10_home_60 : decode cX10_home 60 = .ok (.iload_n 2, 1) := by decide +kernel
theorem dX10_home_61 : decode cX10_home 61 = .ok (.ireturn, 1) := by decide +kernel
theorem dX10_pass_0 : decode cX10_pass 0 = .ok (.aload_n 0, 1) := by decide +kernel
theorem dX10_pass_1 : decode cX10_pass 1 = .ok (.getfield 26, 3) := by decide +kernel
theorem dX10_pass_4 : decode cX10_pass 4 = .ok (.iload_n 1, 1) := by decide +kernel
theorem dX10_pass_5 : decode cX10_pass 5 = .ok (.invokevirtual 176, 3) := by decide +kernel
theorem dX10_pass_8 : decode cX10_pass 8 = .ok (.ifCond .eq 25, 3) := by decide +kernel
theorem dX10_pass_11 : decode cX10_pass 11 = .ok (.aload_n 0, 1) := by decide +kernel
theorem dX10_pass_12 : decode cX10_pass 12 = .ok (.getfield 26, 3) := by decide +kernel
theorem dX10_pass_15 : decode cX10_pass 15 = .ok (.iload_n 2, 1) := by decide +kernel
theorem dX10_pass_16 : decode cX10_pass 16 = .ok (.invokevirtual 176, 3) := by decide +kernel
theorem dX10_pass_19 : decode cX10_pass 19 = .ok (.ifCond .eq 14, 3) := by decide +kernel
theorem dX10_pass_22 : decode cX10_pass 22 = .ok (.iload_n 3, 1) := by decide +kernel
theorem dX10_pass_23 : decode cX10_pass 23 = .ok (.iconst 1, 1) := by decide +kernel
theorem dX10_pass_24 : decode cX10_pass 24 = .ok (.if_icmp .lt 9, 3) := by decide +kernel
theorem dX10_pass_27 : decode cX10_pass 27 = .ok (.iload_n 3, 1) := by decide +kernel
theorem dX10_pass_28 : decode cX10_pass 28 = .ok (.bipush 60, 2) := by decide +kernel
theorem dX10_pass_30 : decode cX10_pass 30 = .ok (.if_icmp .le 5, 3) := by decide +kernel
theorem dX10_pass_33 : decode cX10_pass 33 = .ok (.iconst (-1), 1) := by decide +kernel
theorem dX10_pass_34 : decode cX10_pass 34 = .ok (.ireturn, 1) := by decide +kernel
theorem dX10_pass_35 : decode cX10_pass 35 = .ok (.aload_n 0, 1) := by decide +kernel
theorem dX10_pass_36 : decode cX10_pass 36 = .ok (.getfield 50, 3) := by decide +kernel
theorem dX10_pass_39 : decode cX10_pass 39 = .ok (.aload_n 0, 1) := by decide +kernel
theorem dX10_pass_40 : decode cX10_pass 40 = .ok (.getfield 46, 3) := by decide +kernel
theorem dX10_pass_43 : decode cX10_pass 43 = .ok (.invokevirtual 201, 3) := by decide +kernel
theorem dX10_pass_46 : decode cX10_pass 46 = .ok (.iconst 0, 1) := by decide +kernel
theorem dX10_pass_47 : decode cX10_pass 47 = .ok (.istore 4, 2) := by decide +kernel
theorem dX10_pass_49 : decode cX10_pass 49 = .ok (.iconst 0, 1) := by decide +kernel
theorem dX10_pass_50 : decode cX10_pass 50 = .ok (.istore 5, 2) := by decide +kernel
theorem dX10_pass_52 : decode cX10_pass 52 = .ok (.iconst 0, 1) := by decide +kernel
theorem dX10_pass_53 : decode cX10_pass 53 = .ok (.istore 6, 2) := by decide +kernel
theorem dX10_pass_55 : decode cX10_pass 55 = .ok (.iload 6, 2) := by decide +kernel
theorem dX10_pass_57 : decode cX10_pass 57 = .ok (.iload_n 3, 1) := by decide +kernel
theorem dX10_pass_58 : decode cX10_pass 58 = .ok (.if_icmp .ge 51, 3) := by decide +kernel
theorem dX10_pass_61 : decode cX10_pass 61 = .ok (.aload_n 0, 1) := by decide +kernel
theorem dX10_pass_62 : decode cX10_pass 62 = .ok (.aload_n 0, 1) := by decide +kernel
theorem dX10_pass_63 : decode cX10_pass 63 = .ok (.getfield 50, 3) := by decide +kernel
theorem dX10_pass_66 : decode cX10_pass 66 = .ok (.aload_n 0, 1) := by decide +kernel
theorem dX10_pass_67 : decode cX10_pass 67 = .ok (.getfield 36, 3) := by decide +kernel
theorem dX10_pass_70 : decode cX10_pass 70 = .ok (.iload_n 1, 1) := by decide +kernel
theorem dX10_pass_71 : decode cX10_pass 71 = .ok (.invokevirtual 254, 3) := by decide +kernel
theorem dX10_pass_74 : decode cX10_pass 74 = .ok (.istore 7, 2) := by decide +kernel
theorem dX10_pass_76 : decode cX10_pass 76 = .ok (.iload 7, 2) := by decide +kernel
theorem dX10_pass_78 : decode cX10_pass 78 = .ok (.ifCond .ge 6, 3) := by decide +kernel
theorem dX10_pass_81 : decode cX10_pass 81 = .ok (.iload 7, 2) := by decide +kernel
theorem dX10_pass_83 : decode cX10_pass 83 = .ok (.ireturn, 1) := by decide +kernel
theorem dX10_pass_84 : decode cX10_pass 84 = .ok (.iload 5, 2) := by decide +kernel
theorem dX10_pass_86 : decode cX10_pass 86 = .ok (.iload 7, 2) := by decide +kernel
theorem dX10_pass_88 : decode cX10_pass 88 = .ok (.iadd, 1) := by decide +kernel
theorem dX10_pass_89 : decode cX10_pass 89 = .ok (.istore 5, 2) := by decide +kernel
theorem dX10_pass_91 : decode cX10_pass 91 = .ok (.aload_n 0, 1) := by decide +kernel
theorem dX10_pass_92 : decode cX10_pass 92 = .ok (.getfield 91, 3) := by decide +kernel
theorem dX10_pass_95 : decode cX10_pass 95 = .ok (.iload_n 2, 1) := by decide +kernel
theorem dX10_pass_96 : decode cX10_pass 96 = .ok (.iaload, 1) := by decide +kernel
theorem dX10_pass_97 : decode cX10_pass 97 = .ok (.ifCond .le 6, 3) := by decide +kernel
theorem dX10_pass_100 : decode cX10_pass 100 = .ok (.iinc 4 1, 3) := by decide +kernel
theorem dX10_pass_103 : decode cX10_pass 103 = .ok (.iinc 6 1, 3) := by decide +kernel
theorem dX10_pass_106 : decode cX10_pass 106 = .ok (.goto (-51), 3) := by decide +kernel
theorem dX10_pass_109 : decode cX10_pass 109 = .ok (.aload_n 0, 1) := by decide +kernel
theorem dX10_pass_110 : decode cX10_pass 110 = .ok (.getfield 19, 3) := by decide +kernel
theorem dX10_pass_113 : decode cX10_pass 113 = .ok (.iload 5, 2) := by decide +kernel
theorem dX10_pass_115 : decode cX10_pass 115 = .ok (.i2l, 1) := by decide +kernel
theorem dX10_pass_116 : decode cX10_pass 116 = .ok (.invokevirtual 258, 3) := by decide +kernel
theorem dX10_pass_119 : decode cX10_pass 119 = .ok (.iload 4, 2) := by decide +kernel
theorem dX10_pass_121 : decode cX10_pass 121 = .ok (.ireturn, 1) := by decide +kernel
theorem dX10_round_0 : decode cX10_round 0 = .ok (.aload_n 0, 1) := by decide +kernel
theorem dX10_round_1 : decode cX10_round 1 = .ok (.getfield 26, 3) := by decide +kernel
theorem dX10_round_4 : decode cX10_round 4 = .ok (.iload_n 1, 1) := by decide +kernel
theorem dX10_round_5 : decode cX10_round 5 = .ok (.invokevirtual 176, 3) := by decide +kernel
theorem dX10_round_8 : decode cX10_round 8 = .ok (.ifCond .ne 5, 3) := by decide +kernel
theorem dX10_round_11 : decode cX10_round 11 = .ok (.iconst (-1), 1) := by decide +kernel
theorem dX10_round_12 : decode cX10_round 12 = .ok (.ireturn, 1) := by decide +kernel
theorem dX10_round_13 : decode cX10_round 13 = .ok (.aload_n 0, 1) := by decide +kernel
theorem dX10_round_14 : decode cX10_round 14 = .ok (.getfield 50, 3) := by decide +kernel
theorem dX10_round_17 : decode cX10_round 17 = .ok (.aload_n 0, 1) := by decide +kernel
theorem dX10_round_18 : decode cX10_round 18 = .ok (.getfield 46, 3) := by decide +kernel
theorem dX10_round_21 : decode cX10_round 21 = .ok (.invokevirtual 201, 3) := by decide +kernel
theorem dX10_round_24 : decode cX10_round 24 = .ok (.iconst 0, 1) := by decide +kernel
theorem dX10_round_25 : decode cX10_round 25 = .ok (.istore_n 2, 1) := by decide +kernel
theorem dX10_round_26 : decode cX10_round 26 = .ok (.iconst 1, 1) := by decide +kernel
theorem dX10_round_27 : decode cX10_round 27 = .ok (.istore_n 3, 1) := by decide +kernel
theorem dX10_round_28 : decode cX10_round 28 = .ok (.iload_n 3, 1) := by decide +kernel
theorem dX10_round_29 : decode cX10_round 29 = .ok (.sipush 300, 3) := by decide +kernel
theorem dX10_round_32 : decode cX10_round 32 = .ok (.if_icmp .gt 62, 3) := by decide +kernel
theorem dX10_round_35 : decode cX10_round 35 = .ok (.aload_n 0, 1) := by decide +kernel
theorem dX10_round_36 : decode cX10_round 36 = .ok (.aload_n 0, 1) := by decide +kernel
theorem dX10_round_37 : decode cX10_round 37 = .ok (.getfield 50, 3) := by decide +kernel
theorem dX10_round_40 : decode cX10_round 40 = .ok (.aload_n 0, 1) := by decide +kernel
theorem dX10_round_41 : decode cX10_round 41 = .ok (.getfield 36, 3) := by decide +kernel
theorem dX10_round_44 : decode cX10_round 44 = .ok (.iload_n 1, 1) := by decide +kernel
theorem dX10_round_45 : decode cX10_round 45 = .ok (.invokevirtual 254, 3) := by decide +kernel
theorem dX10_round_48 : decode cX10_round 48 = .ok (.istore 4, 2) := by decide +kernel
theorem dX10_round_50 : decode cX10_round 50 = .ok (.iload 4, 2) := by decide +kernel
theorem dX10_round_52 : decode cX10_round 52 = .ok (.ifCond .ge 6, 3) := by decide +kernel
theorem dX10_round_55 : decode cX10_round 55 = .ok (.iload 4, 2) := by decide +kernel
theorem dX10_round_57 : decode cX10_round 57 = .ok (.ireturn, 1) := by decide +kernel
theorem dX10_round_58 : decode cX10_round 58 = .ok (.iload_n 2, 1) := by decide +kernel
theorem dX10_round_59 : decode cX10_round 59 = .ok (.iload 4, 2) := by decide +kernel
theorem dX10_round_61 : decode cX10_round 61 = .ok (.iadd, 1) := by decide +kernel
theorem dX10_round_62 : decode cX10_round 62 = .ok (.istore_n 2, 1) := by decide +kernel
theorem dX10_round_63 : decode cX10_round 63 = .ok (.aload_n 0, 1) := by decide +kernel
theorem dX10_round_64 : decode cX10_round 64 = .ok (.getfield 50, 3) := by decide +kernel
theorem dX10_round_67 : decode cX10_round 67 = .ok (.aload_n 0, 1) := by decide +kernel
theorem dX10_round_68 : decode cX10_round 68 = .ok (.getfield 46, 3) := by decide +kernel
theorem dX10_round_71 : decode cX10_round 71 = .ok (.invokevirtual 310, 3) := by decide +kernel
theorem dX10_round_74 : decode cX10_round 74 = .ok (.ifCond .eq 14, 3) := by decide +kernel
theorem dX10_round_77 : decode cX10_round 77 = .ok (.aload_n 0, 1) := by decide +kernel
theorem dX10_round_78 : decode cX10_round 78 = .ok (.getfield 19, 3) := by decide +kernel
theorem dX10_round_81 : decode cX10_round 81 = .ok (.iload_n 2, 1) := by decide +kernel
theorem dX10_round_82 : decode cX10_round 82 = .ok (.i2l, 1) := by decide +kernel
theorem dX10_round_83 : decode cX10_round 83 = .ok (.invokevirtual 258, 3) := by decide +kernel
theorem dX10_round_86 : decode cX10_round 86 = .ok (.iload_n 3, 1) := by decide +kernel
theorem dX10_round_87 : decode cX10_round 87 = .ok (.ireturn, 1) := by decide +kernel
theorem dX10_round_88 : decode cX10_round 88 = .ok (.iinc 3 1, 3) := by decide +kernel
theorem dX10_round_91 : decode cX10_round 91 = .ok (.goto (-63), 3) := by decide +kernel
theorem dX10_round_94 : decode cX10_round 94 = .ok (.bipush (-2), 2) := by decide +kernel
theorem dX10_round_96 : decode cX10_round 96 = .ok (.ireturn, 1) := by decide +kernel
theorem dX10_follows_0 : decode cX10_follows 0 = .ok (.aload_n 0, 1) := by decide +kernel
theorem dX10_follows_1 : decode cX10_follows 1 = .ok (.getfield 26, 3) := by decide +kernel
theorem dX10_follows_4 : decode cX10_follows 4 = .ok (.iload_n 1, 1) := by decide +kernel
theorem dX10_follows_5 : decode cX10_follows 5 = .ok (.invokevirtual 176, 3) := by decide +kernel
theorem dX10_follows_8 : decode cX10_follows 8 = .ok (.ifCond .ne 5, 3) := by decide +kernel
theorem dX10_follows_11 : decode cX10_follows 11 = .ok (.iconst (-1), 1) := by decide +kernel
theorem dX10_follows_12 : decode cX10_follows 12 = .ok (.ireturn, 1) := by decide +kernel
theorem dX10_follows_13 : decode cX10_follows 13 = .ok (.aload_n 0, 1) := by decide +kernel
theorem dX10_follows_14 : decode cX10_follows 14 = .ok (.iload_n 1, 1) := by decide +kernel
theorem dX10_follows_15 : decode cX10_follows 15 = .ok (.invokevirtual 313, 3) := by decide +kernel
theorem dX10_follows_18 : decode cX10_follows 18 = .ok (.istore_n 2, 1) := by decide +kernel
theorem dX10_follows_19 : decode cX10_follows 19 = .ok (.iload_n 2, 1) := by decide +kernel
theorem dX10_follows_20 : decode cX10_follows 20 = .ok (.iconst 1, 1) := by decide +kernel
theorem dX10_follows_21 : decode cX10_follows 21 = .ok (.iand, 1) := by decide +kernel
theorem dX10_follows_22 : decode cX10_follows 22 = .ok (.istore_n 3, 1) := by decide +kernel
theorem dX10_follows_23 : decode cX10_follows 23 = .ok (.iload_n 2, 1) := by decide +kernel
theorem dX10_follows_24 : decode cX10_follows 24 = .ok (.invokestatic 316, 3) := by decide +kernel
theorem dX10_follows_27 : decode cX10_follows 27 = .ok (.iload_n 3, 1) := by decide +kernel
theorem dX10_follows_28 : decode cX10_follows 28 = .ok (.isub, 1) := by decide +kernel
theorem dX10_follows_29 : decode cX10_follows 29 = .ok (.istore 4, 2) := by decide +kernel
theorem dX10_follows_31 : decode cX10_follows 31 = .ok (.aload_n 0, 1) := by decide +kernel
theorem dX10_follows_32 : decode cX10_follows 32 = .ok (.getfield 19, 3) := by decide +kernel
theorem dX10_follows_35 : decode cX10_follows 35 = .ok (.iload_n 3, 1) := by decide +kernel
theorem dX10_follows_36 : decode cX10_follows 36 = .ok (.i2l, 1) := by decide +kernel
theorem dX10_follows_37 : decode cX10_follows 37 = .ok (.iload 4, 2) := by decide +kernel
theorem dX10_follows_39 : decode cX10_follows 39 = .ok (.i2l, 1) := by decide +kernel
theorem dX10_follows_40 : decode cX10_follows 40 = .ok (.invokevirtual 241, 3) := by decide +kernel
theorem dX10_follows_43 : decode cX10_follows 43 = .ok (.iload_n 2, 1) := by decide +kernel
theorem dX10_follows_44 : decode cX10_follows 44 = .ok (.ireturn, 1) := by decide +kernel
theorem dX10_trackOf_0 : decode cX10_trackOf 0 = .ok (.iconst 0, 1) := by decide +kernel
theorem dX10_trackOf_1 : decode cX10_trackOf 1 = .ok (.istore_n 2, 1) := by decide +kernel
theorem dX10_trackOf_2 : decode cX10_trackOf 2 = .ok (.iload_n 1, 1) := by decide +kernel
theorem dX10_trackOf_3 : decode cX10_trackOf 3 = .ok (.istore_n 3, 1) := by decide +kernel
theorem dX10_trackOf_4 : decode cX10_trackOf 4 = .ok (.iconst 0, 1) := by decide +kernel
theorem dX10_trackOf_5 : decode cX10_trackOf 5 = .ok (.istore 4, 2) := by decide +kernel
theorem dX10_trackOf_7 : decode cX10_trackOf 7 = .ok (.iload 4, 2) := by decide +kernel
theorem dX10_trackOf_9 : decode cX10_trackOf 9 = .ok (.bipush 8, 2) := by decide +kernel
theorem dX10_trackOf_11 : decode cX10_trackOf 11 = .ok (.if_icmp .ge 52, 3) := by decide +kernel
theorem dX10_trackOf_14 : decode cX10_trackOf 14 = .ok (.iload_n 2, 1) := by decide +kernel
theorem dX10_trackOf_15 : decode cX10_trackOf 15 = .ok (.iconst 1, 1) := by decide +kernel
theorem dX10_trackOf_16 : decode cX10_trackOf 16 = .ok (.iload_n 3, 1) := by decide +kernel
theorem dX10_trackOf_17 : decode cX10_trackOf 17 = .ok (.ishl, 1) := by decide +kernel
theorem dX10_trackOf_18 : decode cX10_trackOf 18 = .ok (.iand, 1) := by decide +kernel
theorem dX10_trackOf_19 : decode cX10_trackOf 19 = .ok (.ifCond .ne 44, 3) := by decide +kernel
theorem dX10_trackOf_22 : decode cX10_trackOf 22 = .ok (.iload_n 2, 1) := by decide +kernel
theorem dX10_trackOf_23 : decode cX10_trackOf 23 = .ok (.iconst 1, 1) := by decide +kernel
theorem dX10_trackOf_24 : decode cX10_trackOf 24 = .ok (.iload_n 3, 1) := by decide +kernel
theorem dX10_trackOf_25 : decode cX10_trackOf 25 = .ok (.ishl, 1) := by decide +kernel
theorem dX10_trackOf_26 : decode cX10_trackOf 26 = .ok (.ior, 1) := by decide +kernel
theorem dX10_trackOf_27 : decode cX10_trackOf 27 = .ok (.istore_n 2, 1) := by decide +kernel
theorem dX10_trackOf_28 : decode cX10_trackOf 28 = .ok (.aload_n 0, 1) := by decide +kernel
theorem dX10_trackOf_29 : decode cX10_trackOf 29 = .ok (.getfield 26, 3) := by decide +kernel
theorem dX10_trackOf_32 : decode cX10_trackOf 32 = .ok (.iload_n 3, 1) := by decide +kernel
theorem dX10_trackOf_33 : decode cX10_trackOf 33 = .ok (.invokevirtual 176, 3) := by decide +kernel
theorem dX10_trackOf_36 : decode cX10_trackOf 36 = .ok (.ifCond .eq 21, 3) := by decide +kernel
theorem dX10_trackOf_39 : decode cX10_trackOf 39 = .ok (.aload_n 0, 1) := by decide +kernel
theorem dX10_trackOf_40 : decode cX10_trackOf 40 = .ok (.getfield 26, 3) := by decide +kernel
theorem dX10_trackOf_43 : decode cX10_trackOf 43 = .ok (.iload_n 3, 1) := by decide +kernel
theorem dX10_trackOf_44 : decode cX10_trackOf 44 = .ok (.aload_n 0, 1) := by decide +kernel
theorem dX10_trackOf_45 : decode cX10_trackOf 45 = .ok (.getfield 46, 3) := by decide +kernel
theorem dX10_trackOf_48 : decode cX10_trackOf 48 = .ok (.getfield 160, 3) := by decide +kernel
theorem dX10_trackOf_51 : decode cX10_trackOf 51 = .ok (.iload_n 3, 1) := by decide +kernel
theorem dX10_trackOf_52 : decode cX10_trackOf 52 = .ok (.iaload, 1) := by decide +kernel
theorem dX10_trackOf_53 : decode cX10_trackOf 53 = .ok (.invokevirtual 163, 3) := by decide +kernel
theorem dX10_trackOf_56 : decode cX10_trackOf 56 = .ok (.istore_n 3, 1) := by decide +kernel
theorem dX10_trackOf_57 : decode cX10_trackOf 57 = .ok (.iinc 4 1, 3) := by decide +kernel
theorem dX10_trackOf_60 : decode cX10_trackOf 60 = .ok (.goto (-53), 3) := by decide +kernel
theorem dX10_trackOf_63 : decode cX10_trackOf 63 = .ok (.iload_n 2, 1) := by decide +kernel
theorem dX10_trackOf_64 : decode cX10_trackOf 64 = .ok (.ireturn, 1) := by decide +kernel
theorem dX10_tree_0 : decode cX10_tree 0 = .ok (.iconst 0, 1) := by decide +kernel
theorem dX10_tree_1 : decode cX10_tree 1 = .ok (.istore_n 1, 1) := by decide +kernel
theorem dX10_tree_2 : decode cX10_tree 2 = .ok (.iconst 0, 1) := by decide +kernel
theorem dX10_tree_3 : decode cX10_tree 3 = .ok (.istore_n 2, 1) := by decide +kernel
theorem dX10_tree_4 : decode cX10_tree 4 = .ok (.iconst 1, 1) := by decide +kernel
theorem dX10_tree_5 : decode cX10_tree 5 = .ok (.istore_n 3, 1) := by decide +kernel
theorem dX10_tree_6 : decode cX10_tree 6 = .ok (.iload_n 3, 1) := by decide +kernel
theorem dX10_tree_7 : decode cX10_tree 7 = .ok (.aload_n 0, 1) := by decide +kernel
theorem dX10_tree_8 : decode cX10_tree 8 = .ok (.getfield 26, 3) := by decide +kernel
theorem dX10_tree_11 : decode cX10_tree 11 = .ok (.invokevirtual 275, 3) := by decide +kernel
theorem dX10_tree_14 : decode cX10_tree 14 = .ok (.if_icmp .ge 34, 3) := by decide +kernel
theorem dX10_tree_17 : decode cX10_tree 17 = .ok (.aload_n 0, 1) := by decide +kernel
theorem dX10_tree_18 : decode cX10_tree 18 = .ok (.iload_n 3, 1) := by decide +kernel
theorem dX10_tree_19 : decode cX10_tree 19 = .ok (.invokevirtual 313, 3) := by decide +kernel
theorem dX10_tree_22 : decode cX10_tree 22 = .ok (.iconst 1, 1) := by decide +kernel
theorem dX10_tree_23 : decode cX10_tree 23 = .ok (.iand, 1) := by decide +kernel
theorem dX10_tree_24 : decode cX10_tree 24 = .ok (.iconst 1, 1) := by decide +kernel
theorem dX10_tree_25 : decode cX10_tree 25 = .ok (.if_icmp .ne 6, 3) := by decide +kernel
theorem dX10_tree_28 : decode cX10_tree 28 = .ok (.iinc 1 1, 3) := by decide +kernel
theorem dX10_tree_31 : decode cX10_tree 31 = .ok (.aload_n 0, 1) := by decide +kernel
theorem dX10_tree_32 : decode cX10_tree 32 = .ok (.iload_n 3, 1) := by decide +kernel
theorem dX10_tree_33 : decode cX10_tree 33 = .ok (.invokevirtual 321, 3) := by decide +kernel
theorem dX10_tree_36 : decode cX10_tree 36 = .ok (.ifCond .eq 6, 3) := by decide +kernel
theorem dX10_tree_39 : decode cX10_tree 39 = .ok (.iinc 2 1, 3) := by decide +kernel
theorem dX10_tree_42 : decode cX10_tree 42 = .ok (.iinc 3 1, 3) := by decide +kernel
theorem dX10_tree_45 : decode cX10_tree 45 = .ok (.goto (-39), 3) := by decide +kernel
theorem dX10_tree_48 : decode cX10_tree 48 = .ok (.aload_n 0, 1) := by decide +kernel
theorem dX10_tree_49 : decode cX10_tree 49 = .ok (.getfield 19, 3) := by decide +kernel
theorem dX10_tree_52 : decode cX10_tree 52 = .ok (.iload_n 1, 1) := by decide +kernel
theorem dX10_tree_53 : decode cX10_tree 53 = .ok (.aload_n 0, 1) := by decide +kernel
theorem dX10_tree_54 : decode cX10_tree 54 = .ok (.getfield 26, 3) := by decide +kernel
theorem dX10_tree_57 : decode cX10_tree 57 = .ok (.invokevirtual 275, 3) := by decide +kernel
theorem dX10_tree_60 : decode cX10_tree 60 = .ok (.iconst 1, 1) := by decide +kernel
theorem dX10_tree_61 : decode cX10_tree 61 = .ok (.isub, 1) := by decide +kernel
theorem dX10_tree_62 : decode cX10_tree 62 = .ok (.if_icmp .ne 7, 3) := by decide +kernel
theorem dX10_tree_65 : decode cX10_tree 65 = .ok (.lconst 1, 1) := by decide +kernel
theorem dX10_tree_66 : decode cX10_tree 66 = .ok (.goto 4, 3) := by decide +kernel
theorem dX10_tree_69 : decode cX10_tree 69 = .ok (.lconst 0, 1) := by decide +kernel
theorem dX10_tree_70 : decode cX10_tree 70 = .ok (.iload_n 2, 1) := by decide +kernel
theorem dX10_tree_71 : decode cX10_tree 71 = .ok (.i2l, 1) := by decide +kernel
theorem dX10_tree_72 : decode cX10_tree 72 = .ok (.invokevirtual 241, 3) := by decide +kernel
theorem dX10_tree_75 : decode cX10_tree 75 = .ok (.iload_n 1, 1) := by decide +kernel
theorem dX10_tree_76 : decode cX10_tree 76 = .ok (.ireturn, 1) := by decide +kernel
theorem dX10_isFirstOfRing_0 : decode cX10_isFirstOfRing 0 = .ok (.aload_n 0, 1) := by decide +kernel
theorem dX10_isFirstOfRing_1 : decode cX10_isFirstOfRing 1 = .ok (.getfield 26, 3) := by decide +kernel
theorem dX10_isFirstOfRing_4 : decode cX10_isFirstOfRing 4 = .ok (.iload_n 1, 1) := by decide +kernel
theorem dX10_isFirstOfRing_5 : decode cX10_isFirstOfRing 5 = .ok (.aload_n 0, 1) := by decide +kernel
theorem dX10_isFirstOfRing_6 : decode cX10_isFirstOfRing 6 = .ok (.getfield 46, 3) := by decide +kernel
theorem dX10_isFirstOfRing_9 : decode cX10_isFirstOfRing 9 = .ok (.getfield 160, 3) := by decide +kernel
theorem dX10_isFirstOfRing_12 : decode cX10_isFirstOfRing 12 = .ok (.iload_n 1, 1) := by decide +kernel
theorem dX10_isFirstOfRing_13 : decode cX10_isFirstOfRing 13 = .ok (.iaload, 1) := by decide +kernel
theorem dX10_isFirstOfRing_14 : decode cX10_isFirstOfRing 14 = .ok (.invokevirtual 163, 3) := by decide +kernel
theorem dX10_isFirstOfRing_17 : decode cX10_isFirstOfRing 17 = .ok (.istore_n 2, 1) := by decide +kernel
theorem dX10_isFirstOfRing_18 : decode cX10_isFirstOfRing 18 = .ok (.iconst 1, 1) := by decide +kernel
theorem dX10_isFirstOfRing_19 : decode cX10_isFirstOfRing 19 = .ok (.istore_n 3, 1) := by decide +kernel
theorem dX10_isFirstOfRing_20 : decode cX10_isFirstOfRing 20 = .ok (.iload_n 3, 1) := by decide +kernel
theorem dX10_isFirstOfRing_21 : decode cX10_isFirstOfRing 21 = .ok (.bipush 8, 2) := by decide +kernel
theorem dX10_isFirstOfRing_23 : decode cX10_isFirstOfRing 23 = .ok (.if_icmp .ge 32, 3) := by decide +kernel
theorem dX10_isFirstOfRing_26 : decode cX10_isFirstOfRing 26 = .ok (.iload_n 2, 1) := by decide +kernel
theorem dX10_isFirstOfRing_27 : decode cX10_isFirstOfRing 27 = .ok (.iload_n 1, 1) := by decide +kernel
theorem dX10_isFirstOfRing_28 : decode cX10_isFirstOfRing 28 = .ok (.if_icmp .le 27, 3) := by decide +kernel
theorem dX10_isFirstOfRing_31 : decode cX10_isFirstOfRing 31 = .ok (.aload_n 0, 1) := by decide +kernel
theorem dX10_isFirstOfRing_32 : decode cX10_isFirstOfRing 32 = .ok (.getfield 26, 3) := by decide +kernel
theorem dX10_isFirstOfRing_35 : decode cX10_isFirstOfRing 35 = .ok (.iload_n 2, 1) := by decide +kernel
theorem dX10_isFirstOfRing_36 : decode cX10_isFirstOfRing 36 = .ok (.aload_n 0, 1) := by decide +kernel
theorem dX10_isFirstOfRing_37 : decode cX10_isFirstOfRing 37 = .ok (.getfield 46, 3) := by decide +kernel
theorem dX10_isFirstOfRing_40 : decode cX10_isFirstOfRing 40 = .ok (.getfield 160, 3) := by decide +kernel
theorem dX10_isFirstOfRing_43 : decode cX10_isFirstOfRing 43 = .ok (.iload_n 2, 1) := by decide +kernel
theorem dX10_isFirstOfRing_44 : decode cX10_isFirstOfRing 44 = .ok (.iaload, 1) := by decide +kernel
theorem dX10_isFirstOfRing_45 : decode cX10_isFirstOfRing 45 = .ok (.invokevirtual 163, 3) := by decide +kernel
theorem dX10_isFirstOfRing_48 : decode cX10_isFirstOfRing 48 = .ok (.istore_n 2, 1) := by decide +kernel
theorem dX10_isFirstOfRing_49 : decode cX10_isFirstOfRing 49 = .ok (.iinc 3 1, 3) := by decide +kernel
theorem dX10_isFirstOfRing_52 : decode cX10_isFirstOfRing 52 = .ok (.goto (-32), 3) := by decide +kernel
theorem dX10_isFirstOfRing_55 : decode cX10_isFirstOfRing 55 = .ok (.iload_n 2, 1) := by decide +kernel
theorem dX10_isFirstOfRing_56 : decode cX10_isFirstOfRing 56 = .ok (.iload_n 1, 1) := by decide +kernel
theorem dX10_isFirstOfRing_57 : decode cX10_isFirstOfRing 57 = .ok (.if_icmp .ne 7, 3) := by decide +kernel
theorem dX10_isFirstOfRing_60 : decode cX10_isFirstOfRing 60 = .ok (.iconst 1, 1) := by decide +kernel
theorem dX10_isFirstOfRing_61 : decode cX10_isFirstOfRing 61 = .ok (.goto 4, 3) := by decide +kernel
theorem dX10_isFirstOfRing_64 : decode cX10_isFirstOfRing 64 = .ok (.iconst 0, 1) := by decide +kernel
theorem dX10_isFirstOfRing_65 : decode cX10_isFirstOfRing 65 = .ok (.ireturn, 1) := by decide +kernel
theorem dX10_trees_0 : decode cX10_trees 0 = .ok (.iconst 1, 1) := by decide +kernel
theorem dX10_trees_1 : decode cX10_trees 1 = .ok (.istore_n 1, 1) := by decide +kernel
theorem dX10_trees_2 : decode cX10_trees 2 = .ok (.iconst 1, 1) := by decide +kernel
theorem dX10_trees_3 : decode cX10_trees 3 = .ok (.istore_n 2, 1) := by decide +kernel
theorem dX10_trees_4 : decode cX10_trees 4 = .ok (.iload_n 2, 1) := by decide +kernel
theorem dX10_trees_5 : decode cX10_trees 5 = .ok (.aload_n 0, 1) := by decide +kernel
theorem dX10_trees_6 : decode cX10_trees 6 = .ok (.getfield 26, 3) := by decide +kernel
theorem dX10_trees_9 : decode cX10_trees 9 = .ok (.invokevirtual 275, 3) := by decide +kernel
theorem dX10_trees_12 : decode cX10_trees 12 = .ok (.if_icmp .ge 20, 3) := by decide +kernel
theorem dX10_trees_15 : decode cX10_trees 15 = .ok (.iload_n 1, 1) := by decide +kernel
theorem dX10_trees_16 : decode cX10_trees 16 = .ok (.aload_n 0, 1) := by decide +kernel
theorem dX10_trees_17 : decode cX10_trees 17 = .ok (.getfield 26, 3) := by decide +kernel
theorem dX10_trees_20 : decode cX10_trees 20 = .ok (.iload_n 2, 1) := by decide +kernel
theorem dX10_trees_21 : decode cX10_trees 21 = .ok (.invokevirtual 156, 3) := by decide +kernel
theorem dX10_trees_24 : decode cX10_trees 24 = .ok (.imul, 1) := by decide +kernel
theorem dX10_trees_25 : decode cX10_trees 25 = .ok (.istore_n 1, 1) := by decide +kernel
theorem dX10_trees_26 : decode cX10_trees 26 = .ok (.iinc 2 1, 3) := by decide +kernel
theorem dX10_trees_29 : decode cX10_trees 29 = .ok (.goto (-25), 3) := by decide +kernel
theorem dX10_trees_32 : decode cX10_trees 32 = .ok (.aload_n 0, 1) := by decide +kernel
theorem dX10_trees_33 : decode cX10_trees 33 = .ok (.getfield 19, 3) := by decide +kernel
theorem dX10_trees_36 : decode cX10_trees 36 = .ok (.iload_n 1, 1) := by decide +kernel
theorem dX10_trees_37 : decode cX10_trees 37 = .ok (.i2l, 1) := by decide +kernel
theorem dX10_trees_38 : decode cX10_trees 38 = .ok (.invokevirtual 258, 3) := by decide +kernel
theorem dX10_trees_41 : decode cX10_trees 41 = .ok (.aload_n 0, 1) := by decide +kernel
theorem dX10_trees_42 : decode cX10_trees 42 = .ok (.getfield 73, 3) := by decide +kernel
theorem dX10_trees_45 : decode cX10_trees 45 = .ok (.aload_n 0, 1) := by decide +kernel
theorem dX10_trees_46 : decode cX10_trees 46 = .ok (.getfield 26, 3) := by decide +kernel
theorem dX10_trees_49 : decode cX10_trees 49 = .ok (.aload_n 0, 1) := by decide +kernel
theorem dX10_trees_50 : decode cX10_trees 50 = .ok (.getfield 95, 3) := by decide +kernel
theorem dX10_trees_53 : decode cX10_trees 53 = .ok (.iconst 0, 1) := by decide +kernel
theorem dX10_trees_54 : decode cX10_trees 54 = .ok (.invokevirtual 324, 3) := by decide +kernel
theorem dX10_trees_57 : decode cX10_trees 57 = .ok (.ireturn, 1) := by decide +kernel
theorem dX10_plants_0 : decode cX10_plants 0 = .ok (.iload_n 1, 1) := by decide +kernel
theorem dX10_plants_1 : decode cX10_plants 1 = .ok (.ifCond .lt 10, 3) := by decide +kernel
theorem dX10_plants_4 : decode cX10_plants 4 = .ok (.iload_n 1, 1) := by decide +kernel
theorem dX10_plants_5 : decode cX10_plants 5 = .ok (.sipush 999, 3) := by decide +kernel
theorem dX10_plants_8 : decode cX10_plants 8 = .ok (.if_icmp .le 5, 3) := by decide +kernel
theorem dX10_plants_11 : decode cX10_plants 11 = .ok (.iconst (-1), 1) := by decide +kernel
theorem dX10_plants_12 : decode cX10_plants 12 = .ok (.ireturn, 1) := by decide +kernel
theorem dX10_plants_13 : decode cX10_plants 13 = .ok (.iload_n 1, 1) := by decide +kernel
theorem dX10_plants_14 : decode cX10_plants 14 = .ok (.aload_n 0, 1) := by decide +kernel
theorem dX10_plants_15 : decode cX10_plants 15 = .ok (.getfield 73, 3) := by decide +kernel
theorem dX10_plants_18 : decode cX10_plants 18 = .ok (.aload_n 0, 1) := by decide +kernel
theorem dX10_plants_19 : decode cX10_plants 19 = .ok (.getfield 26, 3) := by decide +kernel
theorem dX10_plants_22 : decode cX10_plants 22 = .ok (.aload_n 0, 1) := by decide +kernel
theorem dX10_plants_23 : decode cX10_plants 23 = .ok (.getfield 95, 3) := by decide +kernel
theorem dX10_plants_26 : decode cX10_plants 26 = .ok (.iconst 0, 1) := by decide +kernel
theorem dX10_plants_27 : decode cX10_plants 27 = .ok (.invokevirtual 324, 3) := by decide +kernel
theorem dX10_plants_30 : decode cX10_plants 30 = .ok (.if_icmp .lt 6, 3) := by decide +kernel
theorem dX10_plants_33 : decode cX10_plants 33 = .ok (.bipush (-2), 2) := by decide +kernel
theorem dX10_plants_35 : decode cX10_plants 35 = .ok (.ireturn, 1) := by decide +kernel
theorem dX10_plants_36 : decode cX10_plants 36 = .ok (.iload_n 1, 1) := by decide +kernel
theorem dX10_plants_37 : decode cX10_plants 37 = .ok (.istore_n 2, 1) := by decide +kernel
theorem dX10_plants_38 : decode cX10_plants 38 = .ok (.iconst 1, 1) := by decide +kernel
theorem dX10_plants_39 : decode cX10_plants 39 = .ok (.istore_n 3, 1) := by decide +kernel
theorem dX10_plants_40 : decode cX10_plants 40 = .ok (.iload_n 3, 1) := by decide +kernel
theorem dX10_plants_41 : decode cX10_plants 41 = .ok (.aload_n 0, 1) := by decide +kernel
theorem dX10_plants_42 : decode cX10_plants 42 = .ok (.getfield 26, 3) := by decide +kernel
theorem dX10_plants_45 : decode cX10_plants 45 = .ok (.invokevirtual 275, 3) := by decide +kernel
theorem dX10_plants_48 : decode cX10_plants 48 = .ok (.if_icmp .ge 95, 3) := by decide +kernel
theorem dX10_plants_51 : decode cX10_plants 51 = .ok (.aload_n 0, 1) := by decide +kernel
theorem dX10_plants_52 : decode cX10_plants 52 = .ok (.getfield 95, 3) := by decide +kernel
theorem dX10_plants_55 : decode cX10_plants 55 = .ok (.iload_n 3, 1) := by decide +kernel
theorem dX10_plants_56 : decode cX10_plants 56 = .ok (.iconst 0, 1) := by decide +kernel
theorem dX10_plants_57 : decode cX10_plants 57 = .ok (.iastore, 1) := by decide +kernel
theorem dX10_plants_58 : decode cX10_plants 58 = .ok (.aload_n 0, 1) := by decide +kernel
theorem dX10_plants_59 : decode cX10_plants 59 = .ok (.getfield 73, 3) := by decide +kernel
theorem dX10_plants_62 : decode cX10_plants 62 = .ok (.aload_n 0, 1) := by decide +kernel
theorem dX10_plants_63 : decode cX10_plants 63 = .ok (.getfield 26, 3) := by decide +kernel
theorem dX10_plants_66 : decode cX10_plants 66 = .ok (.aload_n 0, 1) := by decide +kernel
theorem dX10_plants_67 : decode cX10_plants 67 = .ok (.getfield 95, 3) := by decide +kernel
theorem dX10_plants_70 : decode cX10_plants 70 = .ok (.iload_n 3, 1) := by decide +kernel
theorem dX10_plants_71 : decode cX10_plants 71 = .ok (.invokevirtual 324, 3) := by decide +kernel
theorem dX10_plants_74 : decode cX10_plants 74 = .ok (.istore 4, 2) := by decide +kernel
theorem dX10_plants_76 : decode cX10_plants 76 = .ok (.iload_n 2, 1) := by decide +kernel
theorem dX10_plants_77 : decode cX10_plants 77 = .ok (.iload 4, 2) := by decide +kernel
theorem dX10_plants_79 : decode cX10_plants 79 = .ok (.if_icmp .lt 58, 3) := by decide +kernel
theorem dX10_plants_82 : decode cX10_plants 82 = .ok (.aload_n 0, 1) := by decide +kernel
theorem dX10_plants_83 : decode cX10_plants 83 = .ok (.getfield 95, 3) := by decide +kernel
theorem dX10_plants_86 : decode cX10_plants 86 = .ok (.iload_n 3, 1) := by decide +kernel
theorem dX10_plants_87 : decode cX10_plants 87 = .ok (.iaload, 1) := by decide +kernel
theorem dX10_plants_88 : decode cX10_plants 88 = .ok (.aload_n 0, 1) := by decide +kernel
theorem dX10_plants_89 : decode cX10_plants 89 = .ok (.getfield 26, 3) := by decide +kernel
theorem dX10_plants_92 : decode cX10_plants 92 = .ok (.iload_n 3, 1) := by decide +kernel
theorem dX10_plants_93 : decode cX10_plants 93 = .ok (.invokevirtual 156, 3) := by decide +kernel
theorem dX10_plants_96 : decode cX10_plants 96 = .ok (.iconst 1, 1) := by decide +kernel
theorem dX10_plants_97 : decode cX10_plants 97 = .ok (.isub, 1) := by decide +kernel
theorem dX10_plants_98 : decode cX10_plants 98 = .ok (.if_icmp .ge 39, 3) := by decide +kernel
theorem dX10_plants_101 : decode cX10_plants 101 = .ok (.iload_n 2, 1) := by decide +kernel
theorem dX10_plants_102 : decode cX10_plants 102 = .ok (.iload 4, 2) := by decide +kernel
theorem dX10_plants_104 : decode cX10_plants 104 = .ok (.isub, 1) := by decide +kernel
theorem dX10_plants_105 : decode cX10_plants 105 = .ok (.istore_n 2, 1) := by decide +kernel
theorem dX10_plants_106 : decode cX10_plants 106 = .ok (.aload_n 0, 1) := by decide +kernel
theorem dX10_plants_107 : decode cX10_plants 107 = .ok (.getfield 95, 3) := by decide +kernel
theorem dX10_plants_110 : decode cX10_plants 110 = .ok (.iload_n 3, 1) := by decide +kernel
theorem dX10_plants_111 : decode cX10_plants 111 = .ok (.dup2, 1) := by decide +kernel
theorem dX10_plants_112 : decode cX10_plants 112 = .ok (.iaload, 1) := by decide +kernel
theorem dX10_plants_113 : decode cX10_plants 113 = .ok (.iconst 1, 1) := by decide +kernel
theorem dX10_plants_114 : decode cX10_plants 114 = .ok (.iadd, 1) := by decide +kernel
theorem dX10_plants_115 : decode cX10_plants 115 = .ok (.iastore, 1) := by decide +kernel
theorem dX10_plants_116 : decode cX10_plants 116 = .ok (.aload_n 0, 1) := by decide +kernel
theorem dX10_plants_117 : decode cX10_plants 117 = .ok (.getfield 73, 3) := by decide +kernel
theorem dX10_plants_120 : decode cX10_plants 120 = .ok (.aload_n 0, 1) := by decide +kernel
theorem dX10_plants_121 : decode cX10_plants 121 = .ok (.getfield 26, 3) := by decide +kernel
theorem dX10_plants_124 : decode cX10_plants 124 = .ok (.aload_n 0, 1) := by decide +kernel
theorem dX10_plants_125 : decode cX10_plants 125 = .ok (.getfield 95, 3) := by decide +kernel
theorem dX10_plants_128 : decode cX10_plants 128 = .ok (.iload_n 3, 1) := by decide +kernel
theorem dX10_plants_129 : decode cX10_plants 129 = .ok (.invokevirtual 324, 3) := by decide +kernel
theorem dX10_plants_132 : decode cX10_plants 132 = .ok (.istore 4, 2) := by decide +kernel
theorem dX10_plants_134 : decode cX10_plants 134 = .ok (.goto (-58), 3) := by decide +kernel
theorem dX10_plants_137 : decode cX10_plants 137 = .ok (.iinc 3 1, 3) := by decide +kernel
theorem dX10_plants_140 : decode cX10_plants 140 = .ok (.goto (-100), 3) := by decide +kernel
theorem dX10_plants_143 : decode cX10_plants 143 = .ok (.aload_n 0, 1) := by decide +kernel
theorem dX10_plants_144 : decode cX10_plants 144 = .ok (.getfield 19, 3) := by decide +kernel
theorem dX10_plants_147 : decode cX10_plants 147 = .ok (.aload_n 0, 1) := by decide +kernel
theorem dX10_plants_148 : decode cX10_plants 148 = .ok (.getfield 95, 3) := by decide +kernel
theorem dX10_plants_151 : decode cX10_plants 151 = .ok (.aload_n 0, 1) := by decide +kernel
theorem dX10_plants_152 : decode cX10_plants 152 = .ok (.getfield 26, 3) := by decide +kernel
theorem dX10_plants_155 : decode cX10_plants 155 = .ok (.invokevirtual 275, 3) := by decide +kernel
theorem dX10_plants_158 : decode cX10_plants 158 = .ok (.invokevirtual 290, 3) := by decide +kernel
theorem dX10_plants_161 : decode cX10_plants 161 = .ok (.iconst 0, 1) := by decide +kernel
theorem dX10_plants_162 : decode cX10_plants 162 = .ok (.ireturn, 1) := by decide +kernel
theorem dX10_grown_0 : decode cX10_grown 0 = .ok (.iconst 0, 1) := by decide +kernel
theorem dX10_grown_1 : decode cX10_grown 1 = .ok (.istore_n 1, 1) := by decide +kernel
theorem dX10_grown_2 : decode cX10_grown 2 = .ok (.iconst 1, 1) := by decide +kernel
theorem dX10_grown_3 : decode cX10_grown 3 = .ok (.istore_n 2, 1) := by decide +kernel
theorem dX10_grown_4 : decode cX10_grown 4 = .ok (.iload_n 2, 1) := by decide +kernel
theorem dX10_grown_5 : decode cX10_grown 5 = .ok (.aload_n 0, 1) := by decide +kernel
theorem dX10_grown_6 : decode cX10_grown 6 = .ok (.getfield 26, 3) := by decide +kernel
theorem dX10_grown_9 : decode cX10_grown 9 = .ok (.invokevirtual 275, 3) := by decide +kernel
theorem dX10_grown_12 : decode cX10_grown 12 = .ok (.if_icmp .ge 71, 3) := by decide +kernel
theorem dX10_grown_15 : decode cX10_grown 15 = .ok (.iconst 0, 1) := by decide +kernel
theorem dX10_grown_16 : decode cX10_grown 16 = .ok (.istore_n 3, 1) := by decide +kernel
theorem dX10_grown_17 : decode cX10_grown 17 = .ok (.iload_n 3, 1) := by decide +kernel
theorem dX10_grown_18 : decode cX10_grown 18 = .ok (.aload_n 0, 1) := by decide +kernel
theorem dX10_grown_19 : decode cX10_grown 19 = .ok (.getfield 46, 3) := by decide +kernel
theorem dX10_grown_22 : decode cX10_grown 22 = .ok (.getfield 160, 3) := by decide +kernel
theorem dX10_grown_25 : decode cX10_grown 25 = .ok (.iload_n 2, 1) := by decide +kernel
theorem dX10_grown_26 : decode cX10_grown 26 = .ok (.iaload, 1) := by decide +kernel
theorem dX10_grown_27 : decode cX10_grown 27 = .ok (.if_icmp .ge 35, 3) := by decide +kernel
theorem dX10_grown_30 : decode cX10_grown 30 = .ok (.aload_n 0, 1) := by decide +kernel
theorem dX10_grown_31 : decode cX10_grown 31 = .ok (.getfield 95, 3) := by decide +kernel
theorem dX10_grown_34 : decode cX10_grown 34 = .ok (.iload_n 2, 1) := by decide +kernel
theorem dX10_grown_35 : decode cX10_grown 35 = .ok (.iload_n 3, 1) := by decide +kernel
theorem dX10_grown_36 : decode cX10_grown 36 = .ok (.iastore, 1) := by decide +kernel
theorem dX10_grown_37 : decode cX10_grown 37 = .ok (.iload_n 1, 1) := by decide +kernel
theorem dX10_grown_38 : decode cX10_grown 38 = .ok (.aload_n 0, 1) := by decide +kernel
theorem dX10_grown_39 : decode cX10_grown 39 = .ok (.getfield 73, 3) := by decide +kernel
theorem dX10_grown_42 : decode cX10_grown 42 = .ok (.aload_n 0, 1) := by decide +kernel
theorem dX10_grown_43 : decode cX10_grown 43 = .ok (.getfield 26, 3) := by decide +kernel
theorem dX10_grown_46 : decode cX10_grown 46 = .ok (.aload_n 0, 1) := by decide +kernel
theorem dX10_grown_47 : decode cX10_grown 47 = .ok (.getfield 95, 3) := by decide +kernel
theorem dX10_grown_50 : decode cX10_grown 50 = .ok (.iload_n 2, 1) := by decide +kernel
theorem dX10_grown_51 : decode cX10_grown 51 = .ok (.invokevirtual 324, 3) := by decide +kernel
theorem dX10_grown_54 : decode cX10_grown 54 = .ok (.iadd, 1) := by decide +kernel
theorem dX10_grown_55 : decode cX10_grown 55 = .ok (.istore_n 1, 1) := by decide +kernel
theorem dX10_grown_56 : decode cX10_grown 56 = .ok (.iinc 3 1, 3) := by decide +kernel
theorem dX10_grown_59 : decode cX10_grown 59 = .ok (.goto (-42), 3) := by decide +kernel
theorem dX10_grown_62 : decode cX10_grown 62 = .ok (.aload_n 0, 1) := by decide +kernel
theorem dX10_grown_63 : decode cX10_grown 63 = .ok (.getfield 95, 3) := by decide +kernel
theorem dX10_grown_66 : decode cX10_grown 66 = .ok (.iload_n 2, 1) := by decide +kernel
theorem dX10_grown_67 : decode cX10_grown 67 = .ok (.aload_n 0, 1) := by decide +kernel
theorem dX10_grown_68 : decode cX10_grown 68 = .ok (.getfield 46, 3) := by decide +kernel
theorem dX10_grown_71 : decode cX10_grown 71 = .ok (.getfield 160, 3) := by decide +kernel
theorem dX10_grown_74 : decode cX10_grown 74 = .ok (.iload_n 2, 1) := by decide +kernel
theorem dX10_grown_75 : decode cX10_grown 75 = .ok (.iaload, 1) := by decide +kernel
theorem dX10_grown_76 : decode cX10_grown 76 = .ok (.iastore, 1) := by decide +kernel
theorem dX10_grown_77 : decode cX10_grown 77 = .ok (.iinc 2 1, 3) := by decide +kernel
theorem dX10_grown_80 : decode cX10_grown 80 = .ok (.goto (-76), 3) := by decide +kernel
theorem dX10_grown_83 : decode cX10_grown 83 = .ok (.aload_n 0, 1) := by decide +kernel
theorem dX10_grown_84 : decode cX10_grown 84 = .ok (.getfield 73, 3) := by decide +kernel
theorem dX10_grown_87 : decode cX10_grown 87 = .ok (.aload_n 0, 1) := by decide +kernel
theorem dX10_grown_88 : decode cX10_grown 88 = .ok (.getfield 26, 3) := by decide +kernel
theorem dX10_grown_91 : decode cX10_grown 91 = .ok (.aload_n 0, 1) := by decide +kernel
theorem dX10_grown_92 : decode cX10_grown 92 = .ok (.getfield 95, 3) := by decide +kernel
theorem dX10_grown_95 : decode cX10_grown 95 = .ok (.aload_n 0, 1) := by decide +kernel
theorem dX10_grown_96 : decode cX10_grown 96 = .ok (.getfield 26, 3) := by decide +kernel
theorem dX10_grown_99 : decode cX10_grown 99 = .ok (.invokevirtual 275, 3) := by decide +kernel
theorem dX10_grown_102 : decode cX10_grown 102 = .ok (.iconst 1, 1) := by decide +kernel
theorem dX10_grown_103 : decode cX10_grown 103 = .ok (.isub, 1) := by decide +kernel
theorem dX10_grown_104 : decode cX10_grown 104 = .ok (.invokevirtual 324, 3) := by decide +kernel
theorem dX10_grown_107 : decode cX10_grown 107 = .ok (.iconst 1, 1) := by decide +kernel
theorem dX10_grown_108 : decode cX10_grown 108 = .ok (.if_icmp .ne 7, 3) := by decide +kernel
theorem dX10_grown_111 : decode cX10_grown 111 = .ok (.iload_n 1, 1) := by decide +kernel
theorem dX10_grown_112 : decode cX10_grown 112 = .ok (.goto 5, 3) := by decide +kernel
theorem dX10_grown_115 : decode cX10_grown 115 = .ok (.bipush (-2), 2) := by decide +kernel
theorem dX10_grown_117 : decode cX10_grown 117 = .ok (.ireturn, 1) := by decide +kernel
theorem dX10_mends_0 : decode cX10_mends 0 = .ok (.iconst 0, 1) := by decide +kernel
theorem dX10_mends_1 : decode cX10_mends 1 = .ok (.istore_n 1, 1) := by decide +kernel
theorem dX10_mends_2 : decode cX10_mends 2 = .ok (.iload_n 1, 1) := by decide +kernel
theorem dX10_mends_3 : decode cX10_mends 3 = .ok (.aload_n 0, 1) := by decide +kernel
theorem dX10_mends_4 : decode cX10_mends 4 = .ok (.getfield 26, 3) := by decide +kernel
theorem dX10_mends_7 : decode cX10_mends 7 = .ok (.invokevirtual 275, 3) := by decide +kernel
theorem dX10_mends_10 : decode cX10_mends 10 = .ok (.if_icmp .ge 37, 3) := by decide +kernel
theorem dX10_mends_13 : decode cX10_mends 13 = .ok (.aload_n 0, 1) := by decide +kernel
theorem dX10_mends_14 : decode cX10_mends 14 = .ok (.iload_n 1, 1) := by decide +kernel
theorem dX10_mends_15 : decode cX10_mends 15 = .ok (.invokevirtual 328, 3) := by decide +kernel
theorem dX10_mends_18 : decode cX10_mends 18 = .ok (.ifCond .eq 23, 3) := by decide +kernel
theorem dX10_mends_21 : decode cX10_mends 21 = .ok (.aload_n 0, 1) := by decide +kernel
theorem dX10_mends_22 : decode cX10_mends 22 = .ok (.getfield 19, 3) := by decide +kernel
theorem dX10_mends_25 : decode cX10_mends 25 = .ok (.aload_n 0, 1) := by decide +kernel
theorem dX10_mends_26 : decode cX10_mends 26 = .ok (.getfield 95, 3) := by decide +kernel
theorem dX10_mends_29 : decode cX10_mends 29 = .ok (.aload_n 0, 1) := by decide +kernel
theorem dX10_mends_30 : decode cX10_mends 30 = .ok (.getfield 26, 3) := by decide +kernel
theorem dX10_mends_33 : decode cX10_mends 33 = .ok (.invokevirtual 275, 3) := by decide +kernel
theorem dX10_mends_36 : decode cX10_mends 36 = .ok (.invokevirtual 290, 3) := by decide +kernel
theorem dX10_mends_39 : decode cX10_mends 39 = .ok (.iload_n 1, 1) := by decide +kernel
theorem dX10_mends_40 : decode cX10_mends 40 = .ok (.ireturn, 1) := by decide +kernel
theorem dX10_mends_41 : decode cX10_mends 41 = .ok (.iinc 1 1, 3) := by decide +kernel
theorem dX10_mends_44 : decode cX10_mends 44 = .ok (.goto (-42), 3) := by decide +kernel
theorem dX10_mends_47 : decode cX10_mends 47 = .ok (.bipush (-2), 2) := by decide +kernel
theorem dX10_mends_49 : decode cX10_mends 49 = .ok (.ireturn, 1) := by decide +kernel
theorem dX10_mendsWith_0 : decode cX10_mendsWith 0 = .ok (.aload_n 0, 1) := by decide +kernel
theorem dX10_mendsWith_1 : decode cX10_mendsWith 1 = .ok (.getfield 26, 3) := by decide +kernel
theorem dX10_mendsWith_4 : decode cX10_mendsWith 4 = .ok (.invokevirtual 275, 3) := by decide +kernel
theorem dX10_mendsWith_7 : decode cX10_mendsWith 7 = .ok (.iconst 1, 1) := by decide +kernel
theorem dX10_mendsWith_8 : decode cX10_mendsWith 8 = .ok (.isub, 1) := by decide +kernel
theorem dX10_mendsWith_9 : decode cX10_mendsWith 9 = .ok (.istore_n 2, 1) := by decide +kernel
theorem dX10_mendsWith_10 : decode cX10_mendsWith 10 = .ok (.iconst 1, 1) := by decide +kernel
theorem dX10_mendsWith_11 : decode cX10_mendsWith 11 = .ok (.istore_n 3, 1) := by decide +kernel
theorem dX10_mendsWith_12 : decode cX10_mendsWith 12 = .ok (.aload_n 0, 1) := by decide +kernel
theorem dX10_mendsWith_13 : decode cX10_mendsWith 13 = .ok (.getfield 95, 3) := by decide +kernel
theorem dX10_mendsWith_16 : decode cX10_mendsWith 16 = .ok (.iconst 1, 1) := by decide +kernel
theorem dX10_mendsWith_17 : decode cX10_mendsWith 17 = .ok (.iconst (-1), 1) := by decide +kernel
theorem dX10_mendsWith_18 : decode cX10_mendsWith 18 = .ok (.iastore, 1) := by decide +kernel
theorem dX10_mendsWith_19 : decode cX10_mendsWith 19 = .ok (.iconst 0, 1) := by decide +kernel
theorem dX10_mendsWith_20 : decode cX10_mendsWith 20 = .ok (.istore 4, 2) := by decide +kernel
theorem dX10_mendsWith_22 : decode cX10_mendsWith 22 = .ok (.iload 4, 2) := by decide +kernel
theorem dX10_mendsWith_24 : decode cX10_mendsWith 24 = .ok (.ldc_w 331, 3) := by decide +kernel
theorem dX10_mendsWith_27 : decode cX10_mendsWith 27 = .ok (.if_icmp .ge 86, 3) := by decide +kernel
theorem dX10_mendsWith_30 : decode cX10_mendsWith 30 = .ok (.iload_n 3, 1) := by decide +kernel
theorem dX10_mendsWith_31 : decode cX10_mendsWith 31 = .ok (.iconst 1, 1) := by decide +kernel
theorem dX10_mendsWith_32 : decode cX10_mendsWith 32 = .ok (.if_icmp .lt 81, 3) := by decide +kernel
theorem dX10_mendsWith_35 : decode cX10_mendsWith 35 = .ok (.iload_n 3, 1) := by decide +kernel
theorem dX10_mendsWith_36 : decode cX10_mendsWith 36 = .ok (.iload_n 2, 1) := by decide +kernel
theorem dX10_mendsWith_37 : decode cX10_mendsWith 37 = .ok (.if_icmp .gt 76, 3) := by decide +kernel
theorem dX10_mendsWith_40 : decode cX10_mendsWith 40 = .ok (.aload_n 0, 1) := by decide +kernel
theorem dX10_mendsWith_41 : decode cX10_mendsWith 41 = .ok (.getfield 95, 3) := by decide +kernel
theorem dX10_mendsWith_44 : decode cX10_mendsWith 44 = .ok (.iload_n 3, 1) := by decide +kernel
theorem dX10_mendsWith_45 : decode cX10_mendsWith 45 = .ok (.dup2, 1) := by decide +kernel
theorem dX10_mendsWith_46 : decode cX10_mendsWith 46 = .ok (.iaload, 1) := by decide +kernel
theorem dX10_mendsWith_47 : decode cX10_mendsWith 47 = .ok (.iconst 1, 1) := by decide +kernel
theorem dX10_mendsWith_48 : decode cX10_mendsWith 48 = .ok (.iadd, 1) := by decide +kernel
theorem dX10_mendsWith_49 : decode cX10_mendsWith 49 = .ok (.iastore, 1) := by decide +kernel
theorem dX10_mendsWith_50 : decode cX10_mendsWith 50 = .ok (.aload_n 0, 1) := by decide +kernel
theorem dX10_mendsWith_51 : decode cX10_mendsWith 51 = .ok (.getfield 95, 3) := by decide +kernel
theorem dX10_mendsWith_54 : decode cX10_mendsWith 54 = .ok (.iload_n 3, 1) := by decide +kernel
theorem dX10_mendsWith_55 : decode cX10_mendsWith 55 = .ok (.iaload, 1) := by decide +kernel
theorem dX10_mendsWith_56 : decode cX10_mendsWith 56 = .ok (.aload_n 0, 1) := by decide +kernel
theorem dX10_mendsWith_57 : decode cX10_mendsWith 57 = .ok (.getfield 26, 3) := by decide +kernel
theorem dX10_mendsWith_60 : decode cX10_mendsWith 60 = .ok (.iload_n 3, 1) := by decide +kernel
theorem dX10_mendsWith_61 : decode cX10_mendsWith 61 = .ok (.invokevirtual 156, 3) := by decide +kernel
theorem dX10_mendsWith_64 : decode cX10_mendsWith 64 = .ok (.if_icmp .lt 9, 3) := by decide +kernel
theorem dX10_mendsWith_67 : decode cX10_mendsWith 67 = .ok (.iinc 3 (-1), 3) := by decide +kernel
theorem dX10_mendsWith_70 : decode cX10_mendsWith 70 = .ok (.goto 37, 3) := by decide +kernel
theorem dX10_mendsWith_73 : decode cX10_mendsWith 73 = .ok (.aload_n 0, 1) := by decide +kernel
theorem dX10_mendsWith_74 : decode cX10_mendsWith 74 = .ok (.iload_n 3, 1) := by decide +kernel
theorem dX10_mendsWith_75 : decode cX10_mendsWith 75 = .ok (.invokevirtual 332, 3) := by decide +kernel
theorem dX10_mendsWith_78 : decode cX10_mendsWith 78 = .ok (.iload_n 1, 1) := by decide +kernel
theorem dX10_mendsWith_79 : decode cX10_mendsWith 79 = .ok (.if_icmp .gt 28, 3) := by decide +kernel
theorem dX10_mendsWith_82 : decode cX10_mendsWith 82 = .ok (.aload_n 0, 1) := by decide +kernel
theorem dX10_mendsWith_83 : decode cX10_mendsWith 83 = .ok (.iload_n 3, 1) := by decide +kernel
theorem dX10_mendsWith_84 : decode cX10_mendsWith 84 = .ok (.invokevirtual 335, 3) := by decide +kernel
theorem dX10_mendsWith_87 : decode cX10_mendsWith 87 = .ok (.ifCond .ne 20, 3) := by decide +kernel
theorem dX10_mendsWith_90 : decode cX10_mendsWith 90 = .ok (.iload_n 3, 1) := by decide +kernel
theorem dX10_mendsWith_91 : decode cX10_mendsWith 91 = .ok (.iload_n 2, 1) := by decide +kernel
theorem dX10_mendsWith_92 : decode cX10_mendsWith 92 = .ok (.if_icmp .ne 5, 3) := by decide +kernel
theorem dX10_mendsWith_95 : decode cX10_mendsWith 95 = .ok (.iconst 1, 1) := by decide +kernel
theorem dX10_mendsWith_96 : decode cX10_mendsWith 96 = .ok (.ireturn, 1) := by decide +kernel
theorem dX10_mendsWith_97 : decode cX10_mendsWith 97 = .ok (.iinc 3 1, 3) := by decide +kernel
theorem dX10_mendsWith_100 : decode cX10_mendsWith 100 = .ok (.aload_n 0, 1) := by decide +kernel
theorem dX10_mendsWith_101 : decode cX10_mendsWith 101 = .ok (.getfield 95, 3) := by decide +kernel
theorem dX10_mendsWith_104 : decode cX10_mendsWith 104 = .ok (.iload_n 3, 1) := by decide +kernel
theorem dX10_mendsWith_105 : decode cX10_mendsWith 105 = .ok (.iconst (-1), 1) := by decide +kernel
theorem dX10_mendsWith_106 : decode cX10_mendsWith 106 = .ok (.iastore, 1) := by decide +kernel
theorem dX10_mendsWith_107 : decode cX10_mendsWith 107 = .ok (.iinc 4 1, 3) := by decide +kernel
theorem dX10_mendsWith_110 : decode cX10_mendsWith 110 = .ok (.goto (-88), 3) := by decide +kernel
theorem dX10_mendsWith_113 : decode cX10_mendsWith 113 = .ok (.iconst 0, 1) := by decide +kernel
theorem dX10_mendsWith_114 : decode cX10_mendsWith 114 = .ok (.ireturn, 1) := by decide +kernel
theorem dX10_changedUpTo_0 : decode cX10_changedUpTo 0 = .ok (.iconst 0, 1) := by decide +kernel
theorem dX10_changedUpTo_1 : decode cX10_changedUpTo 1 = .ok (.istore_n 2, 1) := by decide +kernel
theorem dX10_changedUpTo_2 : decode cX10_changedUpTo 2 = .ok (.iconst 1, 1) := by decide +kernel
theorem dX10_changedUpTo_3 : decode cX10_changedUpTo 3 = .ok (.istore_n 3, 1) := by decide +kernel
theorem dX10_changedUpTo_4 : decode cX10_changedUpTo 4 = .ok (.iload_n 3, 1) := by decide +kernel
theorem dX10_changedUpTo_5 : decode cX10_changedUpTo 5 = .ok (.iload_n 1, 1) := by decide +kernel
theorem dX10_changedUpTo_6 : decode cX10_changedUpTo 6 = .ok (.if_icmp .gt 30, 3) := by decide +kernel
theorem dX10_changedUpTo_9 : decode cX10_changedUpTo 9 = .ok (.aload_n 0, 1) := by decide +kernel
theorem dX10_changedUpTo_10 : decode cX10_changedUpTo 10 = .ok (.getfield 95, 3) := by decide +kernel
theorem dX10_changedUpTo_13 : decode cX10_changedUpTo 13 = .ok (.iload_n 3, 1) := by decide +kernel
theorem dX10_changedUpTo_14 : decode cX10_changedUpTo 14 = .ok (.iaload, 1) := by decide +kernel
theorem dX10_changedUpTo_15 : decode cX10_changedUpTo 15 = .ok (.aload_n 0, 1) := by decide +kernel
theorem dX10_changedUpTo_16 : decode cX10_changedUpTo 16 = .ok (.getfield 46, 3) := by decide +kernel
theorem dX10_changedUpTo_19 : decode cX10_changedUpTo 19 = .ok (.getfield 160, 3) := by decide +kernel
theorem dX10_changedUpTo_22 : decode cX10_changedUpTo 22 = .ok (.iload_n 3, 1) := by decide +kernel
theorem dX10_changedUpTo_23 : decode cX10_changedUpTo 23 = .ok (.iaload, 1) := by decide +kernel
theorem dX10_changedUpTo_24 : decode cX10_changedUpTo 24 = .ok (.if_icmp .eq 6, 3) := by decide +kernel
theorem dX10_changedUpTo_27 : decode cX10_changedUpTo 27 = .ok (.iinc 2 1, 3) := by decide +kernel
theorem dX10_changedUpTo_30 : decode cX10_changedUpTo 30 = .ok (.iinc 3 1, 3) := by decide +kernel
theorem dX10_changedUpTo_33 : decode cX10_changedUpTo 33 = .ok (.goto (-29), 3) := by decide +kernel
theorem dX10_changedUpTo_36 : decode cX10_changedUpTo 36 = .ok (.iload_n 2, 1) := by decide +kernel
theorem dX10_changedUpTo_37 : decode cX10_changedUpTo 37 = .ok (.ireturn, 1) := by decide +kernel
theorem dX10_closesRing_0 : decode cX10_closesRing 0 = .ok (.aload_n 0, 1) := by decide +kernel
theorem dX10_closesRing_1 : decode cX10_closesRing 1 = .ok (.getfield 26, 3) := by decide +kernel
theorem dX10_closesRing_4 : decode cX10_closesRing 4 = .ok (.iload_n 1, 1) := by decide +kernel
theorem dX10_closesRing_5 : decode cX10_closesRing 5 = .ok (.aload_n 0, 1) := by decide +kernel
theorem dX10_closesRing_6 : decode cX10_closesRing 6 = .ok (.getfield 95, 3) := by decide +kernel
theorem dX10_closesRing_9 : decode cX10_closesRing 9 = .ok (.iload_n 1, 1) := by decide +kernel
theorem dX10_closesRing_10 : decode cX10_closesRing 10 = .ok (.iaload, 1) := by decide +kernel
theorem dX10_closesRing_11 : decode cX10_closesRing 11 = .ok (.invokevirtual 163, 3) := by decide +kernel
theorem dX10_closesRing_14 : decode cX10_closesRing 14 = .ok (.istore_n 2, 1) := by decide +kernel
theorem dX10_closesRing_15 : decode cX10_closesRing 15 = .ok (.iconst 1, 1) := by decide +kernel
theorem dX10_closesRing_16 : decode cX10_closesRing 16 = .ok (.istore_n 3, 1) := by decide +kernel
theorem dX10_closesRing_17 : decode cX10_closesRing 17 = .ok (.iload_n 3, 1) := by decide +kernel
theorem dX10_closesRing_18 : decode cX10_closesRing 18 = .ok (.bipush 8, 2) := by decide +kernel
theorem dX10_closesRing_20 : decode cX10_closesRing 20 = .ok (.if_icmp .ge 33, 3) := by decide +kernel
theorem dX10_closesRing_23 : decode cX10_closesRing 23 = .ok (.iload_n 2, 1) := by decide +kernel
theorem dX10_closesRing_24 : decode cX10_closesRing 24 = .ok (.ifCond .le 29, 3) := by decide +kernel
theorem dX10_closesRing_27 : decode cX10_closesRing 27 = .ok (.iload_n 2, 1) := by decide +kernel
theorem dX10_closesRing_28 : decode cX10_closesRing 28 = .ok (.iload_n 1, 1) := by decide +kernel
theorem dX10_closesRing_29 : decode cX10_closesRing 29 = .ok (.if_icmp .ge 24, 3) := by decide +kernel
theorem dX10_closesRing_32 : decode cX10_closesRing 32 = .ok (.aload_n 0, 1) := by decide +kernel
theorem dX10_closesRing_33 : decode cX10_closesRing 33 = .ok (.getfield 26, 3) := by decide +kernel
theorem dX10_closesRing_36 : decode cX10_closesRing 36 = .ok (.iload_n 2, 1) := by decide +kernel
theorem dX10_closesRing_37 : decode cX10_closesRing 37 = .ok (.aload_n 0, 1) := by decide +kernel
theorem dX10_closesRing_38 : decode cX10_closesRing 38 = .ok (.getfield 95, 3) := by decide +kernel
theorem dX10_closesRing_41 : decode cX10_closesRing 41 = .ok (.iload_n 2, 1) := by decide +kernel
theorem dX10_closesRing_42 : decode cX10_closesRing 42 = .ok (.iaload, 1) := by decide +kernel
theorem dX10_closesRing_43 : decode cX10_closesRing 43 = .ok (.invokevirtual 163, 3) := by decide +kernel
theorem dX10_closesRing_46 : decode cX10_closesRing 46 = .ok (.istore_n 2, 1) := by decide +kernel
theorem dX10_closesRing_47 : decode cX10_closesRing 47 = .ok (.iinc 3 1, 3) := by decide +kernel
theorem dX10_closesRing_50 : decode cX10_closesRing 50 = .ok (.goto (-33), 3) := by decide +kernel
theorem dX10_closesRing_53 : decode cX10_closesRing 53 = .ok (.iload_n 2, 1) := by decide +kernel
theorem dX10_closesRing_54 : decode cX10_closesRing 54 = .ok (.iload_n 1, 1) := by decide +kernel
theorem dX10_closesRing_55 : decode cX10_closesRing 55 = .ok (.if_icmp .ne 7, 3) := by decide +kernel
theorem dX10_closesRing_58 : decode cX10_closesRing 58 = .ok (.iconst 1, 1) := by decide +kernel
theorem dX10_closesRing_59 : decode cX10_closesRing 59 = .ok (.goto 4, 3) := by decide +kernel
theorem dX10_closesRing_62 : decode cX10_closesRing 62 = .ok (.iconst 0, 1) := by decide +kernel
theorem dX10_closesRing_63 : decode cX10_closesRing 63 = .ok (.ireturn, 1) := by decide +kernel
theorem dX10_route_0 : decode cX10_route 0 = .ok (.aload_n 0, 1) := by decide +kernel
theorem dX10_route_1 : decode cX10_route 1 = .ok (.getfield 26, 3) := by decide +kernel
theorem dX10_route_4 : decode cX10_route 4 = .ok (.iload_n 1, 1) := by decide +kernel
theorem dX10_route_5 : decode cX10_route 5 = .ok (.invokevirtual 145, 3) := by decide +kernel
theorem dX10_route_8 : decode cX10_route 8 = .ok (.ifCond .eq 14, 3) := by decide +kernel
theorem dX10_route_11 : decode cX10_route 11 = .ok (.aload_n 0, 1) := by decide +kernel
theorem dX10_route_12 : decode cX10_route 12 = .ok (.getfield 26, 3) := by decide +kernel
theorem dX10_route_15 : decode cX10_route 15 = .ok (.iload_n 2, 1) := by decide +kernel
theorem dX10_route_16 : decode cX10_route 16 = .ok (.invokevirtual 145, 3) := by decide +kernel
theorem dX10_route_19 : decode cX10_route 19 = .ok (.ifCond .ne 5, 3) := by decide +kernel
theorem dX10_route_22 : decode cX10_route 22 = .ok (.iconst (-1), 1) := by decide +kernel
theorem dX10_route_23 : decode cX10_route 23 = .ok (.ireturn, 1) := by decide +kernel
theorem dX10_route_24 : decode cX10_route 24 = .ok (.aload_n 0, 1) := by decide +kernel
theorem dX10_route_25 : decode cX10_route 25 = .ok (.getfield 26, 3) := by decide +kernel
theorem dX10_route_28 : decode cX10_route 28 = .ok (.iload_n 2, 1) := by decide +kernel
theorem dX10_route_29 : decode cX10_route 29 = .ok (.aload_n 0, 1) := by decide +kernel
theorem dX10_route_30 : decode cX10_route 30 = .ok (.getfield 98, 3) := by decide +kernel
theorem dX10_route_33 : decode cX10_route 33 = .ok (.invokevirtual 338, 3) := by decide +kernel
theorem dX10_route_36 : decode cX10_route 36 = .ok (.aload_n 0, 1) := by decide +kernel
theorem dX10_route_37 : decode cX10_route 37 = .ok (.getfield 98, 3) := by decide +kernel
theorem dX10_route_40 : decode cX10_route 40 = .ok (.iload_n 1, 1) := by decide +kernel
theorem dX10_route_41 : decode cX10_route 41 = .ok (.iaload, 1) := by decide +kernel
theorem dX10_route_42 : decode cX10_route 42 = .ok (.istore_n 3, 1) := by decide +kernel
theorem dX10_route_43 : decode cX10_route 43 = .ok (.iload_n 3, 1) := by decide +kernel
theorem dX10_route_44 : decode cX10_route 44 = .ok (.ifCond .ge 6, 3) := by decide +kernel
theorem dX10_route_47 : decode cX10_route 47 = .ok (.bipush (-2), 2) := by decide +kernel
theorem dX10_route_49 : decode cX10_route 49 = .ok (.ireturn, 1) := by decide +kernel
theorem dX10_route_50 : decode cX10_route 50 = .ok (.aload_n 0, 1) := by decide +kernel
theorem dX10_route_51 : decode cX10_route 51 = .ok (.getfield 19, 3) := by decide +kernel
theorem dX10_route_54 : decode cX10_route 54 = .ok (.invokevirtual 342, 3) := by decide +kernel
theorem dX10_route_57 : decode cX10_route 57 = .ok (.iload_n 1, 1) := by decide +kernel
theorem dX10_route_58 : decode cX10_route 58 = .ok (.istore 4, 2) := by decide +kernel
theorem dX10_route_60 : decode cX10_route 60 = .ok (.iload_n 3, 1) := by decide +kernel
theorem dX10_route_61 : decode cX10_route 61 = .ok (.iconst 1, 1) := by decide +kernel
theorem dX10_route_62 : decode cX10_route 62 = .ok (.isub, 1) := by decide +kernel
theorem dX10_route_63 : decode cX10_route 63 = .ok (.istore 5, 2) := by decide +kernel
theorem dX10_route_65 : decode cX10_route 65 = .ok (.iload 5, 2) := by decide +kernel
theorem dX10_route_67 : decode cX10_route 67 = .ok (.ifCond .lt 29, 3) := by decide +kernel
theorem dX10_route_70 : decode cX10_route 70 = .ok (.aload_n 0, 1) := by decide +kernel
theorem dX10_route_71 : decode cX10_route 71 = .ok (.iload 4, 2) := by decide +kernel
theorem dX10_route_73 : decode cX10_route 73 = .ok (.iload 5, 2) := by decide +kernel
theorem dX10_route_75 : decode cX10_route 75 = .ok (.invokevirtual 344, 3) := by decide +kernel
theorem dX10_route_78 : decode cX10_route 78 = .ok (.istore 4, 2) := by decide +kernel
theorem dX10_route_80 : decode cX10_route 80 = .ok (.aload_n 0, 1) := by decide +kernel
theorem dX10_route_81 : decode cX10_route 81 = .ok (.getfield 19, 3) := by decide +kernel
theorem dX10_route_84 : decode cX10_route 84 = .ok (.iload 4, 2) := by decide +kernel
theorem dX10_route_86 : decode cX10_route 86 = .ok (.i2l, 1) := by decide +kernel
theorem dX10_route_87 : decode cX10_route 87 = .ok (.invokevirtual 347, 3) := by decide +kernel
theorem dX10_route_90 : decode cX10_route 90 = .ok (.iinc 5 (-1), 3) := by decide +kernel
theorem dX10_route_93 : decode cX10_route 93 = .ok (.goto (-28), 3) := by decide +kernel
theorem dX10_route_96 : decode cX10_route 96 = .ok (.iload_n 3, 1) := by decide +kernel
theorem dX10_route_97 : decode cX10_route 97 = .ok (.ireturn, 1) := by decide +kernel
theorem dX10_leastNext_0 : decode cX10_leastNext 0 = .ok (.iconst 0, 1) := by decide +kernel
theorem dX10_leastNext_1 : decode cX10_leastNext 1 = .ok (.istore_n 3, 1) := by decide +kernel
theorem dX10_leastNext_2 : decode cX10_leastNext 2 = .ok (.iload_n 3, 1) := by decide +kernel
theorem dX10_leastNext_3 : decode cX10_leastNext 3 = .ok (.aload_n 0, 1) := by decide +kernel
theorem dX10_leastNext_4 : decode cX10_leastNext 4 = .ok (.getfield 26, 3) := by decide +kernel
theorem dX10_leastNext_7 : decode cX10_leastNext 7 = .ok (.invokevirtual 275, 3) := by decide +kernel
theorem dX10_leastNext_10 : decode cX10_leastNext 10 = .ok (.if_icmp .ge 33, 3) := by decide +kernel
theorem dX10_leastNext_13 : decode cX10_leastNext 13 = .ok (.aload_n 0, 1) := by decide +kernel
theorem dX10_leastNext_14 : decode cX10_leastNext 14 = .ok (.getfield 98, 3) := by decide +kernel
theorem dX10_leastNext_17 : decode cX10_leastNext 17 = .ok (.iload_n 3, 1) := by decide +kernel
theorem dX10_leastNext_18 : decode cX10_leastNext 18 = .ok (.iaload, 1) := by decide +kernel
theorem dX10_leastNext_19 : decode cX10_leastNext 19 = .ok (.iload_n 2, 1) := by decide +kernel
theorem dX10_leastNext_20 : decode cX10_leastNext 20 = .ok (.if_icmp .ne 17, 3) := by decide +kernel
theorem dX10_leastNext_23 : decode cX10_leastNext 23 = .ok (.aload_n 0, 1) := by decide +kernel
theorem dX10_leastNext_24 : decode cX10_leastNext 24 = .ok (.getfield 26, 3) := by decide +kernel
theorem dX10_leastNext_27 : decode cX10_leastNext 27 = .ok (.iload_n 1, 1) := by decide +kernel
theorem dX10_leastNext_28 : decode cX10_leastNext 28 = .ok (.iload_n 3, 1) := by decide +kernel
theorem dX10_leastNext_29 : decode cX10_leastNext 29 = .ok (.invokevirtual 284, 3) := by decide +kernel
theorem dX10_leastNext_32 : decode cX10_leastNext 32 = .ok (.ifCond .le 5, 3) := by decide +kernel
theorem dX10_leastNext_35 : decode cX10_leastNext 35 = .ok (.iload_n 3, 1) := by decide +kernel
theorem dX10_leastNext_36 : decode cX10_leastNext 36 = .ok (.ireturn, 1) := by decide +kernel
theorem dX10_leastNext_37 : decode cX10_leastNext 37 = .ok (.iinc 3 1, 3) := by decide +kernel
theorem dX10_leastNext_40 : decode cX10_leastNext 40 = .ok (.goto (-38), 3) := by decide +kernel
theorem dX10_leastNext_43 : decode cX10_leastNext 43 = .ok (.iconst 0, 1) := by decide +kernel
theorem dX10_leastNext_44 : decode cX10_leastNext 44 = .ok (.ireturn, 1) := by decide +kernel
theorem dX10_gates_0 : decode cX10_gates 0 = .ok (.aload_n 0, 1) := by decide +kernel
theorem dX10_gates_1 : decode cX10_gates 1 = .ok (.getfield 26, 3) := by decide +kernel
theorem dX10_gates_4 : decode cX10_gates 4 = .ok (.iload_n 1, 1) := by decide +kernel
theorem dX10_gates_5 : decode cX10_gates 5 = .ok (.invokevirtual 176, 3) := by decide +kernel
theorem dX10_gates_8 : decode cX10_gates 8 = .ok (.ifCond .ne 5, 3) := by decide +kernel
theorem dX10_gates_11 : decode cX10_gates 11 = .ok (.iconst (-1), 1) := by decide +kernel
theorem dX10_gates_12 : decode cX10_gates 12 = .ok (.ireturn, 1) := by decide +kernel
theorem dX10_gates_13 : decode cX10_gates 13 = .ok (.iconst 0, 1) := by decide +kernel
theorem dX10_gates_14 : decode cX10_gates 14 = .ok (.istore_n 2, 1) := by decide +kernel
theorem dX10_gates_15 : decode cX10_gates 15 = .ok (.iconst 1, 1) := by decide +kernel
theorem dX10_gates_16 : decode cX10_gates 16 = .ok (.istore_n 3, 1) := by decide +kernel
theorem dX10_gates_17 : decode cX10_gates 17 = .ok (.iload_n 3, 1) := by decide +kernel
theorem dX10_gates_18 : decode cX10_gates 18 = .ok (.aload_n 0, 1) := by decide +kernel
theorem dX10_gates_19 : decode cX10_gates 19 = .ok (.getfield 26, 3) := by decide +kernel
theorem dX10_gates_22 : decode cX10_gates 22 = .ok (.invokevirtual 275, 3) := by decide +kernel
theorem dX10_gates_25 : decode cX10_gates 25 = .ok (.if_icmp .ge 34, 3) := by decide +kernel
theorem dX10_gates_28 : decode cX10_gates 28 = .ok (.iload_n 3, 1) := by decide +kernel
theorem dX10_gates_29 : decode cX10_gates 29 = .ok (.iload_n 1, 1) := by decide +kernel
theorem dX10_gates_30 : decode cX10_gates 30 = .ok (.if_icmp .eq 23, 3) := by decide +kernel
theorem dX10_gates_33 : decode cX10_gates 33 = .ok (.aload_n 0, 1) := by decide +kernel
theorem dX10_gates_34 : decode cX10_gates 34 = .ok (.getfield 26, 3) := by decide +kernel
theorem dX10_gates_37 : decode cX10_gates 37 = .ok (.iload_n 1, 1) := by decide +kernel
theorem dX10_gates_38 : decode cX10_gates 38 = .ok (.iload_n 3, 1) := by decide +kernel
theorem dX10_gates_39 : decode cX10_gates 39 = .ok (.invokevirtual 349, 3) := by decide +kernel
theorem dX10_gates_42 : decode cX10_gates 42 = .ok (.iconst 1, 1) := by decide +kernel
theorem dX10_gates_43 : decode cX10_gates 43 = .ok (.iand, 1) := by decide +kernel
theorem dX10_gates_44 : decode cX10_gates 44 = .ok (.ifCond .ne 9, 3) := by decide +kernel
theorem dX10_gates_47 : decode cX10_gates 47 = .ok (.iload_n 2, 1) := by decide +kernel
theorem dX10_gates_48 : decode cX10_gates 48 = .ok (.iconst 1, 1) := by decide +kernel
theorem dX10_gates_49 : decode cX10_gates 49 = .ok (.iload_n 3, 1) := by decide +kernel
theorem dX10_gates_50 : decode cX10_gates 50 = .ok (.ishl, 1) := by decide +kernel
theorem dX10_gates_51 : decode cX10_gates 51 = .ok (.ior, 1) := by decide +kernel
theorem dX10_gates_52 : decode cX10_gates 52 = .ok (.istore_n 2, 1) := by decide +kernel
theorem dX10_gates_53 : decode cX10_gates 53 = .ok (.iinc 3 1, 3) := by decide +kernel
theorem dX10_gates_56 : decode cX10_gates 56 = .ok (.goto (-39), 3) := by decide +kernel
theorem dX10_gates_59 : decode cX10_gates 59 = .ok (.aload_n 0, 1) := by decide +kernel
theorem dX10_gates_60 : decode cX10_gates 60 = .ok (.getfield 19, 3) := by decide +kernel
theorem dX10_gates_63 : decode cX10_gates 63 = .ok (.iload_n 2, 1) := by decide +kernel
theorem dX10_gates_64 : decode cX10_gates 64 = .ok (.invokestatic 316, 3) := by decide +kernel
theorem dX10_gates_67 : decode cX10_gates 67 = .ok (.i2l, 1) := by decide +kernel
theorem dX10_gates_68 : decode cX10_gates 68 = .ok (.invokevirtual 258, 3) := by decide +kernel
theorem dX10_gates_71 : decode cX10_gates 71 = .ok (.iload_n 2, 1) := by decide +kernel
theorem dX10_gates_72 : decode cX10_gates 72 = .ok (.ireturn, 1) := by decide +kernel
theorem dX10_parish_0 : decode cX10_parish 0 = .ok (.aload_n 0, 1) := by decide +kernel
theorem dX10_parish_1 : decode cX10_parish 1 = .ok (.getfield 26, 3) := by decide +kernel
theorem dX10_parish_4 : decode cX10_parish 4 = .ok (.iload_n 1, 1) := by decide +kernel
theorem dX10_parish_5 : decode cX10_parish 5 = .ok (.invokevirtual 145, 3) := by decide +kernel
theorem dX10_parish_8 : decode cX10_parish 8 = .ok (.ifCond .ne 5, 3) := by decide +kernel
theorem dX10_parish_11 : decode cX10_parish 11 = .ok (.iconst (-1), 1) := by decide +kernel
theorem dX10_parish_12 : decode cX10_parish 12 = .ok (.ireturn, 1) := by decide +kernel
theorem dX10_parish_13 : decode cX10_parish 13 = .ok (.iconst 0, 1) := by decide +kernel
theorem dX10_parish_14 : decode cX10_parish 14 = .ok (.istore_n 2, 1) := by decide +kernel
theorem dX10_parish_15 : decode cX10_parish 15 = .ok (.iconst 0, 1) := by decide +kernel
theorem dX10_parish_16 : decode cX10_parish 16 = .ok (.istore_n 3, 1) := by decide +kernel
theorem dX10_parish_17 : decode cX10_parish 17 = .ok (.iload_n 3, 1) := by decide +kernel
theorem dX10_parish_18 : decode cX10_parish 18 = .ok (.aload_n 0, 1) := by decide +kernel
theorem dX10_parish_19 : decode cX10_parish 19 = .ok (.getfield 26, 3) := by decide +kernel
theorem dX10_parish_22 : decode cX10_parish 22 = .ok (.invokevirtual 275, 3) := by decide +kernel
theorem dX10_parish_25 : decode cX10_parish 25 = .ok (.if_icmp .ge 29, 3) := by decide +kernel
theorem dX10_parish_28 : decode cX10_parish 28 = .ok (.aload_n 0, 1) := by decide +kernel
theorem dX10_parish_29 : decode cX10_parish 29 = .ok (.getfield 26, 3) := by decide +kernel
theorem dX10_parish_32 : decode cX10_parish 32 = .ok (.iload_n 3, 1) := by decide +kernel
theorem dX10_parish_33 : decode cX10_parish 33 = .ok (.invokevirtual 352, 3) := by decide +kernel
theorem dX10_parish_36 : decode cX10_parish 36 = .ok (.iconst 1, 1) := by decide +kernel
theorem dX10_parish_37 : decode cX10_parish 37 = .ok (.iload_n 3, 1) := by decide +kernel
theorem dX10_parish_38 : decode cX10_parish 38 = .ok (.ishl, 1) := by decide +kernel
theorem dX10_parish_39 : decode cX10_parish 39 = .ok (.iconst 1, 1) := by decide +kernel
theorem dX10_parish_40 : decode cX10_parish 40 = .ok (.isub, 1) := by decide +kernel
theorem dX10_parish_41 : decode cX10_parish 41 = .ok (.iand, 1) := by decide +kernel
theorem dX10_parish_42 : decode cX10_parish 42 = .ok (.ifCond .ne 6, 3) := by decide +kernel
theorem dX10_parish_45 : decode cX10_parish 45 = .ok (.iinc 2 1, 3) := by decide +kernel
theorem dX10_parish_48 : decode cX10_parish 48 = .ok (.iinc 3 1, 3) := by decide +kernel
theorem dX10_parish_51 : decode cX10_parish 51 = .ok (.goto (-34), 3) := by decide +kernel
theorem dX10_parish_54 : decode cX10_parish 54 = .ok (.aload_n 0, 1) := by decide +kernel
theorem dX10_parish_55 : decode cX10_parish 55 = .ok (.getfield 19, 3) := by decide +kernel
theorem dX10_parish_58 : decode cX10_parish 58 = .ok (.iload_n 2, 1) := by decide +kernel
theorem dX10_parish_59 : decode cX10_parish 59 = .ok (.i2l, 1) := by decide +kernel
theorem dX10_parish_60 : decode cX10_parish 60 = .ok (.invokevirtual 258, 3) := by decide +kernel
theorem dX10_parish_63 : decode cX10_parish 63 = .ok (.aload_n 0, 1) := by decide +kernel
theorem dX10_parish_64 : decode cX10_parish 64 = .ok (.getfield 26, 3) := by decide +kernel
theorem dX10_parish_67 : decode cX10_parish 67 = .ok (.iload_n 1, 1) := by decide +kernel
theorem dX10_parish_68 : decode cX10_parish 68 = .ok (.invokevirtual 352, 3) := by decide +kernel
theorem dX10_parish_71 : decode cX10_parish 71 = .ok (.ireturn, 1) := by decide +kernel
theorem dX10_mean_0 : decode cX10_mean 0 = .ok (.aload_n 0, 1) := by decide +kernel
theorem dX10_mean_1 : decode cX10_mean 1 = .ok (.getfield 26, 3) := by decide +kernel
theorem dX10_mean_4 : decode cX10_mean 4 = .ok (.iload_n 1, 1) := by decide +kernel
theorem dX10_mean_5 : decode cX10_mean 5 = .ok (.invokevirtual 176, 3) := by decide +kernel
theorem dX10_mean_8 : decode cX10_mean 8 = .ok (.ifCond .ne 5, 3) := by decide +kernel
theorem dX10_mean_11 : decode cX10_mean 11 = .ok (.iconst (-1), 1) := by decide +kernel
theorem dX10_mean_12 : decode cX10_mean 12 = .ok (.ireturn, 1) := by decide +kernel
theorem dX10_mean_13 : decode cX10_mean 13 = .ok (.aload_n 0, 1) := by decide +kernel
theorem dX10_mean_14 : decode cX10_mean 14 = .ok (.getfield 73, 3) := by decide +kernel
theorem dX10_mean_17 : decode cX10_mean 17 = .ok (.aload_n 0, 1) := by decide +kernel
theorem dX10_mean_18 : decode cX10_mean 18 = .ok (.getfield 26, 3) := by decide +kernel
theorem dX10_mean_21 : decode cX10_mean 21 = .ok (.iload_n 1, 1) := by decide +kernel
theorem dX10_mean_22 : decode cX10_mean 22 = .ok (.iconst 0, 1) := by decide +kernel
theorem dX10_mean_23 : decode cX10_mean 23 = .ok (.invokevirtual 355, 3) := by decide +kernel
theorem dX10_mean_26 : decode cX10_mean 26 = .ok (.aload_n 0, 1) := by decide +kernel
theorem dX10_mean_27 : decode cX10_mean 27 = .ok (.getfield 19, 3) := by decide +kernel
theorem dX10_mean_30 : decode cX10_mean 30 = .ok (.aload_n 0, 1) := by decide +kernel
theorem dX10_mean_31 : decode cX10_mean 31 = .ok (.getfield 73, 3) := by decide +kernel
theorem dX10_mean_34 : decode cX10_mean 34 = .ok (.getfield 359, 3) := by decide +kernel
theorem dX10_mean_37 : decode cX10_mean 37 = .ok (.aload_n 0, 1) := by decide +kernel
theorem dX10_mean_38 : decode cX10_mean 38 = .ok (.getfield 73, 3) := by decide +kernel
theorem dX10_mean_41 : decode cX10_mean 41 = .ok (.getfield 363, 3) := by decide +kernel
theorem dX10_mean_44 : decode cX10_mean 44 = .ok (.invokevirtual 241, 3) := by decide +kernel
theorem dX10_mean_47 : decode cX10_mean 47 = .ok (.aload_n 0, 1) := by decide +kernel
theorem dX10_mean_48 : decode cX10_mean 48 = .ok (.getfield 73, 3) := by decide +kernel
theorem dX10_mean_51 : decode cX10_mean 51 = .ok (.getfield 363, 3) := by decide +kernel
theorem dX10_mean_54 : decode cX10_mean 54 = .ok (.lconst 0, 1) := by decide +kernel
theorem dX10_mean_55 : decode cX10_mean 55 = .ok (.lcmp, 1) := by decide +kernel
theorem dX10_mean_56 : decode cX10_mean 56 = .ok (.ifCond .le 22, 3) := by decide +kernel
theorem dX10_mean_59 : decode cX10_mean 59 = .ok (.aload_n 0, 1) := by decide +kernel
theorem dX10_mean_60 : decode cX10_mean 60 = .ok (.getfield 73, 3) := by decide +kernel
theorem dX10_mean_63 : decode cX10_mean 63 = .ok (.getfield 359, 3) := by decide +kernel
theorem dX10_mean_66 : decode cX10_mean 66 = .ok (.aload_n 0, 1) := by decide +kernel
theorem dX10_mean_67 : decode cX10_mean 67 = .ok (.getfield 73, 3) := by decide +kernel
theorem dX10_mean_70 : decode cX10_mean 70 = .ok (.getfield 363, 3) := by decide +kernel
theorem dX10_mean_73 : decode cX10_mean 73 = .ok (.ldiv, 1) := by decide +kernel
theorem dX10_mean_74 : decode cX10_mean 74 = .ok (.l2i, 1) := by decide +kernel
theorem dX10_mean_75 : decode cX10_mean 75 = .ok (.goto 4, 3) := by decide +kernel
theorem dX10_mean_78 : decode cX10_mean 78 = .ok (.iconst 0, 1) := by decide +kernel
theorem dX10_mean_79 : decode cX10_mean 79 = .ok (.ireturn, 1) := by decide +kernel
theorem dX10_meets_0 : decode cX10_meets 0 = .ok (.aload_n 0, 1) := by decide +kernel
theorem dX10_meets_1 : decode cX10_meets 1 = .ok (.getfield 26, 3) := by decide +kernel
theorem dX10_meets_4 : decode cX10_meets 4 = .ok (.iload_n 1, 1) := by decide +kernel
theorem dX10_meets_5 : decode cX10_meets 5 = .ok (.invokevirtual 176, 3) := by decide +kernel
theorem dX10_meets_8 : decode cX10_meets 8 = .ok (.ifCond .eq 14, 3) := by decide +kernel
theorem dX10_meets_11 : decode cX10_meets 11 = .ok (.aload_n 0, 1) := by decide +kernel
theorem dX10_meets_12 : decode cX10_meets 12 = .ok (.getfield 26, 3) := by decide +kernel
theorem dX10_meets_15 : decode cX10_meets 15 = .ok (.iload_n 2, 1) := by decide +kernel
theorem dX10_meets_16 : decode cX10_meets 16 = .ok (.invokevirtual 176, 3) := by decide +kernel
theorem dX10_meets_19 : decode cX10_meets 19 = .ok (.ifCond .ne 5, 3) := by decide +kernel
theorem dX10_meets_22 : decode cX10_meets 22 = .ok (.iconst (-1), 1) := by decide +kernel
theorem dX10_meets_23 : decode cX10_meets 23 = .ok (.ireturn, 1) := by decide +kernel
theorem dX10_meets_24 : decode cX10_meets 24 = .ok (.aload_n 0, 1) := by decide +kernel
theorem dX10_meets_25 : decode cX10_meets 25 = .ok (.getfield 73, 3) := by decide +kernel
theorem dX10_meets_28 : decode cX10_meets 28 = .ok (.aload_n 0, 1) := by decide +kernel
theorem dX10_meets_29 : decode cX10_meets 29 = .ok (.getfield 26, 3) := by decide +kernel
theorem dX10_meets_32 : decode cX10_meets 32 = .ok (.iload_n 1, 1) := by decide +kernel
theorem dX10_meets_33 : decode cX10_meets 33 = .ok (.iload_n 2, 1) := by decide +kernel
theorem dX10_meets_34 : decode cX10_meets 34 = .ok (.invokevirtual 355, 3) := by decide +kernel
theorem dX10_meets_37 : decode cX10_meets 37 = .ok (.aload_n 0, 1) := by decide +kernel
theorem dX10_meets_38 : decode cX10_meets 38 = .ok (.getfield 19, 3) := by decide +kernel
theorem dX10_meets_41 : decode cX10_meets 41 = .ok (.aload_n 0, 1) := by decide +kernel
theorem dX10_meets_42 : decode cX10_meets 42 = .ok (.getfield 73, 3) := by decide +kernel
theorem dX10_meets_45 : decode cX10_meets 45 = .ok (.getfield 359, 3) := by decide +kernel
theorem dX10_meets_48 : decode cX10_meets 48 = .ok (.aload_n 0, 1) := by decide +kernel
theorem dX10_meets_49 : decode cX10_meets 49 = .ok (.getfield 73, 3) := by decide +kernel
theorem dX10_meets_52 : decode cX10_meets 52 = .ok (.getfield 363, 3) := by decide +kernel
theorem dX10_meets_55 : decode cX10_meets 55 = .ok (.invokevirtual 241, 3) := by decide +kernel
theorem dX10_meets_58 : decode cX10_meets 58 = .ok (.iconst 0, 1) := by decide +kernel
theorem dX10_meets_59 : decode cX10_meets 59 = .ok (.ireturn, 1) := by decide +kernel
theorem dX10_odds_0 : decode cX10_odds 0 = .ok (.aload_n 0, 1) := by decide +kernel
theorem dX10_odds_1 : decode cX10_odds 1 = .ok (.getfield 26, 3) := by decide +kernel
theorem dX10_odds_4 : decode cX10_odds 4 = .ok (.iload_n 1, 1) := by decide +kernel
theorem dX10_odds_5 : decode cX10_odds 5 = .ok (.invokevirtual 176, 3) := by decide +kernel
theorem dX10_odds_8 : decode cX10_odds 8 = .ok (.ifCond .eq 24, 3) := by decide +kernel
theorem dX10_odds_11 : decode cX10_odds 11 = .ok (.aload_n 0, 1) := by decide +kernel
theorem dX10_odds_12 : decode cX10_odds 12 = .ok (.getfield 26, 3) := by decide +kernel
theorem dX10_odds_15 : decode cX10_odds 15 = .ok (.iload_n 3, 1) := by decide +kernel
theorem dX10_odds_16 : decode cX10_odds 16 = .ok (.invokevirtual 145, 3) := by decide +kernel
theorem dX10_odds_19 : decode cX10_odds 19 = .ok (.ifCond .eq 13, 3) := by decide +kernel
theorem dX10_odds_22 : decode cX10_odds 22 = .ok (.iload_n 2, 1) := by decide +kernel
theorem dX10_odds_23 : decode cX10_odds 23 = .ok (.ifCond .lt 9, 3) := by decide +kernel
theorem dX10_odds_26 : decode cX10_odds 26 = .ok (.iload_n 2, 1) := by decide +kernel
theorem dX10_odds_27 : decode cX10_odds 27 = .ok (.bipush 8, 2) := by decide +kernel
theorem dX10_odds_29 : decode cX10_odds 29 = .ok (.if_icmp .le 5, 3) := by decide +kernel
theorem dX10_odds_32 : decode cX10_odds 32 = .ok (.iconst (-1), 1) := by decide +kernel
theorem dX10_odds_33 : decode cX10_odds 33 = .ok (.ireturn, 1) := by decide +kernel
theorem dX10_odds_34 : decode cX10_odds 34 = .ok (.aload_n 0, 1) := by decide +kernel
theorem dX10_odds_35 : decode cX10_odds 35 = .ok (.getfield 73, 3) := by decide +kernel
theorem dX10_odds_38 : decode cX10_odds 38 = .ok (.aload_n 0, 1) := by decide +kernel
theorem dX10_odds_39 : decode cX10_odds 39 = .ok (.getfield 26, 3) := by decide +kernel
theorem dX10_odds_42 : decode cX10_odds 42 = .ok (.iload_n 1, 1) := by decide +kernel
theorem dX10_odds_43 : decode cX10_odds 43 = .ok (.iload_n 2, 1) := by decide +kernel
theorem dX10_odds_44 : decode cX10_odds 44 = .ok (.iload_n 3, 1) := by decide +kernel
theorem dX10_odds_45 : decode cX10_odds 45 = .ok (.invokevirtual 366, 3) := by decide +kernel
theorem dX10_odds_48 : decode cX10_odds 48 = .ok (.aload_n 0, 1) := by decide +kernel
theorem dX10_odds_49 : decode cX10_odds 49 = .ok (.getfield 19, 3) := by decide +kernel
theorem dX10_odds_52 : decode cX10_odds 52 = .ok (.aload_n 0, 1) := by decide +kernel
theorem dX10_odds_53 : decode cX10_odds 53 = .ok (.getfield 73, 3) := by decide +kernel
theorem dX10_odds_56 : decode cX10_odds 56 = .ok (.getfield 359, 3) := by decide +kernel
theorem dX10_odds_59 : decode cX10_odds 59 = .ok (.aload_n 0, 1) := by decide +kernel
theorem dX10_odds_60 : decode cX10_odds 60 = .ok (.getfield 73, 3) := by decide +kernel
theorem dX10_odds_63 : decode cX10_odds 63 = .ok (.getfield 363, 3) := by decide +kernel
theorem dX10_odds_66 : decode cX10_odds 66 = .ok (.invokevirtual 241, 3) := by decide +kernel
theorem dX10_odds_69 : decode cX10_odds 69 = .ok (.iconst 0, 1) := by decide +kernel
theorem dX10_odds_70 : decode cX10_odds 70 = .ok (.ireturn, 1) := by decide +kernel
theorem dX10_ready_0 : decode cX10_ready 0 = .ok (.iconst 0, 1) := by decide +kernel
theorem dX10_ready_1 : decode cX10_ready 1 = .ok (.istore_n 1, 1) := by decide +kernel
theorem dX10_ready_2 : decode cX10_ready 2 = .ok (.iconst 1, 1) := by decide +kernel
theorem dX10_ready_3 : decode cX10_ready 3 = .ok (.istore_n 2, 1) := by decide +kernel
theorem dX10_ready_4 : decode cX10_ready 4 = .ok (.iload_n 2, 1) := by decide +kernel
theorem dX10_ready_5 : decode cX10_ready 5 = .ok (.aload_n 0, 1) := by decide +kernel
theorem dX10_ready_6 : decode cX10_ready 6 = .ok (.getfield 26, 3) := by decide +kernel
theorem dX10_ready_9 : decode cX10_ready 9 = .ok (.invokevirtual 275, 3) := by decide +kernel
theorem dX10_ready_12 : decode cX10_ready 12 = .ok (.if_icmp .ge 27, 3) := by decide +kernel
theorem dX10_ready_15 : decode cX10_ready 15 = .ok (.aload_n 0, 1) := by decide +kernel
theorem dX10_ready_16 : decode cX10_ready 16 = .ok (.aload_n 0, 1) := by decide +kernel
theorem dX10_ready_17 : decode cX10_ready 17 = .ok (.getfield 46, 3) := by decide +kernel
theorem dX10_ready_20 : decode cX10_ready 20 = .ok (.iload_n 2, 1) := by decide +kernel
theorem dX10_ready_21 : decode cX10_ready 21 = .ok (.invokevirtual 261, 3) := by decide +kernel
theorem dX10_ready_24 : decode cX10_ready 24 = .ok (.ifCond .eq 9, 3) := by decide +kernel
theorem dX10_ready_27 : decode cX10_ready 27 = .ok (.iload_n 1, 1) := by decide +kernel
theorem dX10_ready_28 : decode cX10_ready 28 = .ok (.iconst 1, 1) := by decide +kernel
theorem dX10_ready_29 : decode cX10_ready 29 = .ok (.iload_n 2, 1) := by decide +kernel
theorem dX10_ready_30 : decode cX10_ready 30 = .ok (.ishl, 1) := by decide +kernel
theorem dX10_ready_31 : decode cX10_ready 31 = .ok (.ior, 1) := by decide +kernel
theorem dX10_ready_32 : decode cX10_ready 32 = .ok (.istore_n 1, 1) := by decide +kernel
theorem dX10_ready_33 : decode cX10_ready 33 = .ok (.iinc 2 1, 3) := by decide +kernel
theorem dX10_ready_36 : decode cX10_ready 36 = .ok (.goto (-32), 3) := by decide +kernel
theorem dX10_ready_39 : decode cX10_ready 39 = .ok (.aload_n 0, 1) := by decide +kernel
theorem dX10_ready_40 : decode cX10_ready 40 = .ok (.getfield 19, 3) := by decide +kernel
theorem dX10_ready_43 : decode cX10_ready 43 = .ok (.iload_n 1, 1) := by decide +kernel
theorem dX10_ready_44 : decode cX10_ready 44 = .ok (.invokestatic 316, 3) := by decide +kernel
theorem dX10_ready_47 : decode cX10_ready 47 = .ok (.i2l, 1) := by decide +kernel
theorem dX10_ready_48 : decode cX10_ready 48 = .ok (.aload_n 0, 1) := by decide +kernel
theorem dX10_ready_49 : decode cX10_ready 49 = .ok (.getfield 46, 3) := by decide +kernel
theorem dX10_ready_52 : decode cX10_ready 52 = .ok (.invokevirtual 190, 3) := by decide +kernel
theorem dX10_ready_55 : decode cX10_ready 55 = .ok (.i2l, 1) := by decide +kernel
theorem dX10_ready_56 : decode cX10_ready 56 = .ok (.invokevirtual 241, 3) := by decide +kernel
theorem dX10_ready_59 : decode cX10_ready 59 = .ok (.iload_n 1, 1) := by decide +kernel
theorem dX10_ready_60 : decode cX10_ready 60 = .ok (.ireturn, 1) := by decide +kernel
theorem dX10_unit_0 : decode cX10_unit 0 = .ok (.aload_n 0, 1) := by decide +kernel
theorem dX10_unit_1 : decode cX10_unit 1 = .ok (.getfield 66, 3) := by decide +kernel
theorem dX10_unit_4 : decode cX10_unit 4 = .ok (.aload_n 0, 1) := by decide +kernel
theorem dX10_unit_5 : decode cX10_unit 5 = .ok (.getfield 26, 3) := by decide +kernel
theorem dX10_unit_8 : decode cX10_unit 8 = .ok (.invokevirtual 370, 3) := by decide +kernel
theorem dX10_unit_11 : decode cX10_unit 11 = .ok (.istore_n 1, 1) := by decide +kernel
theorem dX10_unit_12 : decode cX10_unit 12 = .ok (.iload_n 1, 1) := by decide +kernel
theorem dX10_unit_13 : decode cX10_unit 13 = .ok (.ifCond .lt 24, 3) := by decide +kernel
theorem dX10_unit_16 : decode cX10_unit 16 = .ok (.aload_n 0, 1) := by decide +kernel
theorem dX10_unit_17 : decode cX10_unit 17 = .ok (.getfield 19, 3) := by decide +kernel
theorem dX10_unit_20 : decode cX10_unit 20 = .ok (.aload_n 0, 1) := by decide +kernel
theorem dX10_unit_21 : decode cX10_unit 21 = .ok (.getfield 66, 3) := by decide +kernel
theorem dX10_unit_24 : decode cX10_unit 24 = .ok (.getfield 373, 3) := by decide +kernel
theorem dX10_unit_27 : decode cX10_unit 27 = .ok (.aload_n 0, 1) := by decide +kernel
theorem dX10_unit_28 : decode cX10_unit 28 = .ok (.getfield 26, 3) := by decide +kernel
theorem dX10_unit_31 : decode cX10_unit 31 = .ok (.invokevirtual 275, 3) := by decide +kernel
theorem dX10_unit_34 : decode cX10_unit 34 = .ok (.invokevirtual 290, 3) := by decide +kernel
theorem dX10_unit_37 : decode cX10_unit 37 = .ok (.iload_n 1, 1) := by decide +kernel
theorem dX10_unit_38 : decode cX10_unit 38 = .ok (.ireturn, 1) := by decide +kernel
theorem dX10_returns_0 : decode cX10_returns 0 = .ok (.aload_n 0, 1) := by decide +kernel
theorem dX10_returns_1 : decode cX10_returns 1 = .ok (.invokevirtual 376, 3) := by decide +kernel
theorem dX10_returns_4 : decode cX10_returns 4 = .ok (.ifCond .eq 6, 3) := by decide +kernel
theorem dX10_returns_7 : decode cX10_returns 7 = .ok (.bipush (-2), 2) := by decide +kernel
theorem dX10_returns_9 : decode cX10_returns 9 = .ok (.ireturn, 1) := by decide +kernel
theorem dX10_returns_10 : decode cX10_returns 10 = .ok (.aload_n 0, 1) := by decide +kernel
theorem dX10_returns_11 : decode cX10_returns 11 = .ok (.getfield 66, 3) := by decide +kernel
theorem dX10_returns_14 : decode cX10_returns 14 = .ok (.aload_n 0, 1) := by decide +kernel
theorem dX10_returns_15 : decode cX10_returns 15 = .ok (.getfield 26, 3) := by decide +kernel
theorem dX10_returns_18 : decode cX10_returns 18 = .ok (.invokevirtual 370, 3) := by decide +kernel
theorem dX10_returns_21 : decode cX10_returns 21 = .ok (.ifCond .ge 6, 3) := by decide +kernel
theorem dX10_returns_24 : decode cX10_returns 24 = .ok (.bipush (-3), 2) := by decide +kernel
theorem dX10_returns_26 : decode cX10_returns 26 = .ok (.ireturn, 1) := by decide +kernel
theorem dX10_returns_27 : decode cX10_returns 27 = .ok (.aload_n 0, 1) := by decide +kernel
theorem dX10_returns_28 : decode cX10_returns 28 = .ok (.getfield 66, 3) := by decide +kernel
theorem dX10_returns_31 : decode cX10_returns 31 = .ok (.aload_n 0, 1) := by decide +kernel
theorem dX10_returns_32 : decode cX10_returns 32 = .ok (.getfield 46, 3) := by decide +kernel
theorem dX10_returns_35 : decode cX10_returns 35 = .ok (.getfield 167, 3) := by decide +kernel
theorem dX10_returns_38 : decode cX10_returns 38 = .ok (.invokevirtual 268, 3) := by decide +kernel
theorem dX10_returns_41 : decode cX10_returns 41 = .ok (.aload_n 0, 1) := by decide +kernel
theorem dX10_returns_42 : decode cX10_returns 42 = .ok (.getfield 66, 3) := by decide +kernel
theorem dX10_returns_45 : decode cX10_returns 45 = .ok (.aload_n 0, 1) := by decide +kernel
theorem dX10_returns_46 : decode cX10_returns 46 = .ok (.getfield 66, 3) := by decide +kernel
theorem dX10_returns_49 : decode cX10_returns 49 = .ok (.getfield 373, 3) := by decide +kernel
theorem dX10_returns_52 : decode cX10_returns 52 = .ok (.invokevirtual 380, 3) := by decide +kernel
theorem dX10_returns_55 : decode cX10_returns 55 = .ok (.aload_n 0, 1) := by decide +kernel
theorem dX10_returns_56 : decode cX10_returns 56 = .ok (.getfield 66, 3) := by decide +kernel
theorem dX10_returns_59 : decode cX10_returns 59 = .ok (.aload_n 0, 1) := by decide +kernel
theorem dX10_returns_60 : decode cX10_returns 60 = .ok (.getfield 26, 3) := by decide +kernel
theorem dX10_returns_63 : decode cX10_returns 63 = .ok (.invokevirtual 271, 3) := by decide +kernel
theorem dX10_returns_66 : decode cX10_returns 66 = .ok (.ifCond .ge 6, 3) := by decide +kernel
theorem dX10_returns_69 : decode cX10_returns 69 = .ok (.bipush (-3), 2) := by decide +kernel
theorem dX10_returns_71 : decode cX10_returns 71 = .ok (.ireturn, 1) := by decide +kernel
theorem dX10_returns_72 : decode cX10_returns 72 = .ok (.aload_n 0, 1) := by decide +kernel
theorem dX10_returns_73 : decode cX10_returns 73 = .ok (.getfield 19, 3) := by decide +kernel
theorem dX10_returns_76 : decode cX10_returns 76 = .ok (.aload_n 0, 1) := by decide +kernel
theorem dX10_returns_77 : decode cX10_returns 77 = .ok (.getfield 66, 3) := by decide +kernel
theorem dX10_returns_80 : decode cX10_returns 80 = .ok (.getfield 278, 3) := by decide +kernel
theorem dX10_returns_83 : decode cX10_returns 83 = .ok (.aload_n 0, 1) := by decide +kernel
theorem dX10_returns_84 : decode cX10_returns 84 = .ok (.getfield 26, 3) := by decide +kernel
theorem dX10_returns_87 : decode cX10_returns 87 = .ok (.invokevirtual 275, 3) := by decide +kernel
theorem dX10_returns_90 : decode cX10_returns 90 = .ok (.invokevirtual 290, 3) := by decide +kernel
theorem dX10_returns_93 : decode cX10_returns 93 = .ok (.aload_n 0, 1) := by decide +kernel
theorem dX10_returns_94 : decode cX10_returns 94 = .ok (.getfield 66, 3) := by decide +kernel
theorem dX10_returns_97 : decode cX10_returns 97 = .ok (.aload_n 0, 1) := by decide +kernel
theorem dX10_returns_98 : decode cX10_returns 98 = .ok (.getfield 46, 3) := by decide +kernel
theorem dX10_returns_101 : decode cX10_returns 101 = .ok (.getfield 167, 3) := by decide +kernel
theorem dX10_returns_104 : decode cX10_returns 104 = .ok (.invokevirtual 383, 3) := by decide +kernel
theorem dX10_returns_107 : decode cX10_returns 107 = .ok (.ifCond .eq 7, 3) := by decide +kernel
theorem dX10_returns_110 : decode cX10_returns 110 = .ok (.iconst 1, 1) := by decide +kernel
theorem dX10_returns_111 : decode cX10_returns 111 = .ok (.goto 4, 3) := by decide +kernel
theorem dX10_returns_114 : decode cX10_returns 114 = .ok (.iconst 0, 1) := by decide +kernel
theorem dX10_returns_115 : decode cX10_returns 115 = .ok (.ireturn, 1) := by decide +kernel
theorem dX10_joins_0 : decode cX10_joins 0 = .ok (.aload_n 0, 1) := by decide +kernel
theorem dX10_joins_1 : decode cX10_joins 1 = .ok (.getfield 59, 3) := by decide +kernel
theorem dX10_joins_4 : decode cX10_joins 4 = .ok (.iload_n 1, 1) := by decide +kernel
theorem dX10_joins_5 : decode cX10_joins 5 = .ok (.invokevirtual 387, 3) := by decide +kernel
theorem dX10_joins_8 : decode cX10_joins 8 = .ok (.ifCond .ne 5, 3) := by decide +kernel
theorem dX10_joins_11 : decode cX10_joins 11 = .ok (.iconst (-1), 1) := by decide +kernel
theorem dX10_joins_12 : decode cX10_joins 12 = .ok (.ireturn, 1) := by decide +kernel
theorem dX10_joins_13 : decode cX10_joins 13 = .ok (.aload_n 0, 1) := by decide +kernel
theorem dX10_joins_14 : decode cX10_joins 14 = .ok (.getfield 59, 3) := by decide +kernel
theorem dX10_joins_17 : decode cX10_joins 17 = .ok (.iload_n 1, 1) := by decide +kernel
theorem dX10_joins_18 : decode cX10_joins 18 = .ok (.aload_n 0, 1) := by decide +kernel
theorem dX10_joins_19 : decode cX10_joins 19 = .ok (.getfield 50, 3) := by decide +kernel
theorem dX10_joins_22 : decode cX10_joins 22 = .ok (.invokevirtual 390, 3) := by decide +kernel
theorem dX10_joins_25 : decode cX10_joins 25 = .ok (.ifCond .ne 6, 3) := by decide +kernel
theorem dX10_joins_28 : decode cX10_joins 28 = .ok (.bipush (-2), 2) := by decide +kernel
theorem dX10_joins_30 : decode cX10_joins 30 = .ok (.ireturn, 1) := by decide +kernel
theorem dX10_joins_31 : decode cX10_joins 31 = .ok (.aload_n 0, 1) := by decide +kernel
theorem dX10_joins_32 : decode cX10_joins 32 = .ok (.getfield 66, 3) := by decide +kernel
theorem dX10_joins_35 : decode cX10_joins 35 = .ok (.aload_n 0, 1) := by decide +kernel
theorem dX10_joins_36 : decode cX10_joins 36 = .ok (.getfield 46, 3) := by decide +kernel
theorem dX10_joins_39 : decode cX10_joins 39 = .ok (.getfield 167, 3) := by decide +kernel
theorem dX10_joins_42 : decode cX10_joins 42 = .ok (.invokevirtual 268, 3) := by decide +kernel
theorem dX10_joins_45 : decode cX10_joins 45 = .ok (.aload_n 0, 1) := by decide +kernel
theorem dX10_joins_46 : decode cX10_joins 46 = .ok (.getfield 66, 3) := by decide +kernel
theorem dX10_joins_49 : decode cX10_joins 49 = .ok (.aload_n 0, 1) := by decide +kernel
theorem dX10_joins_50 : decode cX10_joins 50 = .ok (.getfield 50, 3) := by decide +kernel
theorem dX10_joins_53 : decode cX10_joins 53 = .ok (.getfield 167, 3) := by decide +kernel
theorem dX10_joins_56 : decode cX10_joins 56 = .ok (.invokevirtual 380, 3) := by decide +kernel
theorem dX10_joins_59 : decode cX10_joins 59 = .ok (.aload_n 0, 1) := by decide +kernel
theorem dX10_joins_60 : decode cX10_joins 60 = .ok (.getfield 66, 3) := by decide +kernel
theorem dX10_joins_63 : decode cX10_joins 63 = .ok (.aload_n 0, 1) := by decide +kernel
theorem dX10_joins_64 : decode cX10_joins 64 = .ok (.getfield 26, 3) := by decide +kernel
theorem dX10_joins_67 : decode cX10_joins 67 = .ok (.invokevirtual 271, 3) := by decide +kernel
theorem dX10_joins_70 : decode cX10_joins 70 = .ok (.istore_n 2, 1) := by decide +kernel
theorem dX10_joins_71 : decode cX10_joins 71 = .ok (.iload_n 2, 1) := by decide +kernel
theorem dX10_joins_72 : decode cX10_joins 72 = .ok (.ifCond .lt 24, 3) := by decide +kernel
theorem dX10_joins_75 : decode cX10_joins 75 = .ok (.aload_n 0, 1) := by decide +kernel
theorem dX10_joins_76 : decode cX10_joins 76 = .ok (.getfield 19, 3) := by decide +kernel
theorem dX10_joins_79 : decode cX10_joins 79 = .ok (.aload_n 0, 1) := by decide +kernel
theorem dX10_joins_80 : decode cX10_joins 80 = .ok (.getfield 66, 3) := by decide +kernel
theorem dX10_joins_83 : decode cX10_joins 83 = .ok (.getfield 278, 3) := by decide +kernel
theorem dX10_joins_86 : decode cX10_joins 86 = .ok (.aload_n 0, 1) := by decide +kernel
theorem dX10_joins_87 : decode cX10_joins 87 = .ok (.getfield 26, 3) := by decide +kernel
theorem dX10_joins_90 : decode cX10_joins 90 = .ok (.invokevirtual 275, 3) := by decide +kernel
theorem dX10_joins_93 : decode cX10_joins 93 = .ok (.invokevirtual 290, 3) := by decide +kernel
theorem dX10_joins_96 : decode cX10_joins 96 = .ok (.iload_n 2, 1) := by decide +kernel
theorem dX10_joins_97 : decode cX10_joins 97 = .ok (.ireturn, 1) := by decide +kernel
theorem dX10_recurs_0 : decode cX10_recurs 0 = .ok (.aload_n 0, 1) := by decide +kernel
theorem dX10_recurs_1 : decode cX10_recurs 1 = .ok (.getfield 26, 3) := by decide +kernel
theorem dX10_recurs_4 : decode cX10_recurs 4 = .ok (.iload_n 1, 1) := by decide +kernel
theorem dX10_recurs_5 : decode cX10_recurs 5 = .ok (.invokevirtual 176, 3) := by decide +kernel
theorem dX10_recurs_8 : decode cX10_recurs 8 = .ok (.ifCond .ne 5, 3) := by decide +kernel
theorem dX10_recurs_11 : decode cX10_recurs 11 = .ok (.iconst (-1), 1) := by decide +kernel
theorem dX10_recurs_12 : decode cX10_recurs 12 = .ok (.ireturn, 1) := by decide +kernel
theorem dX10_recurs_13 : decode cX10_recurs 13 = .ok (.aload_n 0, 1) := by decide +kernel
theorem dX10_recurs_14 : decode cX10_recurs 14 = .ok (.invokevirtual 376, 3) := by decide +kernel
theorem dX10_recurs_17 : decode cX10_recurs 17 = .ok (.ifCond .eq 6, 3) := by decide +kernel
theorem dX10_recurs_20 : decode cX10_recurs 20 = .ok (.bipush (-2), 2) := by decide +kernel
theorem dX10_recurs_22 : decode cX10_recurs 22 = .ok (.ireturn, 1) := by decide +kernel
theorem dX10_recurs_23 : decode cX10_recurs 23 = .ok (.aload_n 0, 1) := by decide +kernel
theorem dX10_recurs_24 : decode cX10_recurs 24 = .ok (.getfield 66, 3) := by decide +kernel
theorem dX10_recurs_27 : decode cX10_recurs 27 = .ok (.aload_n 0, 1) := by decide +kernel
theorem dX10_recurs_28 : decode cX10_recurs 28 = .ok (.getfield 46, 3) := by decide +kernel
theorem dX10_recurs_31 : decode cX10_recurs 31 = .ok (.getfield 167, 3) := by decide +kernel
theorem dX10_recurs_34 : decode cX10_recurs 34 = .ok (.invokevirtual 268, 3) := by decide +kernel
theorem dX10_recurs_37 : decode cX10_recurs 37 = .ok (.iconst 0, 1) := by decide +kernel
theorem dX10_recurs_38 : decode cX10_recurs 38 = .ok (.istore_n 2, 1) := by decide +kernel
theorem dX10_recurs_39 : decode cX10_recurs 39 = .ok (.iconst 1, 1) := by decide +kernel
theorem dX10_recurs_40 : decode cX10_recurs 40 = .ok (.istore_n 3, 1) := by decide +kernel
theorem dX10_recurs_41 : decode cX10_recurs 41 = .ok (.iload_n 3, 1) := by decide +kernel
theorem dX10_recurs_42 : decode cX10_recurs 42 = .ok (.sipush 500, 3) := by decide +kernel
theorem dX10_recurs_45 : decode cX10_recurs 45 = .ok (.if_icmp .gt 76, 3) := by decide +kernel
theorem dX10_recurs_48 : decode cX10_recurs 48 = .ok (.aload_n 0, 1) := by decide +kernel
theorem dX10_recurs_49 : decode cX10_recurs 49 = .ok (.getfield 66, 3) := by decide +kernel
theorem dX10_recurs_52 : decode cX10_recurs 52 = .ok (.getfield 278, 3) := by decide +kernel
theorem dX10_recurs_55 : decode cX10_recurs 55 = .ok (.iload_n 1, 1) := by decide +kernel
theorem dX10_recurs_56 : decode cX10_recurs 56 = .ok (.dup2, 1) := by decide +kernel
theorem dX10_recurs_57 : decode cX10_recurs 57 = .ok (.iaload, 1) := by decide +kernel
theorem dX10_recurs_58 : decode cX10_recurs 58 = .ok (.iconst 1, 1) := by decide +kernel
theorem dX10_recurs_59 : decode cX10_recurs 59 = .ok (.iadd, 1) := by decide +kernel
theorem dX10_recurs_60 : decode cX10_recurs 60 = .ok (.iastore, 1) := by decide +kernel
theorem dX10_recurs_61 : decode cX10_recurs 61 = .ok (.aload_n 0, 1) := by decide +kernel
theorem dX10_recurs_62 : decode cX10_recurs 62 = .ok (.getfield 66, 3) := by decide +kernel
theorem dX10_recurs_65 : decode cX10_recurs 65 = .ok (.aload_n 0, 1) := by decide +kernel
theorem dX10_recurs_66 : decode cX10_recurs 66 = .ok (.getfield 26, 3) := by decide +kernel
theorem dX10_recurs_69 : decode cX10_recurs 69 = .ok (.invokevirtual 271, 3) := by decide +kernel
theorem dX10_recurs_72 : decode cX10_recurs 72 = .ok (.istore 4, 2) := by decide +kernel
theorem dX10_recurs_74 : decode cX10_recurs 74 = .ok (.iload 4, 2) := by decide +kernel
theorem dX10_recurs_76 : decode cX10_recurs 76 = .ok (.ifCond .ge 6, 3) := by decide +kernel
theorem dX10_recurs_79 : decode cX10_recurs 79 = .ok (.iload 4, 2) := by decide +kernel
theorem dX10_recurs_81 : decode cX10_recurs 81 = .ok (.ireturn, 1) := by decide +kernel
theorem dX10_recurs_82 : decode cX10_recurs 82 = .ok (.iload_n 2, 1) := by decide +kernel
theorem dX10_recurs_83 : decode cX10_recurs 83 = .ok (.iload 4, 2) := by decide +kernel
theorem dX10_recurs_85 : decode cX10_recurs 85 = .ok (.iadd, 1) := by decide +kernel
theorem dX10_recurs_86 : decode cX10_recurs 86 = .ok (.istore_n 2, 1) := by decide +kernel
theorem dX10_recurs_87 : decode cX10_recurs 87 = .ok (.aload_n 0, 1) := by decide +kernel
theorem dX10_recurs_88 : decode cX10_recurs 88 = .ok (.getfield 66, 3) := by decide +kernel
theorem dX10_recurs_91 : decode cX10_recurs 91 = .ok (.aload_n 0, 1) := by decide +kernel
theorem dX10_recurs_92 : decode cX10_recurs 92 = .ok (.getfield 46, 3) := by decide +kernel
theorem dX10_recurs_95 : decode cX10_recurs 95 = .ok (.getfield 167, 3) := by decide +kernel
theorem dX10_recurs_98 : decode cX10_recurs 98 = .ok (.invokevirtual 383, 3) := by decide +kernel
theorem dX10_recurs_101 : decode cX10_recurs 101 = .ok (.ifCond .eq 14, 3) := by decide +kernel
theorem dX10_recurs_104 : decode cX10_recurs 104 = .ok (.aload_n 0, 1) := by decide +kernel
theorem dX10_recurs_105 : decode cX10_recurs 105 = .ok (.getfield 19, 3) := by decide +kernel
theorem dX10_recurs_108 : decode cX10_recurs 108 = .ok (.iload_n 2, 1) := by decide +kernel
theorem dX10_recurs_109 : decode cX10_recurs 109 = .ok (.i2l, 1) := by decide +kernel
theorem dX10_recurs_110 : decode cX10_recurs 110 = .ok (.invokevirtual 258, 3) := by decide +kernel
theorem dX10_recurs_113 : decode cX10_recurs 113 = .ok (.iload_n 3, 1) := by decide +kernel
theorem dX10_recurs_114 : decode cX10_recurs 114 = .ok (.ireturn, 1) := by decide +kernel
theorem dX10_recurs_115 : decode cX10_recurs 115 = .ok (.iinc 3 1, 3) := by decide +kernel
theorem dX10_recurs_118 : decode cX10_recurs 118 = .ok (.goto (-77), 3) := by decide +kernel
theorem dX10_recurs_121 : decode cX10_recurs 121 = .ok (.bipush (-2), 2) := by decide +kernel
theorem dX10_recurs_123 : decode cX10_recurs 123 = .ok (.ireturn, 1) := by decide +kernel
theorem dX10_trigger_0 : decode cX10_trigger 0 = .ok (.aload_n 0, 1) := by decide +kernel
theorem dX10_trigger_1 : decode cX10_trigger 1 = .ok (.invokevirtual 376, 3) := by decide +kernel
theorem dX10_trigger_4 : decode cX10_trigger 4 = .ok (.ifCond .eq 6, 3) := by decide +kernel
theorem dX10_trigger_7 : decode cX10_trigger 7 = .ok (.bipush (-2), 2) := by decide +kernel
theorem dX10_trigger_9 : decode cX10_trigger 9 = .ok (.ireturn, 1) := by decide +kernel
theorem dX10_trigger_10 : decode cX10_trigger 10 = .ok (.iconst 0, 1) := by decide +kernel
theorem dX10_trigger_11 : decode cX10_trigger 11 = .ok (.istore_n 1, 1) := by decide +kernel
theorem dX10_trigger_12 : decode cX10_trigger 12 = .ok (.iconst (-1), 1) := by decide +kernel
theorem dX10_trigger_13 : decode cX10_trigger 13 = .ok (.istore_n 2, 1) := by decide +kernel
theorem dX10_trigger_14 : decode cX10_trigger 14 = .ok (.iconst 1, 1) := by decide +kernel
theorem dX10_trigger_15 : decode cX10_trigger 15 = .ok (.istore_n 3, 1) := by decide +kernel
theorem dX10_trigger_16 : decode cX10_trigger 16 = .ok (.iload_n 3, 1) := by decide +kernel
theorem dX10_trigger_17 : decode cX10_trigger 17 = .ok (.aload_n 0, 1) := by decide +kernel
theorem dX10_trigger_18 : decode cX10_trigger 18 = .ok (.getfield 26, 3) := by decide +kernel
theorem dX10_trigger_21 : decode cX10_trigger 21 = .ok (.invokevirtual 275, 3) := by decide +kernel
theorem dX10_trigger_24 : decode cX10_trigger 24 = .ok (.if_icmp .ge 68, 3) := by decide +kernel
theorem dX10_trigger_27 : decode cX10_trigger 27 = .ok (.aload_n 0, 1) := by decide +kernel
theorem dX10_trigger_28 : decode cX10_trigger 28 = .ok (.getfield 66, 3) := by decide +kernel
theorem dX10_trigger_31 : decode cX10_trigger 31 = .ok (.aload_n 0, 1) := by decide +kernel
theorem dX10_trigger_32 : decode cX10_trigger 32 = .ok (.getfield 46, 3) := by decide +kernel
theorem dX10_trigger_35 : decode cX10_trigger 35 = .ok (.getfield 167, 3) := by decide +kernel
theorem dX10_trigger_38 : decode cX10_trigger 38 = .ok (.invokevirtual 268, 3) := by decide +kernel
theorem dX10_trigger_41 : decode cX10_trigger 41 = .ok (.aload_n 0, 1) := by decide +kernel
theorem dX10_trigger_42 : decode cX10_trigger 42 = .ok (.getfield 66, 3) := by decide +kernel
theorem dX10_trigger_45 : decode cX10_trigger 45 = .ok (.getfield 278, 3) := by decide +kernel
theorem dX10_trigger_48 : decode cX10_trigger 48 = .ok (.iload_n 3, 1) := by decide +kernel
theorem dX10_trigger_49 : decode cX10_trigger 49 = .ok (.dup2, 1) := by decide +kernel
theorem dX10_trigger_50 : decode cX10_trigger 50 = .ok (.iaload, 1) := by decide +kernel
theorem dX10_trigger_51 : decode cX10_trigger 51 = .ok (.iconst 1, 1) := by decide +kernel
theorem dX10_trigger_52 : decode cX10_trigger 52 = .ok (.iadd, 1) := by decide +kernel
theorem dX10_trigger_53 : decode cX10_trigger 53 = .ok (.iastore, 1) := by decide +kernel
theorem dX10_trigger_54 : decode cX10_trigger 54 = .ok (.aload_n 0, 1) := by decide +kernel
theorem dX10_trigger_55 : decode cX10_trigger 55 = .ok (.getfield 66, 3) := by decide +kernel
theorem dX10_trigger_58 : decode cX10_trigger 58 = .ok (.aload_n 0, 1) := by decide +kernel
theorem dX10_trigger_59 : decode cX10_trigger 59 = .ok (.getfield 26, 3) := by decide +kernel
theorem dX10_trigger_62 : decode cX10_trigger 62 = .ok (.invokevirtual 271, 3) := by decide +kernel
theorem dX10_trigger_65 : decode cX10_trigger 65 = .ok (.istore 4, 2) := by decide +kernel
theorem dX10_trigger_67 : decode cX10_trigger 67 = .ok (.iload 4, 2) := by decide +kernel
theorem dX10_trigger_69 : decode cX10_trigger 69 = .ok (.ifCond .ge 6, 3) := by decide +kernel
theorem dX10_trigger_72 : decode cX10_trigger 72 = .ok (.iload 4, 2) := by decide +kernel
theorem dX10_trigger_74 : decode cX10_trigger 74 = .ok (.ireturn, 1) := by decide +kernel
theorem dX10_trigger_75 : decode cX10_trigger 75 = .ok (.iload 4, 2) := by decide +kernel
theorem dX10_trigger_77 : decode cX10_trigger 77 = .ok (.iload_n 2, 1) := by decide +kernel
theorem dX10_trigger_78 : decode cX10_trigger 78 = .ok (.if_icmp .le 8, 3) := by decide +kernel
theorem dX10_trigger_81 : decode cX10_trigger 81 = .ok (.iload 4, 2) := by decide +kernel
theorem dX10_trigger_83 : decode cX10_trigger 83 = .ok (.istore_n 2, 1) := by decide +kernel
theorem dX10_trigger_84 : decode cX10_trigger 84 = .ok (.iload_n 3, 1) := by decide +kernel
theorem dX10_trigger_85 : decode cX10_trigger 85 = .ok (.istore_n 1, 1) := by decide +kernel
theorem dX10_trigger_86 : decode cX10_trigger 86 = .ok (.iinc 3 1, 3) := by decide +kernel
theorem dX10_trigger_89 : decode cX10_trigger 89 = .ok (.goto (-73), 3) := by decide +kernel
theorem dX10_trigger_92 : decode cX10_trigger 92 = .ok (.aload_n 0, 1) := by decide +kernel
theorem dX10_trigger_93 : decode cX10_trigger 93 = .ok (.getfield 19, 3) := by decide +kernel
theorem dX10_trigger_96 : decode cX10_trigger 96 = .ok (.iload_n 2, 1) := by decide +kernel
theorem dX10_trigger_97 : decode cX10_trigger 97 = .ok (.i2l, 1) := by decide +kernel
theorem dX10_trigger_98 : decode cX10_trigger 98 = .ok (.invokevirtual 258, 3) := by decide +kernel
theorem dX10_trigger_101 : decode cX10_trigger 101 = .ok (.iload_n 1, 1) := by decide +kernel
theorem dX10_trigger_102 : decode cX10_trigger 102 = .ok (.ireturn, 1) := by decide +kernel
theorem dX10_someCanBurst_0 : decode cX10_someCanBurst 0 = .ok (.iconst 1, 1) := by decide +kernel
theorem dX10_someCanBurst_1 : decode cX10_someCanBurst 1 = .ok (.istore_n 1, 1) := by decide +kernel
theorem dX10_someCanBurst_2 : decode cX10_someCanBurst 2 = .ok (.iload_n 1, 1) := by decide +kernel
theorem dX10_someCanBurst_3 : decode cX10_someCanBurst 3 = .ok (.aload_n 0, 1) := by decide +kernel
theorem dX10_someCanBurst_4 : decode cX10_someCanBurst 4 = .ok (.getfield 26, 3) := by decide +kernel
theorem dX10_someCanBurst_7 : decode cX10_someCanBurst 7 = .ok (.invokevirtual 275, 3) := by decide +kernel
theorem dX10_someCanBurst_10 : decode cX10_someCanBurst 10 = .ok (.if_icmp .ge 23, 3) := by decide +kernel
theorem dX10_someCanBurst_13 : decode cX10_someCanBurst 13 = .ok (.aload_n 0, 1) := by decide +kernel
theorem dX10_someCanBurst_14 : decode cX10_someCanBurst 14 = .ok (.aload_n 0, 1) := by decide +kernel
theorem dX10_someCanBurst_15 : decode cX10_someCanBurst 15 = .ok (.getfield 46, 3) := by decide +kernel
theorem dX10_someCanBurst_18 : decode cX10_someCanBurst 18 = .ok (.iload_n 1, 1) := by decide +kernel
theorem dX10_someCanBurst_19 : decode cX10_someCanBurst 19 = .ok (.invokevirtual 261, 3) := by decide +kernel
theorem dX10_someCanBurst_22 : decode cX10_someCanBurst 22 = .ok (.ifCond .eq 5, 3) := by decide +kernel
theorem dX10_someCanBurst_25 : decode cX10_someCanBurst 25 = .ok (.iconst 1, 1) := by decide +kernel
theorem dX10_someCanBurst_26 : decode cX10_someCanBurst 26 = .ok (.ireturn, 1) := by decide +kernel
theorem dX10_someCanBurst_27 : decode cX10_someCanBurst 27 = .ok (.iinc 1 1, 3) := by decide +kernel
theorem dX10_someCanBurst_30 : decode cX10_someCanBurst 30 = .ok (.goto (-28), 3) := by decide +kernel
theorem dX10_someCanBurst_33 : decode cX10_someCanBurst 33 = .ok (.iconst 0, 1) := by decide +kernel
theorem dX10_someCanBurst_34 : decode cX10_someCanBurst 34 = .ok (.ireturn, 1) := by decide +kernel
theorem dX10_seen_0 : decode cX10_seen 0 = .ok (.aload_n 0, 1) := by decide +kernel
theorem dX10_seen_1 : decode cX10_seen 1 = .ok (.getfield 26, 3) := by decide +kernel
theorem dX10_seen_4 : decode cX10_seen 4 = .ok (.iload_n 1, 1) := by decide +kernel
theorem dX10_seen_5 : decode cX10_seen 5 = .ok (.invokevirtual 176, 3) := by decide +kernel
theorem dX10_seen_8 : decode cX10_seen 8 = .ok (.ifCond .eq 24, 3) := by decide +kernel
theorem dX10_seen_11 : decode cX10_seen 11 = .ok (.aload_n 0, 1) := by decide +kernel
theorem dX10_seen_12 : decode cX10_seen 12 = .ok (.getfield 26, 3) := by decide +kernel
theorem dX10_seen_15 : decode cX10_seen 15 = .ok (.iload_n 3, 1) := by decide +kernel
theorem dX10_seen_16 : decode cX10_seen 16 = .ok (.invokevirtual 145, 3) := by decide +kernel
theorem dX10_seen_19 : decode cX10_seen 19 = .ok (.ifCond .eq 13, 3) := by decide +kernel
theorem dX10_seen_22 : decode cX10_seen 22 = .ok (.iload_n 2, 1) := by decide +kernel
theorem dX10_seen_23 : decode cX10_seen 23 = .ok (.ifCond .lt 9, 3) := by decide +kernel
theorem dX10_seen_26 : decode cX10_seen 26 = .ok (.iload_n 2, 1) := by decide +kernel
theorem dX10_seen_27 : decode cX10_seen 27 = .ok (.bipush 20, 2) := by decide +kernel
theorem dX10_seen_29 : decode cX10_seen 29 = .ok (.if_icmp .le 5, 3) := by decide +kernel
theorem dX10_seen_32 : decode cX10_seen 32 = .ok (.iconst (-1), 1) := by decide +kernel
theorem dX10_seen_33 : decode cX10_seen 33 = .ok (.ireturn, 1) := by decide +kernel
theorem dX10_seen_34 : decode cX10_seen 34 = .ok (.aload_n 0, 1) := by decide +kernel
theorem dX10_seen_35 : decode cX10_seen 35 = .ok (.getfield 80, 3) := by decide +kernel
theorem dX10_seen_38 : decode cX10_seen 38 = .ok (.iload_n 1, 1) := by decide +kernel
theorem dX10_seen_39 : decode cX10_seen 39 = .ok (.iload_n 2, 1) := by decide +kernel
theorem dX10_seen_40 : decode cX10_seen 40 = .ok (.iload_n 3, 1) := by decide +kernel
theorem dX10_seen_41 : decode cX10_seen 41 = .ok (.invokevirtual 394, 3) := by decide +kernel
theorem dX10_seen_44 : decode cX10_seen 44 = .ok (.ifCond .eq 13, 3) := by decide +kernel
theorem dX10_seen_47 : decode cX10_seen 47 = .ok (.aload_n 0, 1) := by decide +kernel
theorem dX10_seen_48 : decode cX10_seen 48 = .ok (.getfield 80, 3) := by decide +kernel
theorem dX10_seen_51 : decode cX10_seen 51 = .ok (.invokevirtual 397, 3) := by decide +kernel
theorem dX10_seen_54 : decode cX10_seen 54 = .ok (.goto 4, 3) := by decide +kernel
theorem dX10_seen_57 : decode cX10_seen 57 = .ok (.iconst (-1), 1) := by decide +kernel
theorem dX10_seen_58 : decode cX10_seen 58 = .ok (.ireturn, 1) := by decide +kernel
theorem dX10_forget_0 : decode cX10_forget 0 = .ok (.aload_n 0, 1) := by decide +kernel
theorem dX10_forget_1 : decode cX10_forget 1 = .ok (.getfield 80, 3) := by decide +kernel
theorem dX10_forget_4 : decode cX10_forget 4 = .ok (.invokevirtual 397, 3) := by decide +kernel
theorem dX10_forget_7 : decode cX10_forget 7 = .ok (.istore_n 1, 1) := by decide +kernel
theorem dX10_forget_8 : decode cX10_forget 8 = .ok (.aload_n 0, 1) := by decide +kernel
theorem dX10_forget_9 : decode cX10_forget 9 = .ok (.getfield 80, 3) := by decide +kernel
theorem dX10_forget_12 : decode cX10_forget 12 = .ok (.invokevirtual 139, 3) := by decide +kernel
theorem dX10_forget_15 : decode cX10_forget 15 = .ok (.iload_n 1, 1) := by decide +kernel
theorem dX10_forget_16 : decode cX10_forget 16 = .ok (.ireturn, 1) := by decide +kernel
theorem dX10_guess_0 : decode cX10_guess 0 = .ok (.aload_n 0, 1) := by decide +kernel
theorem dX10_guess_1 : decode cX10_guess 1 = .ok (.getfield 26, 3) := by decide +kernel
theorem dX10_guess_4 : decode cX10_guess 4 = .ok (.iload_n 1, 1) := by decide +kernel
theorem dX10_guess_5 : decode cX10_guess 5 = .ok (.invokevirtual 176, 3) := by decide +kernel
theorem dX10_guess_8 : decode cX10_guess 8 = .ok (.ifCond .ne 5, 3) := by decide +kernel
theorem dX10_guess_11 : decode cX10_guess 11 = .ok (.iconst (-1), 1) := by decide +kernel
theorem dX10_guess_12 : decode cX10_guess 12 = .ok (.ireturn, 1) := by decide +kernel
theorem dX10_guess_13 : decode cX10_guess 13 = .ok (.aload_n 0, 1) := by decide +kernel
theorem dX10_guess_14 : decode cX10_guess 14 = .ok (.iload_n 1, 1) := by decide +kernel
theorem dX10_guess_15 : decode cX10_guess 15 = .ok (.invokevirtual 398, 3) := by decide +kernel
theorem dX10_guess_18 : decode cX10_guess 18 = .ok (.istore_n 2, 1) := by decide +kernel
theorem dX10_guess_19 : decode cX10_guess 19 = .ok (.aload_n 0, 1) := by decide +kernel
theorem dX10_guess_20 : decode cX10_guess 20 = .ok (.getfield 19, 3) := by decide +kernel
theorem dX10_guess_23 : decode cX10_guess 23 = .ok (.iload_n 2, 1) := by decide +kernel
theorem dX10_guess_24 : decode cX10_guess 24 = .ok (.invokestatic 316, 3) := by decide +kernel
theorem dX10_guess_27 : decode cX10_guess 27 = .ok (.i2l, 1) := by decide +kernel
theorem dX10_guess_28 : decode cX10_guess 28 = .ok (.iload_n 2, 1) := by decide +kernel
theorem dX10_guess_29 : decode cX10_guess 29 = .ok (.aload_n 0, 1) := by decide +kernel
theorem dX10_guess_30 : decode cX10_guess 30 = .ok (.getfield 46, 3) := by decide +kernel
theorem dX10_guess_33 : decode cX10_guess 33 = .ok (.getfield 160, 3) := by decide +kernel
theorem dX10_guess_36 : decode cX10_guess 36 = .ok (.iload_n 1, 1) := by decide +kernel
theorem dX10_guess_37 : decode cX10_guess 37 = .ok (.iaload, 1) := by decide +kernel
theorem dX10_guess_38 : decode cX10_guess 38 = .ok (.ishr, 1) := by decide +kernel
theorem dX10_guess_39 : decode cX10_guess 39 = .ok (.iconst 1, 1) := by decide +kernel
theorem dX10_guess_40 : decode cX10_guess 40 = .ok (.iand, 1) := by decide +kernel
theorem dX10_guess_41 : decode cX10_guess 41 = .ok (.i2l, 1) := by decide +kernel
theorem dX10_guess_42 : decode cX10_guess 42 = .ok (.invokevirtual 241, 3) := by decide +kernel
theorem dX10_guess_45 : decode cX10_guess 45 = .ok (.iload_n 2, 1) := by decide +kernel
theorem dX10_guess_46 : decode cX10_guess 46 = .ok (.ireturn, 1) := by decide +kernel
theorem dX10_looks_0 : decode cX10_looks 0 = .ok (.aload_n 0, 1) := by decide +kernel
theorem dX10_looks_1 : decode cX10_looks 1 = .ok (.getfield 26, 3) := by decide +kernel
theorem dX10_looks_4 : decode cX10_looks 4 = .ok (.iload_n 1, 1) := by decide +kernel
theorem dX10_looks_5 : decode cX10_looks 5 = .ok (.invokevirtual 176, 3) := by decide +kernel
theorem dX10_looks_8 : decode cX10_looks 8 = .ok (.ifCond .ne 5, 3) := by decide +kernel
theorem dX10_looks_11 : decode cX10_looks 11 = .ok (.iconst (-1), 1) := by decide +kernel
theorem dX10_looks_12 : decode cX10_looks 12 = .ok (.ireturn, 1) := by decide +kernel
theorem dX10_looks_13 : decode cX10_looks 13 = .ok (.aload_n 0, 1) := by decide +kernel
theorem dX10_looks_14 : decode cX10_looks 14 = .ok (.iload_n 1, 1) := by decide +kernel
theorem dX10_looks_15 : decode cX10_looks 15 = .ok (.invokevirtual 398, 3) := by decide +kernel
theorem dX10_looks_18 : decode cX10_looks 18 = .ok (.istore_n 2, 1) := by decide +kernel
theorem dX10_looks_19 : decode cX10_looks 19 = .ok (.iload_n 2, 1) := by decide +kernel
theorem dX10_looks_20 : decode cX10_looks 20 = .ok (.ifCond .ne 6, 3) := by decide +kernel
theorem dX10_looks_23 : decode cX10_looks 23 = .ok (.bipush (-2), 2) := by decide +kernel
theorem dX10_looks_25 : decode cX10_looks 25 = .ok (.ireturn, 1) := by decide +kernel
theorem dX10_looks_26 : decode cX10_looks 26 = .ok (.iconst 0, 1) := by decide +kernel
theorem dX10_looks_27 : decode cX10_looks 27 = .ok (.istore_n 3, 1) := by decide +kernel
theorem dX10_looks_28 : decode cX10_looks 28 = .ok (.iconst 5, 1) := by decide +kernel
theorem dX10_looks_29 : decode cX10_looks 29 = .ok (.istore 4, 2) := by decide +kernel
theorem dX10_looks_31 : decode cX10_looks 31 = .ok (.iconst 1, 1) := by decide +kernel
theorem dX10_looks_32 : decode cX10_looks 32 = .ok (.istore 5, 2) := by decide +kernel
theorem dX10_looks_34 : decode cX10_looks 34 = .ok (.iload 5, 2) := by decide +kernel
theorem dX10_looks_36 : decode cX10_looks 36 = .ok (.aload_n 0, 1) := by decide +kernel
theorem dX10_looks_37 : decode cX10_looks 37 = .ok (.getfield 26, 3) := by decide +kernel
theorem dX10_looks_40 : decode cX10_looks 40 = .ok (.invokevirtual 275, 3) := by decide +kernel
theorem dX10_looks_43 : decode cX10_looks 43 = .ok (.if_icmp .ge 62, 3) := by decide +kernel
theorem dX10_looks_46 : decode cX10_looks 46 = .ok (.aload_n 0, 1) := by decide +kernel
theorem dX10_looks_47 : decode cX10_looks 47 = .ok (.iload_n 1, 1) := by decide +kernel
theorem dX10_looks_48 : decode cX10_looks 48 = .ok (.iload_n 2, 1) := by decide +kernel
theorem dX10_looks_49 : decode cX10_looks 49 = .ok (.iload 5, 2) := by decide +kernel
theorem dX10_looks_51 : decode cX10_looks 51 = .ok (.invokevirtual 401, 3) := by decide +kernel
theorem dX10_looks_54 : decode cX10_looks 54 = .ok (.iconst 0, 1) := by decide +kernel
theorem dX10_looks_55 : decode cX10_looks 55 = .ok (.istore 6, 2) := by decide +kernel
theorem dX10_looks_57 : decode cX10_looks 57 = .ok (.iload 6, 2) := by decide +kernel
theorem dX10_looks_59 : decode cX10_looks 59 = .ok (.bipush 20, 2) := by decide +kernel
theorem dX10_looks_61 : decode cX10_looks 61 = .ok (.if_icmp .gt 38, 3) := by decide +kernel
theorem dX10_looks_64 : decode cX10_looks 64 = .ok (.aload_n 0, 1) := by decide +kernel
theorem dX10_looks_65 : decode cX10_looks 65 = .ok (.iload_n 2, 1) := by decide +kernel
theorem dX10_looks_66 : decode cX10_looks 66 = .ok (.iload 6, 2) := by decide +kernel
theorem dX10_looks_68 : decode cX10_looks 68 = .ok (.invokevirtual 405, 3) := by decide +kernel
theorem dX10_looks_71 : decode cX10_looks 71 = .ok (.istore 7, 2) := by decide +kernel
theorem dX10_looks_73 : decode cX10_looks 73 = .ok (.iload 7, 2) := by decide +kernel
theorem dX10_looks_75 : decode cX10_looks 75 = .ok (.iload 4, 2) := by decide +kernel
theorem dX10_looks_77 : decode cX10_looks 77 = .ok (.if_icmp .ge 16, 3) := by decide +kernel
theorem dX10_looks_80 : decode cX10_looks 80 = .ok (.iload 7, 2) := by decide +kernel
theorem dX10_looks_82 : decode cX10_looks 82 = .ok (.istore 4, 2) := by decide +kernel
theorem dX10_looks_84 : decode cX10_looks 84 = .ok (.bipush 100, 2) := by decide +kernel
theorem dX10_looks_86 : decode cX10_looks 86 = .ok (.iload 5, 2) := by decide +kernel
theorem dX10_looks_88 : decode cX10_looks 88 = .ok (.imul, 1) := by decide +kernel
theorem dX10_looks_89 : decode cX10_looks 89 = .ok (.iload 6, 2) := by decide +kernel
theorem dX10_looks_91 : decode cX10_looks 91 = .ok (.iadd, 1) := by decide +kernel
theorem dX10_looks_92 : decode cX10_looks 92 = .ok (.istore_n 3, 1) := by decide +kernel
theorem dX10_looks_93 : decode cX10_looks 93 = .ok (.iinc 6 1, 3) := by decide +kernel
theorem dX10_looks_96 : decode cX10_looks 96 = .ok (.goto (-39), 3) := by decide +kernel
theorem dX10_looks_99 : decode cX10_looks 99 = .ok (.iinc 5 1, 3) := by decide +kernel
theorem dX10_looks_102 : decode cX10_looks 102 = .ok (.goto (-68), 3) := by decide +kernel
theorem dX10_looks_105 : decode cX10_looks 105 = .ok (.aload_n 0, 1) := by decide +kernel
theorem dX10_looks_106 : decode cX10_looks 106 = .ok (.getfield 19, 3) := by decide +kernel
theorem dX10_looks_109 : decode cX10_looks 109 = .ok (.iload 4, 2) := by decide +kernel
theorem dX10_looks_111 : decode cX10_looks 111 = .ok (.i2l, 1) := by decide +kernel
theorem dX10_looks_112 : decode cX10_looks 112 = .ok (.invokevirtual 258, 3) := by decide +kernel
theorem dX10_looks_115 : decode cX10_looks 115 = .ok (.iload_n 3, 1) := by decide +kernel
theorem dX10_looks_116 : decode cX10_looks 116 = .ok (.ireturn, 1) := by decide +kernel
theorem dX10_possibleNumbers_0 : decode cX10_possibleNumbers 0 = .ok (.iconst 0, 1) := by decide +kernel
theorem dX10_possibleNumbers_1 : decode cX10_possibleNumbers 1 = .ok (.istore_n 2, 1) := by decide +kernel
theorem dX10_possibleNumbers_2 : decode cX10_possibleNumbers 2 = .ok (.iconst 0, 1) := by decide +kernel
theorem dX10_possibleNumbers_3 : decode cX10_possibleNumbers 3 = .ok (.istore_n 3, 1) := by decide +kernel
theorem dX10_possibleNumbers_4 : decode cX10_possibleNumbers 4 = .ok (.iload_n 3, 1) := by decide +kernel
theorem dX10_possibleNumbers_5 : decode cX10_possibleNumbers 5 = .ok (.aload_n 0, 1) := by decide +kernel
theorem dX10_possibleNumbers_6 : decode cX10_possibleNumbers 6 = .ok (.getfield 26, 3) := by decide +kernel
theorem dX10_possibleNumbers_9 : decode cX10_possibleNumbers 9 = .ok (.iload_n 1, 1) := by decide +kernel
theorem dX10_possibleNumbers_10 : decode cX10_possibleNumbers 10 = .ok (.invokevirtual 156, 3) := by decide +kernel
theorem dX10_possibleNumbers_13 : decode cX10_possibleNumbers 13 = .ok (.if_icmp .ge 24, 3) := by decide +kernel
theorem dX10_possibleNumbers_16 : decode cX10_possibleNumbers 16 = .ok (.aload_n 0, 1) := by decide +kernel
theorem dX10_possibleNumbers_17 : decode cX10_possibleNumbers 17 = .ok (.iload_n 1, 1) := by decide +kernel
theorem dX10_possibleNumbers_18 : decode cX10_possibleNumbers 18 = .ok (.iload_n 3, 1) := by decide +kernel
theorem dX10_possibleNumbers_19 : decode cX10_possibleNumbers 19 = .ok (.invokevirtual 408, 3) := by decide +kernel
theorem dX10_possibleNumbers_22 : decode cX10_possibleNumbers 22 = .ok (.ifCond .eq 9, 3) := by decide +kernel
theorem dX10_possibleNumbers_25 : decode cX10_possibleNumbers 25 = .ok (.iload_n 2, 1) := by decide +kernel
theorem dX10_possibleNumbers_26 : decode cX10_possibleNumbers 26 = .ok (.iconst 1, 1) := by decide +kernel
theorem dX10_possibleNumbers_27 : decode cX10_possibleNumbers 27 = .ok (.iload_n 3, 1) := by decide +kernel
theorem dX10_possibleNumbers_28 : decode cX10_possibleNumbers 28 = .ok (.ishl, 1) := by decide +kernel
theorem dX10_possibleNumbers_29 : decode cX10_possibleNumbers 29 = .ok (.ior, 1) := by decide +kernel
theorem dX10_possibleNumbers_30 : decode cX10_possibleNumbers 30 = .ok (.istore_n 2, 1) := by decide +kernel
theorem dX10_possibleNumbers_31 : decode cX10_possibleNumbers 31 = .ok (.iinc 3 1, 3) := by decide +kernel
theorem dX10_possibleNumbers_34 : decode cX10_possibleNumbers 34 = .ok (.goto (-30), 3) := by decide +kernel
theorem dX10_possibleNumbers_37 : decode cX10_possibleNumbers 37 = .ok (.iload_n 2, 1) := by decide +kernel
theorem dX10_possibleNumbers_38 : decode cX10_possibleNumbers 38 = .ok (.ireturn, 1) := by decide +kernel
