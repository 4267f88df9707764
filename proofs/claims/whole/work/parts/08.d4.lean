theorem dX11_readsThing_0 : decode cX11_readsThing 0 = .ok (.aload_n 0, 1) := by decide +kernel
theorem dX11_readsThing_1 : decode cX11_readsThing 1 = .ok (.bipush 45, 2) := by decide +kernel
theorem dX11_readsThing_3 : decode cX11_readsThing 3 = .ok (.invokevirtual 193, 3) := by decide +kernel
theorem dX11_readsThing_6 : decode cX11_readsThing 6 = .ok (.ifCond .eq 17, 3) := by decide +kernel
theorem dX11_readsThing_9 : decode cX11_readsThing 9 = .ok (.aload_n 0, 1) := by decide +kernel
theorem dX11_readsThing_10 : decode cX11_readsThing 10 = .ok (.invokevirtual 212, 3) := by decide +kernel
theorem dX11_readsThing_13 : decode cX11_readsThing 13 = .ok (.istore_n 1, 1) := by decide +kernel
theorem dX11_readsThing_14 : decode cX11_readsThing 14 = .ok (.aload_n 0, 1) := by decide +kernel
theorem dX11_readsThing_15 : decode cX11_readsThing 15 = .ok (.sipush 3000, 3) := by decide +kernel
theorem dX11_readsThing_18 : decode cX11_readsThing 18 = .ok (.invokevirtual 215, 3) := by decide +kernel
theorem dX11_readsThing_21 : decode cX11_readsThing 21 = .ok (.iload_n 1, 1) := by decide +kernel
theorem dX11_readsThing_22 : decode cX11_readsThing 22 = .ok (.ireturn, 1) := by decide +kernel
theorem dX11_readsThing_23 : decode cX11_readsThing 23 = .ok (.aload_n 0, 1) := by decide +kernel
theorem dX11_readsThing_24 : decode cX11_readsThing 24 = .ok (.invokevirtual 169, 3) := by decide +kernel
theorem dX11_readsThing_27 : decode cX11_readsThing 27 = .ok (.ifCond .eq 14, 3) := by decide +kernel
theorem dX11_readsThing_30 : decode cX11_readsThing 30 = .ok (.aload_n 0, 1) := by decide +kernel
theorem dX11_readsThing_31 : decode cX11_readsThing 31 = .ok (.aload_n 0, 1) := by decide +kernel
theorem dX11_readsThing_32 : decode cX11_readsThing 32 = .ok (.iconst 3, 1) := by decide +kernel
theorem dX11_readsThing_33 : decode cX11_readsThing 33 = .ok (.invokevirtual 219, 3) := by decide +kernel
theorem dX11_readsThing_36 : decode cX11_readsThing 36 = .ok (.invokevirtual 215, 3) := by decide +kernel
theorem dX11_readsThing_39 : decode cX11_readsThing 39 = .ok (.iconst 1, 1) := by decide +kernel
theorem dX11_readsThing_40 : decode cX11_readsThing 40 = .ok (.ireturn, 1) := by decide +kernel
theorem dX11_readsThing_41 : decode cX11_readsThing 41 = .ok (.aload_n 0, 1) := by decide +kernel
theorem dX11_readsThing_42 : decode cX11_readsThing 42 = .ok (.ldc 222, 2) := by decide +kernel
theorem dX11_readsThing_44 : decode cX11_readsThing 44 = .ok (.invokevirtual 224, 3) := by decide +kernel
theorem dX11_readsThing_47 : decode cX11_readsThing 47 = .ok (.istore_n 1, 1) := by decide +kernel
theorem dX11_readsThing_48 : decode cX11_readsThing 48 = .ok (.iload_n 1, 1) := by decide +kernel
theorem dX11_readsThing_49 : decode cX11_readsThing 49 = .ok (.ifCond .lt 14, 3) := by decide +kernel
theorem dX11_readsThing_52 : decode cX11_readsThing 52 = .ok (.aload_n 0, 1) := by decide +kernel
theorem dX11_readsThing_53 : decode cX11_readsThing 53 = .ok (.sipush 1000, 3) := by decide +kernel
theorem dX11_readsThing_56 : decode cX11_readsThing 56 = .ok (.iload_n 1, 1) := by decide +kernel
theorem dX11_readsThing_57 : decode cX11_readsThing 57 = .ok (.iadd, 1) := by decide +kernel
theorem dX11_readsThing_58 : decode cX11_readsThing 58 = .ok (.invokevirtual 215, 3) := by decide +kernel
theorem dX11_readsThing_61 : decode cX11_readsThing 61 = .ok (.iconst 1, 1) := by decide +kernel
theorem dX11_readsThing_62 : decode cX11_readsThing 62 = .ok (.ireturn, 1) := by decide +kernel
theorem dX11_readsThing_63 : decode cX11_readsThing 63 = .ok (.aload_n 0, 1) := by decide +kernel
theorem dX11_readsThing_64 : decode cX11_readsThing 64 = .ok (.getfield 139, 3) := by decide +kernel
theorem dX11_readsThing_67 : decode cX11_readsThing 67 = .ok (.iconst 4, 1) := by decide +kernel
theorem dX11_readsThing_68 : decode cX11_readsThing 68 = .ok (.if_icmp .eq 12, 3) := by decide +kernel
theorem dX11_readsThing_71 : decode cX11_readsThing 71 = .ok (.aload_n 0, 1) := by decide +kernel
theorem dX11_readsThing_72 : decode cX11_readsThing 72 = .ok (.bipush 40, 2) := by decide +kernel
theorem dX11_readsThing_74 : decode cX11_readsThing 74 = .ok (.invokevirtual 193, 3) := by decide +kernel
theorem dX11_readsThing_77 : decode cX11_readsThing 77 = .ok (.ifCond .ne 5, 3) := by decide +kernel
theorem dX11_readsThing_80 : decode cX11_readsThing 80 = .ok (.iconst 0, 1) := by decide +kernel
theorem dX11_readsThing_81 : decode cX11_readsThing 81 = .ok (.ireturn, 1) := by decide +kernel
theorem dX11_readsThing_82 : decode cX11_readsThing 82 = .ok (.aload_n 0, 1) := by decide +kernel
theorem dX11_readsThing_83 : decode cX11_readsThing 83 = .ok (.dup, 1) := by decide +kernel
theorem dX11_readsThing_84 : decode cX11_readsThing 84 = .ok (.getfield 139, 3) := by decide +kernel
theorem dX11_readsThing_87 : decode cX11_readsThing 87 = .ok (.iconst 1, 1) := by decide +kernel
theorem dX11_readsThing_88 : decode cX11_readsThing 88 = .ok (.iadd, 1) := by decide +kernel
theorem dX11_readsThing_89 : decode cX11_readsThing 89 = .ok (.putfield 139, 3) := by decide +kernel
theorem dX11_readsThing_92 : decode cX11_readsThing 92 = .ok (.aload_n 0, 1) := by decide +kernel
theorem dX11_readsThing_93 : decode cX11_readsThing 93 = .ok (.iconst 0, 1) := by decide +kernel
theorem dX11_readsThing_94 : decode cX11_readsThing 94 = .ok (.invokevirtual 228, 3) := by decide +kernel
theorem dX11_readsThing_97 : decode cX11_readsThing 97 = .ok (.ifCond .eq 12, 3) := by decide +kernel
theorem dX11_readsThing_100 : decode cX11_readsThing 100 = .ok (.aload_n 0, 1) := by decide +kernel
theorem dX11_readsThing_101 : decode cX11_readsThing 101 = .ok (.bipush 41, 2) := by decide +kernel
theorem dX11_readsThing_103 : decode cX11_readsThing 103 = .ok (.invokevirtual 193, 3) := by decide +kernel
theorem dX11_readsThing_106 : decode cX11_readsThing 106 = .ok (.ifCond .ne 5, 3) := by decide +kernel
theorem dX11_readsThing_109 : decode cX11_readsThing 109 = .ok (.iconst 0, 1) := by decide +kernel
theorem dX11_readsThing_110 : decode cX11_readsThing 110 = .ok (.ireturn, 1) := by decide +kernel
theorem dX11_readsThing_111 : decode cX11_readsThing 111 = .ok (.aload_n 0, 1) := by decide +kernel
theorem dX11_readsThing_112 : decode cX11_readsThing 112 = .ok (.dup, 1) := by decide +kernel
theorem dX11_readsThing_113 : decode cX11_readsThing 113 = .ok (.getfield 139, 3) := by decide +kernel
theorem dX11_readsThing_116 : decode cX11_readsThing 116 = .ok (.iconst 1, 1) := by decide +kernel
theorem dX11_readsThing_117 : decode cX11_readsThing 117 = .ok (.isub, 1) := by decide +kernel
theorem dX11_readsThing_118 : decode cX11_readsThing 118 = .ok (.putfield 139, 3) := by decide +kernel
theorem dX11_readsThing_121 : decode cX11_readsThing 121 = .ok (.iconst 1, 1) := by decide +kernel
theorem dX11_readsThing_122 : decode cX11_readsThing 122 = .ok (.ireturn, 1) := by decide +kernel
theorem dX11_readsRank_0 : decode cX11_readsRank 0 = .ok (.iload_n 1, 1) := by decide +kernel
theorem dX11_readsRank_1 : decode cX11_readsRank 1 = .ok (.iconst 3, 1) := by decide +kernel
theorem dX11_readsRank_2 : decode cX11_readsRank 2 = .ok (.if_icmp .ne 8, 3) := by decide +kernel
theorem dX11_readsRank_5 : decode cX11_readsRank 5 = .ok (.aload_n 0, 1) := by decide +kernel
theorem dX11_readsRank_6 : decode cX11_readsRank 6 = .ok (.invokevirtual 212, 3) := by decide +kernel
theorem dX11_readsRank_9 : decode cX11_readsRank 9 = .ok (.ireturn, 1) := by decide +kernel
theorem dX11_readsRank_10 : decode cX11_readsRank 10 = .ok (.aload_n 0, 1) := by decide +kernel
theorem dX11_readsRank_11 : decode cX11_readsRank 11 = .ok (.iload_n 1, 1) := by decide +kernel
theorem dX11_readsRank_12 : decode cX11_readsRank 12 = .ok (.iconst 1, 1) := by decide +kernel
theorem dX11_readsRank_13 : decode cX11_readsRank 13 = .ok (.iadd, 1) := by decide +kernel
theorem dX11_readsRank_14 : decode cX11_readsRank 14 = .ok (.invokevirtual 228, 3) := by decide +kernel
theorem dX11_readsRank_17 : decode cX11_readsRank 17 = .ok (.ifCond .ne 5, 3) := by decide +kernel
theorem dX11_readsRank_20 : decode cX11_readsRank 20 = .ok (.iconst 0, 1) := by decide +kernel
theorem dX11_readsRank_21 : decode cX11_readsRank 21 = .ok (.ireturn, 1) := by decide +kernel
theorem dX11_readsRank_22 : decode cX11_readsRank 22 = .ok (.iconst 1, 1) := by decide +kernel
theorem dX11_readsRank_23 : decode cX11_readsRank 23 = .ok (.istore_n 2, 1) := by decide +kernel
theorem dX11_readsRank_24 : decode cX11_readsRank 24 = .ok (.iload_n 2, 1) := by decide +kernel
theorem dX11_readsRank_25 : decode cX11_readsRank 25 = .ok (.ifCond .eq 88, 3) := by decide +kernel
theorem dX11_readsRank_28 : decode cX11_readsRank 28 = .ok (.aload_n 0, 1) := by decide +kernel
theorem dX11_readsRank_29 : decode cX11_readsRank 29 = .ok (.iload_n 1, 1) := by decide +kernel
theorem dX11_readsRank_30 : decode cX11_readsRank 30 = .ok (.ifCond .ne 8, 3) := by decide +kernel
theorem dX11_readsRank_33 : decode cX11_readsRank 33 = .ok (.ldc 231, 2) := by decide +kernel
theorem dX11_readsRank_35 : decode cX11_readsRank 35 = .ok (.goto 15, 3) := by decide +kernel
theorem dX11_readsRank_38 : decode cX11_readsRank 38 = .ok (.iload_n 1, 1) := by decide +kernel
theorem dX11_readsRank_39 : decode cX11_readsRank 39 = .ok (.iconst 1, 1) := by decide +kernel
theorem dX11_readsRank_40 : decode cX11_readsRank 40 = .ok (.if_icmp .ne 8, 3) := by decide +kernel
theorem dX11_readsRank_43 : decode cX11_readsRank 43 = .ok (.ldc 233, 2) := by decide +kernel
theorem dX11_readsRank_45 : decode cX11_readsRank 45 = .ok (.goto 5, 3) := by decide +kernel
theorem dX11_readsRank_48 : decode cX11_readsRank 48 = .ok (.ldc 235, 2) := by decide +kernel
theorem dX11_readsRank_50 : decode cX11_readsRank 50 = .ok (.invokevirtual 224, 3) := by decide +kernel
theorem dX11_readsRank_53 : decode cX11_readsRank 53 = .ok (.istore_n 3, 1) := by decide +kernel
theorem dX11_readsRank_54 : decode cX11_readsRank 54 = .ok (.iload_n 3, 1) := by decide +kernel
theorem dX11_readsRank_55 : decode cX11_readsRank 55 = .ok (.ifCond .ge 5, 3) := by decide +kernel
theorem dX11_readsRank_58 : decode cX11_readsRank 58 = .ok (.iconst 1, 1) := by decide +kernel
theorem dX11_readsRank_59 : decode cX11_readsRank 59 = .ok (.ireturn, 1) := by decide +kernel
theorem dX11_readsRank_60 : decode cX11_readsRank 60 = .ok (.aload_n 0, 1) := by decide +kernel
theorem dX11_readsRank_61 : decode cX11_readsRank 61 = .ok (.iload_n 1, 1) := by decide +kernel
theorem dX11_readsRank_62 : decode cX11_readsRank 62 = .ok (.iconst 1, 1) := by decide +kernel
theorem dX11_readsRank_63 : decode cX11_readsRank 63 = .ok (.iadd, 1) := by decide +kernel
theorem dX11_readsRank_64 : decode cX11_readsRank 64 = .ok (.invokevirtual 228, 3) := by decide +kernel
theorem dX11_readsRank_67 : decode cX11_readsRank 67 = .ok (.ifCond .ne 5, 3) := by decide +kernel
theorem dX11_readsRank_70 : decode cX11_readsRank 70 = .ok (.iconst 0, 1) := by decide +kernel
theorem dX11_readsRank_71 : decode cX11_readsRank 71 = .ok (.ireturn, 1) := by decide +kernel
theorem dX11_readsRank_72 : decode cX11_readsRank 72 = .ok (.aload_n 0, 1) := by decide +kernel
theorem dX11_readsRank_73 : decode cX11_readsRank 73 = .ok (.sipush 2000, 3) := by decide +kernel
theorem dX11_readsRank_76 : decode cX11_readsRank 76 = .ok (.iload_n 3, 1) := by decide +kernel
theorem dX11_readsRank_77 : decode cX11_readsRank 77 = .ok (.iadd, 1) := by decide +kernel
theorem dX11_readsRank_78 : decode cX11_readsRank 78 = .ok (.iload_n 1, 1) := by decide +kernel
theorem dX11_readsRank_79 : decode cX11_readsRank 79 = .ok (.ifCond .ne 7, 3) := by decide +kernel
theorem dX11_readsRank_82 : decode cX11_readsRank 82 = .ok (.iconst 0, 1) := by decide +kernel
theorem dX11_readsRank_83 : decode cX11_readsRank 83 = .ok (.goto 13, 3) := by decide +kernel
theorem dX11_readsRank_86 : decode cX11_readsRank 86 = .ok (.iload_n 1, 1) := by decide +kernel
theorem dX11_readsRank_87 : decode cX11_readsRank 87 = .ok (.iconst 1, 1) := by decide +kernel
theorem dX11_readsRank_88 : decode cX11_readsRank 88 = .ok (.if_icmp .ne 7, 3) := by decide +kernel
theorem dX11_readsRank_91 : decode cX11_readsRank 91 = .ok (.iconst 3, 1) := by decide +kernel
theorem dX11_readsRank_92 : decode cX11_readsRank 92 = .ok (.goto 4, 3) := by decide +kernel
theorem dX11_readsRank_95 : decode cX11_readsRank 95 = .ok (.iconst 5, 1) := by decide +kernel
theorem dX11_readsRank_96 : decode cX11_readsRank 96 = .ok (.iadd, 1) := by decide +kernel
theorem dX11_readsRank_97 : decode cX11_readsRank 97 = .ok (.invokevirtual 215, 3) := by decide +kernel
theorem dX11_readsRank_100 : decode cX11_readsRank 100 = .ok (.iload_n 1, 1) := by decide +kernel
theorem dX11_readsRank_101 : decode cX11_readsRank 101 = .ok (.ifCond .le 7, 3) := by decide +kernel
theorem dX11_readsRank_104 : decode cX11_readsRank 104 = .ok (.iconst 1, 1) := by decide +kernel
theorem dX11_readsRank_105 : decode cX11_readsRank 105 = .ok (.goto 4, 3) := by decide +kernel
theorem dX11_readsRank_108 : decode cX11_readsRank 108 = .ok (.iconst 0, 1) := by decide +kernel
theorem dX11_readsRank_109 : decode cX11_readsRank 109 = .ok (.istore_n 2, 1) := by decide +kernel
theorem dX11_readsRank_110 : decode cX11_readsRank 110 = .ok (.goto (-86), 3) := by decide +kernel
theorem dX11_readsRank_113 : decode cX11_readsRank 113 = .ok (.iconst 1, 1) := by decide +kernel
theorem dX11_readsRank_114 : decode cX11_readsRank 114 = .ok (.ireturn, 1) := by decide +kernel
theorem dX11_readsRule_0 : decode cX11_readsRule 0 = .ok (.aload_n 0, 1) := by decide +kernel
theorem dX11_readsRule_1 : decode cX11_readsRule 1 = .ok (.bipush 40, 2) := by decide +kernel
theorem dX11_readsRule_3 : decode cX11_readsRule 3 = .ok (.invokevirtual 187, 3) := by decide +kernel
theorem dX11_readsRule_6 : decode cX11_readsRule 6 = .ok (.istore_n 1, 1) := by decide +kernel
theorem dX11_readsRule_7 : decode cX11_readsRule 7 = .ok (.aload_n 0, 1) := by decide +kernel
theorem dX11_readsRule_8 : decode cX11_readsRule 8 = .ok (.iconst 0, 1) := by decide +kernel
theorem dX11_readsRule_9 : decode cX11_readsRule 9 = .ok (.putfield 209, 3) := by decide +kernel
theorem dX11_readsRule_12 : decode cX11_readsRule 12 = .ok (.iload_n 1, 1) := by decide +kernel
theorem dX11_readsRule_13 : decode cX11_readsRule 13 = .ok (.ifCond .eq 11, 3) := by decide +kernel
theorem dX11_readsRule_16 : decode cX11_readsRule 16 = .ok (.aload_n 0, 1) := by decide +kernel
theorem dX11_readsRule_17 : decode cX11_readsRule 17 = .ok (.iconst 0, 1) := by decide +kernel
theorem dX11_readsRule_18 : decode cX11_readsRule 18 = .ok (.invokevirtual 228, 3) := by decide +kernel
theorem dX11_readsRule_21 : decode cX11_readsRule 21 = .ok (.ifCond .eq 7, 3) := by decide +kernel
theorem dX11_readsRule_24 : decode cX11_readsRule 24 = .ok (.iconst 1, 1) := by decide +kernel
theorem dX11_readsRule_25 : decode cX11_readsRule 25 = .ok (.goto 4, 3) := by decide +kernel
theorem dX11_readsRule_28 : decode cX11_readsRule 28 = .ok (.iconst 0, 1) := by decide +kernel
theorem dX11_readsRule_29 : decode cX11_readsRule 29 = .ok (.istore_n 2, 1) := by decide +kernel
theorem dX11_readsRule_30 : decode cX11_readsRule 30 = .ok (.aload_n 0, 1) := by decide +kernel
theorem dX11_readsRule_31 : decode cX11_readsRule 31 = .ok (.iload_n 1, 1) := by decide +kernel
theorem dX11_readsRule_32 : decode cX11_readsRule 32 = .ok (.bipush 40, 2) := by decide +kernel
theorem dX11_readsRule_34 : decode cX11_readsRule 34 = .ok (.iload_n 2, 1) := by decide +kernel
theorem dX11_readsRule_35 : decode cX11_readsRule 35 = .ok (.invokevirtual 237, 3) := by decide +kernel
theorem dX11_readsRule_38 : decode cX11_readsRule 38 = .ok (.ireturn, 1) := by decide +kernel
theorem dX11_laysCode_0 : decode cX11_laysCode 0 = .ok (.aload_n 0, 1) := by decide +kernel
theorem dX11_laysCode_1 : decode cX11_laysCode 1 = .ok (.iload_n 2, 1) := by decide +kernel
theorem dX11_laysCode_2 : decode cX11_laysCode 2 = .ok (.putfield 241, 3) := by decide +kernel
theorem dX11_laysCode_5 : decode cX11_laysCode 5 = .ok (.iconst 0, 1) := by decide +kernel
theorem dX11_laysCode_6 : decode cX11_laysCode 6 = .ok (.istore_n 3, 1) := by decide +kernel
theorem dX11_laysCode_7 : decode cX11_laysCode 7 = .ok (.iload_n 3, 1) := by decide +kernel
theorem dX11_laysCode_8 : decode cX11_laysCode 8 = .ok (.iload_n 2, 1) := by decide +kernel
theorem dX11_laysCode_9 : decode cX11_laysCode 9 = .ok (.if_icmp .ge 18, 3) := by decide +kernel
theorem dX11_laysCode_12 : decode cX11_laysCode 12 = .ok (.aload_n 0, 1) := by decide +kernel
theorem dX11_laysCode_13 : decode cX11_laysCode 13 = .ok (.getfield 53, 3) := by decide +kernel
theorem dX11_laysCode_16 : decode cX11_laysCode 16 = .ok (.iload_n 3, 1) := by decide +kernel
theorem dX11_laysCode_17 : decode cX11_laysCode 17 = .ok (.aload_n 1, 1) := by decide +kernel
theorem dX11_laysCode_18 : decode cX11_laysCode 18 = .ok (.iload_n 3, 1) := by decide +kernel
theorem dX11_laysCode_19 : decode cX11_laysCode 19 = .ok (.iaload, 1) := by decide +kernel
theorem dX11_laysCode_20 : decode cX11_laysCode 20 = .ok (.iastore, 1) := by decide +kernel
theorem dX11_laysCode_21 : decode cX11_laysCode 21 = .ok (.iinc 3 1, 3) := by decide +kernel
theorem dX11_laysCode_24 : decode cX11_laysCode 24 = .ok (.goto (-17), 3) := by decide +kernel
theorem dX11_laysCode_27 : decode cX11_laysCode 27 = .ok (.return_, 1) := by decide +kernel
theorem dX11_rule_0 : decode cX11_rule 0 = .ok (.aload_n 0, 1) := by decide +kernel
theorem dX11_rule_1 : decode cX11_rule 1 = .ok (.iconst 0, 1) := by decide +kernel
theorem dX11_rule_2 : decode cX11_rule 2 = .ok (.putfield 3, 3) := by decide +kernel
theorem dX11_rule_5 : decode cX11_rule 5 = .ok (.aload_n 0, 1) := by decide +kernel
theorem dX11_rule_6 : decode cX11_rule 6 = .ok (.invokevirtual 244, 3) := by decide +kernel
theorem dX11_rule_9 : decode cX11_rule 9 = .ok (.istore_n 1, 1) := by decide +kernel
theorem dX11_rule_10 : decode cX11_rule 10 = .ok (.iload_n 1, 1) := by decide +kernel
theorem dX11_rule_11 : decode cX11_rule 11 = .ok (.ifCond .ne 15, 3) := by decide +kernel
theorem dX11_rule_14 : decode cX11_rule 14 = .ok (.aload_n 0, 1) := by decide +kernel
theorem dX11_rule_15 : decode cX11_rule 15 = .ok (.aload_n 0, 1) := by decide +kernel
theorem dX11_rule_16 : decode cX11_rule 16 = .ok (.getfield 56, 3) := by decide +kernel
theorem dX11_rule_19 : decode cX11_rule 19 = .ok (.aload_n 0, 1) := by decide +kernel
theorem dX11_rule_20 : decode cX11_rule 20 = .ok (.getfield 209, 3) := by decide +kernel
theorem dX11_rule_23 : decode cX11_rule 23 = .ok (.invokevirtual 247, 3) := by decide +kernel
theorem dX11_rule_26 : decode cX11_rule 26 = .ok (.iload_n 1, 1) := by decide +kernel
theorem dX11_rule_27 : decode cX11_rule 27 = .ok (.ireturn, 1) := by decide +kernel
theorem dX11_worked_0 : decode cX11_worked 0 = .ok (.iload_n 0, 1) := by decide +kernel
theorem dX11_worked_1 : decode cX11_worked 1 = .ok (.tableswitch 93 0 5 #[39, 53, 67, 81, 85, 89], 39) := by decide +kernel
theorem dX11_worked_40 : decode cX11_worked 40 = .ok (.iload_n 1, 1) := by decide +kernel
theorem dX11_worked_41 : decode cX11_worked 41 = .ok (.iload_n 2, 1) := by decide +kernel
theorem dX11_worked_42 : decode cX11_worked 42 = .ok (.if_icmp .ge 7, 3) := by decide +kernel
theorem dX11_worked_45 : decode cX11_worked 45 = .ok (.iconst 1, 1) := by decide +kernel
theorem dX11_worked_46 : decode cX11_worked 46 = .ok (.goto 4, 3) := by decide +kernel
theorem dX11_worked_49 : decode cX11_worked 49 = .ok (.iconst 0, 1) := by decide +kernel
theorem dX11_worked_50 : decode cX11_worked 50 = .ok (.invokestatic 151, 3) := by decide +kernel
theorem dX11_worked_53 : decode cX11_worked 53 = .ok (.ireturn, 1) := by decide +kernel
theorem dX11_worked_54 : decode cX11_worked 54 = .ok (.iload_n 1, 1) := by decide +kernel
theorem dX11_worked_55 : decode cX11_worked 55 = .ok (.iload_n 2, 1) := by decide +kernel
theorem dX11_worked_56 : decode cX11_worked 56 = .ok (.if_icmp .le 7, 3) := by decide +kernel
theorem dX11_worked_59 : decode cX11_worked 59 = .ok (.iconst 1, 1) := by decide +kernel
theorem dX11_worked_60 : decode cX11_worked 60 = .ok (.goto 4, 3) := by decide +kernel
theorem dX11_worked_63 : decode cX11_worked 63 = .ok (.iconst 0, 1) := by decide +kernel
theorem dX11_worked_64 : decode cX11_worked 64 = .ok (.invokestatic 151, 3) := by decide +kernel
theorem dX11_worked_67 : decode cX11_worked 67 = .ok (.ireturn, 1) := by decide +kernel
theorem dX11_worked_68 : decode cX11_worked 68 = .ok (.iload_n 1, 1) := by decide +kernel
theorem dX11_worked_69 : decode cX11_worked 69 = .ok (.iload_n 2, 1) := by decide +kernel
theorem dX11_worked_70 : decode cX11_worked 70 = .ok (.if_icmp .ne 7, 3) := by decide +kernel
theorem dX11_worked_73 : decode cX11_worked 73 = .ok (.iconst 1, 1) := by decide +kernel
theorem dX11_worked_74 : decode cX11_worked 74 = .ok (.goto 4, 3) := by decide +kernel
theorem dX11_worked_77 : decode cX11_worked 77 = .ok (.iconst 0, 1) := by decide +kernel
theorem dX11_worked_78 : decode cX11_worked 78 = .ok (.invokestatic 151, 3) := by decide +kernel
theorem dX11_worked_81 : decode cX11_worked 81 = .ok (.ireturn, 1) := by decide +kernel
theorem dX11_worked_82 : decode cX11_worked 82 = .ok (.iload_n 1, 1) := by decide +kernel
theorem dX11_worked_83 : decode cX11_worked 83 = .ok (.iload_n 2, 1) := by decide +kernel
theorem dX11_worked_84 : decode cX11_worked 84 = .ok (.iadd, 1) := by decide +kernel
theorem dX11_worked_85 : decode cX11_worked 85 = .ok (.ireturn, 1) := by decide +kernel
theorem dX11_worked_86 : decode cX11_worked 86 = .ok (.iload_n 1, 1) := by decide +kernel
theorem dX11_worked_87 : decode cX11_worked 87 = .ok (.iload_n 2, 1) := by decide +kernel
theorem dX11_worked_88 : decode cX11_worked 88 = .ok (.isub, 1) := by decide +kernel
theorem dX11_worked_89 : decode cX11_worked 89 = .ok (.ireturn, 1) := by decide +kernel
theorem dX11_worked_90 : decode cX11_worked 90 = .ok (.iload_n 1, 1) := by decide +kernel
theorem dX11_worked_91 : decode cX11_worked 91 = .ok (.iload_n 2, 1) := by decide +kernel
theorem dX11_worked_92 : decode cX11_worked 92 = .ok (.imul, 1) := by decide +kernel
theorem dX11_worked_93 : decode cX11_worked 93 = .ok (.ireturn, 1) := by decide +kernel
theorem dX11_worked_94 : decode cX11_worked 94 = .ok (.iload_n 2, 1) := by decide +kernel
theorem dX11_worked_95 : decode cX11_worked 95 = .ok (.ifCond .ne 7, 3) := by decide +kernel
theorem dX11_worked_98 : decode cX11_worked 98 = .ok (.iconst 0, 1) := by decide +kernel
theorem dX11_worked_99 : decode cX11_worked 99 = .ok (.goto 6, 3) := by decide +kernel
theorem dX11_worked_102 : decode cX11_worked 102 = .ok (.iload_n 1, 1) := by decide +kernel
theorem dX11_worked_103 : decode cX11_worked 103 = .ok (.iload_n 2, 1) := by decide +kernel
theorem dX11_worked_104 : decode cX11_worked 104 = .ok (.idiv, 1) := by decide +kernel
theorem dX11_worked_105 : decode cX11_worked 105 = .ok (.ireturn, 1) := by decide +kernel
theorem dX11_ruled_0 : decode cX11_ruled 0 = .ok (.iconst 0, 1) := by decide +kernel
theorem dX11_ruled_1 : decode cX11_ruled 1 = .ok (.istore_n 1, 1) := by decide +kernel
theorem dX11_ruled_2 : decode cX11_ruled 2 = .ok (.iconst 0, 1) := by decide +kernel
theorem dX11_ruled_3 : decode cX11_ruled 3 = .ok (.istore_n 2, 1) := by decide +kernel
theorem dX11_ruled_4 : decode cX11_ruled 4 = .ok (.iload_n 2, 1) := by decide +kernel
theorem dX11_ruled_5 : decode cX11_ruled 5 = .ok (.aload_n 0, 1) := by decide +kernel
theorem dX11_ruled_6 : decode cX11_ruled 6 = .ok (.getfield 241, 3) := by decide +kernel
theorem dX11_ruled_9 : decode cX11_ruled 9 = .ok (.if_icmp .ge 116, 3) := by decide +kernel
theorem dX11_ruled_12 : decode cX11_ruled 12 = .ok (.aload_n 0, 1) := by decide +kernel
theorem dX11_ruled_13 : decode cX11_ruled 13 = .ok (.getfield 53, 3) := by decide +kernel
theorem dX11_ruled_16 : decode cX11_ruled 16 = .ok (.iload_n 2, 1) := by decide +kernel
theorem dX11_ruled_17 : decode cX11_ruled 17 = .ok (.iaload, 1) := by decide +kernel
theorem dX11_ruled_18 : decode cX11_ruled 18 = .ok (.istore_n 3, 1) := by decide +kernel
theorem dX11_ruled_19 : decode cX11_ruled 19 = .ok (.iload_n 3, 1) := by decide +kernel
theorem dX11_ruled_20 : decode cX11_ruled 20 = .ok (.sipush 3000, 3) := by decide +kernel
theorem dX11_ruled_23 : decode cX11_ruled 23 = .ok (.if_icmp .ne 23, 3) := by decide +kernel
theorem dX11_ruled_26 : decode cX11_ruled 26 = .ok (.aload_n 0, 1) := by decide +kernel
theorem dX11_ruled_27 : decode cX11_ruled 27 = .ok (.getfield 59, 3) := by decide +kernel
theorem dX11_ruled_30 : decode cX11_ruled 30 = .ok (.iload_n 1, 1) := by decide +kernel
theorem dX11_ruled_31 : decode cX11_ruled 31 = .ok (.iconst 1, 1) := by decide +kernel
theorem dX11_ruled_32 : decode cX11_ruled 32 = .ok (.isub, 1) := by decide +kernel
theorem dX11_ruled_33 : decode cX11_ruled 33 = .ok (.aload_n 0, 1) := by decide +kernel
theorem dX11_ruled_34 : decode cX11_ruled 34 = .ok (.getfield 59, 3) := by decide +kernel
theorem dX11_ruled_37 : decode cX11_ruled 37 = .ok (.iload_n 1, 1) := by decide +kernel
theorem dX11_ruled_38 : decode cX11_ruled 38 = .ok (.iconst 1, 1) := by decide +kernel
theorem dX11_ruled_39 : decode cX11_ruled 39 = .ok (.isub, 1) := by decide +kernel
theorem dX11_ruled_40 : decode cX11_ruled 40 = .ok (.iaload, 1) := by decide +kernel
theorem dX11_ruled_41 : decode cX11_ruled 41 = .ok (.ineg, 1) := by decide +kernel
theorem dX11_ruled_42 : decode cX11_ruled 42 = .ok (.iastore, 1) := by decide +kernel
theorem dX11_ruled_43 : decode cX11_ruled 43 = .ok (.goto 76, 3) := by decide +kernel
theorem dX11_ruled_46 : decode cX11_ruled 46 = .ok (.iload_n 3, 1) := by decide +kernel
theorem dX11_ruled_47 : decode cX11_ruled 47 = .ok (.sipush 2000, 3) := by decide +kernel
theorem dX11_ruled_50 : decode cX11_ruled 50 = .ok (.if_icmp .lt 39, 3) := by decide +kernel
theorem dX11_ruled_53 : decode cX11_ruled 53 = .ok (.iinc 1 (-1), 3) := by decide +kernel
theorem dX11_ruled_56 : decode cX11_ruled 56 = .ok (.aload_n 0, 1) := by decide +kernel
theorem dX11_ruled_57 : decode cX11_ruled 57 = .ok (.getfield 59, 3) := by decide +kernel
theorem dX11_ruled_60 : decode cX11_ruled 60 = .ok (.iload_n 1, 1) := by decide +kernel
theorem dX11_ruled_61 : decode cX11_ruled 61 = .ok (.iconst 1, 1) := by decide +kernel
theorem dX11_ruled_62 : decode cX11_ruled 62 = .ok (.isub, 1) := by decide +kernel
theorem dX11_ruled_63 : decode cX11_ruled 63 = .ok (.iload_n 3, 1) := by decide +kernel
theorem dX11_ruled_64 : decode cX11_ruled 64 = .ok (.sipush 2000, 3) := by decide +kernel
theorem dX11_ruled_67 : decode cX11_ruled 67 = .ok (.isub, 1) := by decide +kernel
theorem dX11_ruled_68 : decode cX11_ruled 68 = .ok (.aload_n 0, 1) := by decide +kernel
theorem dX11_ruled_69 : decode cX11_ruled 69 = .ok (.getfield 59, 3) := by decide +kernel
theorem dX11_ruled_72 : decode cX11_ruled 72 = .ok (.iload_n 1, 1) := by decide +kernel
theorem dX11_ruled_73 : decode cX11_ruled 73 = .ok (.iconst 1, 1) := by decide +kernel
theorem dX11_ruled_74 : decode cX11_ruled 74 = .ok (.isub, 1) := by decide +kernel
theorem dX11_ruled_75 : decode cX11_ruled 75 = .ok (.iaload, 1) := by decide +kernel
theorem dX11_ruled_76 : decode cX11_ruled 76 = .ok (.aload_n 0, 1) := by decide +kernel
theorem dX11_ruled_77 : decode cX11_ruled 77 = .ok (.getfield 59, 3) := by decide +kernel
theorem dX11_ruled_80 : decode cX11_ruled 80 = .ok (.iload_n 1, 1) := by decide +kernel
theorem dX11_ruled_81 : decode cX11_ruled 81 = .ok (.iaload, 1) := by decide +kernel
theorem dX11_ruled_82 : decode cX11_ruled 82 = .ok (.invokestatic 251, 3) := by decide +kernel
theorem dX11_ruled_85 : decode cX11_ruled 85 = .ok (.iastore, 1) := by decide +kernel
theorem dX11_ruled_86 : decode cX11_ruled 86 = .ok (.goto 33, 3) := by decide +kernel
theorem dX11_ruled_89 : decode cX11_ruled 89 = .ok (.aload_n 0, 1) := by decide +kernel
theorem dX11_ruled_90 : decode cX11_ruled 90 = .ok (.getfield 59, 3) := by decide +kernel
theorem dX11_ruled_93 : decode cX11_ruled 93 = .ok (.iload_n 1, 1) := by decide +kernel
theorem dX11_ruled_94 : decode cX11_ruled 94 = .ok (.iload_n 3, 1) := by decide +kernel
theorem dX11_ruled_95 : decode cX11_ruled 95 = .ok (.sipush 1000, 3) := by decide +kernel
theorem dX11_ruled_98 : decode cX11_ruled 98 = .ok (.if_icmp .lt 16, 3) := by decide +kernel
theorem dX11_ruled_101 : decode cX11_ruled 101 = .ok (.aload_n 0, 1) := by decide +kernel
theorem dX11_ruled_102 : decode cX11_ruled 102 = .ok (.getfield 62, 3) := by decide +kernel
theorem dX11_ruled_105 : decode cX11_ruled 105 = .ok (.iload_n 3, 1) := by decide +kernel
theorem dX11_ruled_106 : decode cX11_ruled 106 = .ok (.sipush 1000, 3) := by decide +kernel
theorem dX11_ruled_109 : decode cX11_ruled 109 = .ok (.isub, 1) := by decide +kernel
theorem dX11_ruled_110 : decode cX11_ruled 110 = .ok (.iaload, 1) := by decide +kernel
theorem dX11_ruled_111 : decode cX11_ruled 111 = .ok (.goto 4, 3) := by decide +kernel
theorem dX11_ruled_114 : decode cX11_ruled 114 = .ok (.iload_n 3, 1) := by decide +kernel
theorem dX11_ruled_115 : decode cX11_ruled 115 = .ok (.iastore, 1) := by decide +kernel
theorem dX11_ruled_116 : decode cX11_ruled 116 = .ok (.iinc 1 1, 3) := by decide +kernel
theorem dX11_ruled_119 : decode cX11_ruled 119 = .ok (.iinc 2 1, 3) := by decide +kernel
theorem dX11_ruled_122 : decode cX11_ruled 122 = .ok (.goto (-118), 3) := by decide +kernel
theorem dX11_ruled_125 : decode cX11_ruled 125 = .ok (.aload_n 0, 1) := by decide +kernel
theorem dX11_ruled_126 : decode cX11_ruled 126 = .ok (.getfield 241, 3) := by decide +kernel
theorem dX11_ruled_129 : decode cX11_ruled 129 = .ok (.ifCond .ne 7, 3) := by decide +kernel
theorem dX11_ruled_132 : decode cX11_ruled 132 = .ok (.iconst 1, 1) := by decide +kernel
theorem dX11_ruled_133 : decode cX11_ruled 133 = .ok (.goto 9, 3) := by decide +kernel
theorem dX11_ruled_136 : decode cX11_ruled 136 = .ok (.aload_n 0, 1) := by decide +kernel
theorem dX11_ruled_137 : decode cX11_ruled 137 = .ok (.getfield 59, 3) := by decide +kernel
theorem dX11_ruled_140 : decode cX11_ruled 140 = .ok (.iconst 0, 1) := by decide +kernel
theorem dX11_ruled_141 : decode cX11_ruled 141 = .ok (.iaload, 1) := by decide +kernel
theorem dX11_ruled_142 : decode cX11_ruled 142 = .ok (.ireturn, 1) := by decide +kernel
theorem dX11_turn_0 : decode cX11_turn 0 = .ok (.aload_n 0, 1) := by decide +kernel
theorem dX11_turn_1 : decode cX11_turn 1 = .ok (.getfield 62, 3) := by decide +kernel
theorem dX11_turn_4 : decode cX11_turn 4 = .ok (.iconst 0, 1) := by decide +kernel
theorem dX11_turn_5 : decode cX11_turn 5 = .ok (.aload_n 0, 1) := by decide +kernel
theorem dX11_turn_6 : decode cX11_turn 6 = .ok (.getfield 31, 3) := by decide +kernel
theorem dX11_turn_9 : decode cX11_turn 9 = .ok (.iload_n 2, 1) := by decide +kernel
theorem dX11_turn_10 : decode cX11_turn 10 = .ok (.iaload, 1) := by decide +kernel
theorem dX11_turn_11 : decode cX11_turn 11 = .ok (.iastore, 1) := by decide +kernel
theorem dX11_turn_12 : decode cX11_turn 12 = .ok (.aload_n 0, 1) := by decide +kernel
theorem dX11_turn_13 : decode cX11_turn 13 = .ok (.getfield 62, 3) := by decide +kernel
theorem dX11_turn_16 : decode cX11_turn 16 = .ok (.iconst 1, 1) := by decide +kernel
theorem dX11_turn_17 : decode cX11_turn 17 = .ok (.aload_n 1, 1) := by decide +kernel
theorem dX11_turn_18 : decode cX11_turn 18 = .ok (.iload_n 2, 1) := by decide +kernel
theorem dX11_turn_19 : decode cX11_turn 19 = .ok (.iaload, 1) := by decide +kernel
theorem dX11_turn_20 : decode cX11_turn 20 = .ok (.iastore, 1) := by decide +kernel
theorem dX11_turn_21 : decode cX11_turn 21 = .ok (.aload_n 0, 1) := by decide +kernel
theorem dX11_turn_22 : decode cX11_turn 22 = .ok (.getfield 62, 3) := by decide +kernel
theorem dX11_turn_25 : decode cX11_turn 25 = .ok (.iconst 2, 1) := by decide +kernel
theorem dX11_turn_26 : decode cX11_turn 26 = .ok (.aload_n 0, 1) := by decide +kernel
theorem dX11_turn_27 : decode cX11_turn 27 = .ok (.iload_n 2, 1) := by decide +kernel
theorem dX11_turn_28 : decode cX11_turn 28 = .ok (.aload_n 1, 1) := by decide +kernel
theorem dX11_turn_29 : decode cX11_turn 29 = .ok (.iload_n 2, 1) := by decide +kernel
theorem dX11_turn_30 : decode cX11_turn 30 = .ok (.iaload, 1) := by decide +kernel
theorem dX11_turn_31 : decode cX11_turn 31 = .ok (.invokevirtual 255, 3) := by decide +kernel
theorem dX11_turn_34 : decode cX11_turn 34 = .ok (.iastore, 1) := by decide +kernel
theorem dX11_turn_35 : decode cX11_turn 35 = .ok (.aload_n 0, 1) := by decide +kernel
theorem dX11_turn_36 : decode cX11_turn 36 = .ok (.getfield 62, 3) := by decide +kernel
theorem dX11_turn_39 : decode cX11_turn 39 = .ok (.iconst 3, 1) := by decide +kernel
theorem dX11_turn_40 : decode cX11_turn 40 = .ok (.aload_n 1, 1) := by decide +kernel
theorem dX11_turn_41 : decode cX11_turn 41 = .ok (.bipush 8, 2) := by decide +kernel
theorem dX11_turn_43 : decode cX11_turn 43 = .ok (.iload_n 2, 1) := by decide +kernel
theorem dX11_turn_44 : decode cX11_turn 44 = .ok (.iadd, 1) := by decide +kernel
theorem dX11_turn_45 : decode cX11_turn 45 = .ok (.iaload, 1) := by decide +kernel
theorem dX11_turn_46 : decode cX11_turn 46 = .ok (.iastore, 1) := by decide +kernel
theorem dX11_turn_47 : decode cX11_turn 47 = .ok (.aload_n 0, 1) := by decide +kernel
theorem dX11_turn_48 : decode cX11_turn 48 = .ok (.getfield 62, 3) := by decide +kernel
theorem dX11_turn_51 : decode cX11_turn 51 = .ok (.iconst 4, 1) := by decide +kernel
theorem dX11_turn_52 : decode cX11_turn 52 = .ok (.iload_n 2, 1) := by decide +kernel
theorem dX11_turn_53 : decode cX11_turn 53 = .ok (.iastore, 1) := by decide +kernel
theorem dX11_turn_54 : decode cX11_turn 54 = .ok (.aload_n 0, 1) := by decide +kernel
theorem dX11_turn_55 : decode cX11_turn 55 = .ok (.getfield 62, 3) := by decide +kernel
theorem dX11_turn_58 : decode cX11_turn 58 = .ok (.iconst 5, 1) := by decide +kernel
theorem dX11_turn_59 : decode cX11_turn 59 = .ok (.aload_n 1, 1) := by decide +kernel
theorem dX11_turn_60 : decode cX11_turn 60 = .ok (.bipush 8, 2) := by decide +kernel
theorem dX11_turn_62 : decode cX11_turn 62 = .ok (.iaload, 1) := by decide +kernel
theorem dX11_turn_63 : decode cX11_turn 63 = .ok (.bipush 7, 2) := by decide +kernel
theorem dX11_turn_65 : decode cX11_turn 65 = .ok (.irem, 1) := by decide +kernel
theorem dX11_turn_66 : decode cX11_turn 66 = .ok (.iastore, 1) := by decide +kernel
theorem dX11_turn_67 : decode cX11_turn 67 = .ok (.aload_n 0, 1) := by decide +kernel
theorem dX11_turn_68 : decode cX11_turn 68 = .ok (.getfield 62, 3) := by decide +kernel
theorem dX11_turn_71 : decode cX11_turn 71 = .ok (.bipush 6, 2) := by decide +kernel
theorem dX11_turn_73 : decode cX11_turn 73 = .ok (.aload_n 1, 1) := by decide +kernel
theorem dX11_turn_74 : decode cX11_turn 74 = .ok (.bipush 16, 2) := by decide +kernel
theorem dX11_turn_76 : decode cX11_turn 76 = .ok (.iaload, 1) := by decide +kernel
theorem dX11_turn_77 : decode cX11_turn 77 = .ok (.bipush 7, 2) := by decide +kernel
theorem dX11_turn_79 : decode cX11_turn 79 = .ok (.irem, 1) := by decide +kernel
theorem dX11_turn_80 : decode cX11_turn 80 = .ok (.iastore, 1) := by decide +kernel
theorem dX11_turn_81 : decode cX11_turn 81 = .ok (.iconst 0, 1) := by decide +kernel
theorem dX11_turn_82 : decode cX11_turn 82 = .ok (.bipush 9, 2) := by decide +kernel
theorem dX11_turn_84 : decode cX11_turn 84 = .ok (.aload_n 0, 1) := by decide +kernel
theorem dX11_turn_85 : decode cX11_turn 85 = .ok (.invokevirtual 258, 3) := by decide +kernel
theorem dX11_turn_88 : decode cX11_turn 88 = .ok (.invokestatic 142, 3) := by decide +kernel
theorem dX11_turn_91 : decode cX11_turn 91 = .ok (.invokestatic 261, 3) := by decide +kernel
theorem dX11_turn_94 : decode cX11_turn 94 = .ok (.ireturn, 1) := by decide +kernel
theorem dX11_laysFar_0 : decode cX11_laysFar 0 = .ok (.iconst 0, 1) := by decide +kernel
theorem dX11_laysFar_1 : decode cX11_laysFar 1 = .ok (.istore_n 2, 1) := by decide +kernel
theorem dX11_laysFar_2 : decode cX11_laysFar 2 = .ok (.iload_n 2, 1) := by decide +kernel
theorem dX11_laysFar_3 : decode cX11_laysFar 3 = .ok (.bipush 8, 2) := by decide +kernel
theorem dX11_laysFar_5 : decode cX11_laysFar 5 = .ok (.if_icmp .ge 27, 3) := by decide +kernel
theorem dX11_laysFar_8 : decode cX11_laysFar 8 = .ok (.aload_n 0, 1) := by decide +kernel
theorem dX11_laysFar_9 : decode cX11_laysFar 9 = .ok (.getfield 65, 3) := by decide +kernel
theorem dX11_laysFar_12 : decode cX11_laysFar 12 = .ok (.iload_n 2, 1) := by decide +kernel
theorem dX11_laysFar_13 : decode cX11_laysFar 13 = .ok (.iload_n 2, 1) := by decide +kernel
theorem dX11_laysFar_14 : decode cX11_laysFar 14 = .ok (.iload_n 1, 1) := by decide +kernel
theorem dX11_laysFar_15 : decode cX11_laysFar 15 = .ok (.if_icmp .ne 7, 3) := by decide +kernel
theorem dX11_laysFar_18 : decode cX11_laysFar 18 = .ok (.iconst 0, 1) := by decide +kernel
theorem dX11_laysFar_19 : decode cX11_laysFar 19 = .ok (.goto 6, 3) := by decide +kernel
theorem dX11_laysFar_22 : decode cX11_laysFar 22 = .ok (.ldc_w 264, 3) := by decide +kernel
theorem dX11_laysFar_25 : decode cX11_laysFar 25 = .ok (.iastore, 1) := by decide +kernel
theorem dX11_laysFar_26 : decode cX11_laysFar 26 = .ok (.iinc 2 1, 3) := by decide +kernel
theorem dX11_laysFar_29 : decode cX11_laysFar 29 = .ok (.goto (-27), 3) := by decide +kernel
theorem dX11_laysFar_32 : decode cX11_laysFar 32 = .ok (.iconst 0, 1) := by decide +kernel
theorem dX11_laysFar_33 : decode cX11_laysFar 33 = .ok (.istore_n 2, 1) := by decide +kernel
theorem dX11_laysFar_34 : decode cX11_laysFar 34 = .ok (.iload_n 2, 1) := by decide +kernel
theorem dX11_laysFar_35 : decode cX11_laysFar 35 = .ok (.bipush 8, 2) := by decide +kernel
theorem dX11_laysFar_37 : decode cX11_laysFar 37 = .ok (.if_icmp .ge 74, 3) := by decide +kernel
theorem dX11_laysFar_40 : decode cX11_laysFar 40 = .ok (.iconst 1, 1) := by decide +kernel
theorem dX11_laysFar_41 : decode cX11_laysFar 41 = .ok (.istore_n 3, 1) := by decide +kernel
theorem dX11_laysFar_42 : decode cX11_laysFar 42 = .ok (.iload_n 3, 1) := by decide +kernel
theorem dX11_laysFar_43 : decode cX11_laysFar 43 = .ok (.aload_n 0, 1) := by decide +kernel
theorem dX11_laysFar_44 : decode cX11_laysFar 44 = .ok (.getfield 28, 3) := by decide +kernel
theorem dX11_laysFar_47 : decode cX11_laysFar 47 = .ok (.if_icmp .ge 58, 3) := by decide +kernel
theorem dX11_laysFar_50 : decode cX11_laysFar 50 = .ok (.iconst 0, 1) := by decide +kernel
theorem dX11_laysFar_51 : decode cX11_laysFar 51 = .ok (.istore 4, 2) := by decide +kernel
theorem dX11_laysFar_53 : decode cX11_laysFar 53 = .ok (.iload 4, 2) := by decide +kernel
theorem dX11_laysFar_55 : decode cX11_laysFar 55 = .ok (.aload_n 0, 1) := by decide +kernel
theorem dX11_laysFar_56 : decode cX11_laysFar 56 = .ok (.getfield 31, 3) := by decide +kernel
theorem dX11_laysFar_59 : decode cX11_laysFar 59 = .ok (.iload_n 3, 1) := by decide +kernel
theorem dX11_laysFar_60 : decode cX11_laysFar 60 = .ok (.iaload, 1) := by decide +kernel
theorem dX11_laysFar_61 : decode cX11_laysFar 61 = .ok (.if_icmp .ge 38, 3) := by decide +kernel
theorem dX11_laysFar_64 : decode cX11_laysFar 64 = .ok (.aload_n 0, 1) := by decide +kernel
theorem dX11_laysFar_65 : decode cX11_laysFar 65 = .ok (.getfield 65, 3) := by decide +kernel
theorem dX11_laysFar_68 : decode cX11_laysFar 68 = .ok (.iload_n 3, 1) := by decide +kernel
theorem dX11_laysFar_69 : decode cX11_laysFar 69 = .ok (.aload_n 0, 1) := by decide +kernel
theorem dX11_laysFar_70 : decode cX11_laysFar 70 = .ok (.getfield 65, 3) := by decide +kernel
theorem dX11_laysFar_73 : decode cX11_laysFar 73 = .ok (.iload_n 3, 1) := by decide +kernel
theorem dX11_laysFar_74 : decode cX11_laysFar 74 = .ok (.iaload, 1) := by decide +kernel
theorem dX11_laysFar_75 : decode cX11_laysFar 75 = .ok (.aload_n 0, 1) := by decide +kernel
theorem dX11_laysFar_76 : decode cX11_laysFar 76 = .ok (.getfield 65, 3) := by decide +kernel
theorem dX11_laysFar_79 : decode cX11_laysFar 79 = .ok (.aload_n 0, 1) := by decide +kernel
theorem dX11_laysFar_80 : decode cX11_laysFar 80 = .ok (.iload_n 3, 1) := by decide +kernel
theorem dX11_laysFar_81 : decode cX11_laysFar 81 = .ok (.iload 4, 2) := by decide +kernel
theorem dX11_laysFar_83 : decode cX11_laysFar 83 = .ok (.invokevirtual 255, 3) := by decide +kernel
theorem dX11_laysFar_86 : decode cX11_laysFar 86 = .ok (.iaload, 1) := by decide +kernel
theorem dX11_laysFar_87 : decode cX11_laysFar 87 = .ok (.iconst 1, 1) := by decide +kernel
theorem dX11_laysFar_88 : decode cX11_laysFar 88 = .ok (.iadd, 1) := by decide +kernel
theorem dX11_laysFar_89 : decode cX11_laysFar 89 = .ok (.invokestatic 142, 3) := by decide +kernel
theorem dX11_laysFar_92 : decode cX11_laysFar 92 = .ok (.iastore, 1) := by decide +kernel
theorem dX11_laysFar_93 : decode cX11_laysFar 93 = .ok (.iinc 4 1, 3) := by decide +kernel
theorem dX11_laysFar_96 : decode cX11_laysFar 96 = .ok (.goto (-43), 3) := by decide +kernel
theorem dX11_laysFar_99 : decode cX11_laysFar 99 = .ok (.iinc 3 1, 3) := by decide +kernel
theorem dX11_laysFar_102 : decode cX11_laysFar 102 = .ok (.goto (-60), 3) := by decide +kernel
theorem dX11_laysFar_105 : decode cX11_laysFar 105 = .ok (.iinc 2 1, 3) := by decide +kernel
theorem dX11_laysFar_108 : decode cX11_laysFar 108 = .ok (.goto (-74), 3) := by decide +kernel
theorem dX11_laysFar_111 : decode cX11_laysFar 111 = .ok (.return_, 1) := by decide +kernel
theorem dX11_post_0 : decode cX11_post 0 = .ok (.aload_n 0, 1) := by decide +kernel
theorem dX11_post_1 : decode cX11_post 1 = .ok (.iconst 0, 1) := by decide +kernel
theorem dX11_post_2 : decode cX11_post 2 = .ok (.putfield 3, 3) := by decide +kernel
theorem dX11_post_5 : decode cX11_post 5 = .ok (.aload_n 0, 1) := by decide +kernel
theorem dX11_post_6 : decode cX11_post 6 = .ok (.iload_n 1, 1) := by decide +kernel
theorem dX11_post_7 : decode cX11_post 7 = .ok (.invokevirtual 265, 3) := by decide +kernel
theorem dX11_post_10 : decode cX11_post 10 = .ok (.ifCond .eq 15, 3) := by decide +kernel
theorem dX11_post_13 : decode cX11_post 13 = .ok (.iload_n 2, 1) := by decide +kernel
theorem dX11_post_14 : decode cX11_post 14 = .ok (.i2l, 1) := by decide +kernel
theorem dX11_post_15 : decode cX11_post 15 = .ok (.lconst 0, 1) := by decide +kernel
theorem dX11_post_16 : decode cX11_post 16 = .ok (.ldc2_w 268, 3) := by decide +kernel
theorem dX11_post_19 : decode cX11_post 19 = .ok (.invokestatic 129, 3) := by decide +kernel
theorem dX11_post_22 : decode cX11_post 22 = .ok (.ifCond .ne 8, 3) := by decide +kernel
theorem dX11_post_25 : decode cX11_post 25 = .ok (.aload_n 0, 1) := by decide +kernel
theorem dX11_post_26 : decode cX11_post 26 = .ok (.invokevirtual 270, 3) := by decide +kernel
theorem dX11_post_29 : decode cX11_post 29 = .ok (.ireturn, 1) := by decide +kernel
theorem dX11_post_30 : decode cX11_post 30 = .ok (.iload_n 1, 1) := by decide +kernel
theorem dX11_post_31 : decode cX11_post 31 = .ok (.ifCond .ne 20, 3) := by decide +kernel
theorem dX11_post_34 : decode cX11_post 34 = .ok (.iload_n 2, 1) := by decide +kernel
theorem dX11_post_35 : decode cX11_post 35 = .ok (.iconst 3, 1) := by decide +kernel
theorem dX11_post_36 : decode cX11_post 36 = .ok (.if_icmp .ne 13, 3) := by decide +kernel
theorem dX11_post_39 : decode cX11_post 39 = .ok (.aload_n 0, 1) := by decide +kernel
theorem dX11_post_40 : decode cX11_post 40 = .ok (.getfield 38, 3) := by decide +kernel
theorem dX11_post_43 : decode cX11_post 43 = .ok (.bipush 8, 2) := by decide +kernel
theorem dX11_post_45 : decode cX11_post 45 = .ok (.iaload, 1) := by decide +kernel
theorem dX11_post_46 : decode cX11_post 46 = .ok (.goto 4, 3) := by decide +kernel
theorem dX11_post_49 : decode cX11_post 49 = .ok (.iconst 0, 1) := by decide +kernel
theorem dX11_post_50 : decode cX11_post 50 = .ok (.ireturn, 1) := by decide +kernel
theorem dX11_post_51 : decode cX11_post 51 = .ok (.aload_n 0, 1) := by decide +kernel
theorem dX11_post_52 : decode cX11_post 52 = .ok (.iconst 0, 1) := by decide +kernel
theorem dX11_post_53 : decode cX11_post 53 = .ok (.invokevirtual 273, 3) := by decide +kernel
theorem dX11_post_56 : decode cX11_post 56 = .ok (.iload_n 2, 1) := by decide +kernel
theorem dX11_post_57 : decode cX11_post 57 = .ok (.tableswitch 81 0 4 #[35, 42, 49, 61, 71], 35) := by decide +kernel
theorem dX11_post_92 : decode cX11_post 92 = .ok (.aload_n 0, 1) := by decide +kernel
theorem dX11_post_93 : decode cX11_post 93 = .ok (.getfield 31, 3) := by decide +kernel
theorem dX11_post_96 : decode cX11_post 96 = .ok (.iload_n 1, 1) := by decide +kernel
theorem dX11_post_97 : decode cX11_post 97 = .ok (.iaload, 1) := by decide +kernel
theorem dX11_post_98 : decode cX11_post 98 = .ok (.ireturn, 1) := by decide +kernel
theorem dX11_post_99 : decode cX11_post 99 = .ok (.aload_n 0, 1) := by decide +kernel
theorem dX11_post_100 : decode cX11_post 100 = .ok (.getfield 38, 3) := by decide +kernel
theorem dX11_post_103 : decode cX11_post 103 = .ok (.iload_n 1, 1) := by decide +kernel
theorem dX11_post_104 : decode cX11_post 104 = .ok (.iaload, 1) := by decide +kernel
theorem dX11_post_105 : decode cX11_post 105 = .ok (.ireturn, 1) := by decide +kernel
theorem dX11_post_106 : decode cX11_post 106 = .ok (.aload_n 0, 1) := by decide +kernel
theorem dX11_post_107 : decode cX11_post 107 = .ok (.iload_n 1, 1) := by decide +kernel
theorem dX11_post_108 : decode cX11_post 108 = .ok (.aload_n 0, 1) := by decide +kernel
theorem dX11_post_109 : decode cX11_post 109 = .ok (.getfield 38, 3) := by decide +kernel
theorem dX11_post_112 : decode cX11_post 112 = .ok (.iload_n 1, 1) := by decide +kernel
theorem dX11_post_113 : decode cX11_post 113 = .ok (.iaload, 1) := by decide +kernel
theorem dX11_post_114 : decode cX11_post 114 = .ok (.invokevirtual 255, 3) := by decide +kernel
theorem dX11_post_117 : decode cX11_post 117 = .ok (.ireturn, 1) := by decide +kernel
theorem dX11_post_118 : decode cX11_post 118 = .ok (.aload_n 0, 1) := by decide +kernel
theorem dX11_post_119 : decode cX11_post 119 = .ok (.getfield 38, 3) := by decide +kernel
theorem dX11_post_122 : decode cX11_post 122 = .ok (.bipush 8, 2) := by decide +kernel
theorem dX11_post_124 : decode cX11_post 124 = .ok (.iload_n 1, 1) := by decide +kernel
theorem dX11_post_125 : decode cX11_post 125 = .ok (.iadd, 1) := by decide +kernel
theorem dX11_post_126 : decode cX11_post 126 = .ok (.iaload, 1) := by decide +kernel
theorem dX11_post_127 : decode cX11_post 127 = .ok (.ireturn, 1) := by decide +kernel
theorem dX11_post_128 : decode cX11_post 128 = .ok (.aload_n 0, 1) := by decide +kernel
theorem dX11_post_129 : decode cX11_post 129 = .ok (.aload_n 0, 1) := by decide +kernel
theorem dX11_post_130 : decode cX11_post 130 = .ok (.getfield 38, 3) := by decide +kernel
theorem dX11_post_133 : decode cX11_post 133 = .ok (.iload_n 1, 1) := by decide +kernel
theorem dX11_post_134 : decode cX11_post 134 = .ok (.invokevirtual 276, 3) := by decide +kernel
theorem dX11_post_137 : decode cX11_post 137 = .ok (.ireturn, 1) := by decide +kernel
theorem dX11_post_138 : decode cX11_post 138 = .ok (.aload_n 0, 1) := by decide +kernel
theorem dX11_post_139 : decode cX11_post 139 = .ok (.getfield 65, 3) := by decide +kernel
theorem dX11_post_142 : decode cX11_post 142 = .ok (.iload_n 1, 1) := by decide +kernel
theorem dX11_post_143 : decode cX11_post 143 = .ok (.iaload, 1) := by decide +kernel
theorem dX11_post_144 : decode cX11_post 144 = .ok (.ireturn, 1) := by decide +kernel
theorem dX11_way_0 : decode cX11_way 0 = .ok (.aload_n 0, 1) := by decide +kernel
theorem dX11_way_1 : decode cX11_way 1 = .ok (.iconst 0, 1) := by decide +kernel
theorem dX11_way_2 : decode cX11_way 2 = .ok (.putfield 3, 3) := by decide +kernel
theorem dX11_way_5 : decode cX11_way 5 = .ok (.aload_n 0, 1) := by decide +kernel
theorem dX11_way_6 : decode cX11_way 6 = .ok (.iload_n 1, 1) := by decide +kernel
theorem dX11_way_7 : decode cX11_way 7 = .ok (.invokevirtual 280, 3) := by decide +kernel
theorem dX11_way_10 : decode cX11_way 10 = .ok (.ifCond .eq 30, 3) := by decide +kernel
theorem dX11_way_13 : decode cX11_way 13 = .ok (.iload_n 2, 1) := by decide +kernel
theorem dX11_way_14 : decode cX11_way 14 = .ok (.i2l, 1) := by decide +kernel
theorem dX11_way_15 : decode cX11_way 15 = .ok (.lconst 0, 1) := by decide +kernel
theorem dX11_way_16 : decode cX11_way 16 = .ok (.aload_n 0, 1) := by decide +kernel
theorem dX11_way_17 : decode cX11_way 17 = .ok (.getfield 31, 3) := by decide +kernel
theorem dX11_way_20 : decode cX11_way 20 = .ok (.iload_n 1, 1) := by decide +kernel
theorem dX11_way_21 : decode cX11_way 21 = .ok (.iaload, 1) := by decide +kernel
theorem dX11_way_22 : decode cX11_way 22 = .ok (.iconst 1, 1) := by decide +kernel
theorem dX11_way_23 : decode cX11_way 23 = .ok (.isub, 1) := by decide +kernel
theorem dX11_way_24 : decode cX11_way 24 = .ok (.i2l, 1) := by decide +kernel
theorem dX11_way_25 : decode cX11_way 25 = .ok (.invokestatic 129, 3) := by decide +kernel
theorem dX11_way_28 : decode cX11_way 28 = .ok (.ifCond .eq 12, 3) := by decide +kernel
theorem dX11_way_31 : decode cX11_way 31 = .ok (.aload_n 0, 1) := by decide +kernel
theorem dX11_way_32 : decode cX11_way 32 = .ok (.iload_n 1, 1) := by decide +kernel
theorem dX11_way_33 : decode cX11_way 33 = .ok (.iload_n 2, 1) := by decide +kernel
theorem dX11_way_34 : decode cX11_way 34 = .ok (.invokevirtual 255, 3) := by decide +kernel
theorem dX11_way_37 : decode cX11_way 37 = .ok (.goto 7, 3) := by decide +kernel
theorem dX11_way_40 : decode cX11_way 40 = .ok (.aload_n 0, 1) := by decide +kernel
theorem dX11_way_41 : decode cX11_way 41 = .ok (.invokevirtual 270, 3) := by decide +kernel
theorem dX11_way_44 : decode cX11_way 44 = .ok (.ireturn, 1) := by decide +kernel
theorem dX11_sheet_0 : decode cX11_sheet 0 = .ok (.aload_n 0, 1) := by decide +kernel
theorem dX11_sheet_1 : decode cX11_sheet 1 = .ok (.iconst 0, 1) := by decide +kernel
theorem dX11_sheet_2 : decode cX11_sheet 2 = .ok (.putfield 3, 3) := by decide +kernel
theorem dX11_sheet_5 : decode cX11_sheet 5 = .ok (.iload_n 1, 1) := by decide +kernel
theorem dX11_sheet_6 : decode cX11_sheet 6 = .ok (.i2l, 1) := by decide +kernel
theorem dX11_sheet_7 : decode cX11_sheet 7 = .ok (.lconst 0, 1) := by decide +kernel
theorem dX11_sheet_8 : decode cX11_sheet 8 = .ok (.ldc2_w 283, 3) := by decide +kernel
theorem dX11_sheet_11 : decode cX11_sheet 11 = .ok (.invokestatic 129, 3) := by decide +kernel
theorem dX11_sheet_14 : decode cX11_sheet 14 = .ok (.ifCond .eq 9, 3) := by decide +kernel
theorem dX11_sheet_17 : decode cX11_sheet 17 = .ok (.iload_n 2, 1) := by decide +kernel
theorem dX11_sheet_18 : decode cX11_sheet 18 = .ok (.bipush 7, 2) := by decide +kernel
theorem dX11_sheet_20 : decode cX11_sheet 20 = .ok (.if_icmp .le 5, 3) := by decide +kernel
theorem dX11_sheet_23 : decode cX11_sheet 23 = .ok (.iconst (-1), 1) := by decide +kernel
theorem dX11_sheet_24 : decode cX11_sheet 24 = .ok (.ireturn, 1) := by decide +kernel
theorem dX11_sheet_25 : decode cX11_sheet 25 = .ok (.iload_n 1, 1) := by decide +kernel
theorem dX11_sheet_26 : decode cX11_sheet 26 = .ok (.iconst 3, 1) := by decide +kernel
theorem dX11_sheet_27 : decode cX11_sheet 27 = .ok (.if_icmp .eq 10, 3) := by decide +kernel
theorem dX11_sheet_30 : decode cX11_sheet 30 = .ok (.iload_n 2, 1) := by decide +kernel
theorem dX11_sheet_31 : decode cX11_sheet 31 = .ok (.ifCond .ge 6, 3) := by decide +kernel
theorem dX11_sheet_34 : decode cX11_sheet 34 = .ok (.bipush (-2), 2) := by decide +kernel
theorem dX11_sheet_36 : decode cX11_sheet 36 = .ok (.ireturn, 1) := by decide +kernel
theorem dX11_sheet_37 : decode cX11_sheet 37 = .ok (.iload_n 3, 1) := by decide +kernel
theorem dX11_sheet_38 : decode cX11_sheet 38 = .ok (.istore 5, 2) := by decide +kernel
theorem dX11_sheet_40 : decode cX11_sheet 40 = .ok (.iconst 1, 1) := by decide +kernel
theorem dX11_sheet_41 : decode cX11_sheet 41 = .ok (.istore 6, 2) := by decide +kernel
theorem dX11_sheet_43 : decode cX11_sheet 43 = .ok (.iload 6, 2) := by decide +kernel
theorem dX11_sheet_45 : decode cX11_sheet 45 = .ok (.aload_n 0, 1) := by decide +kernel
theorem dX11_sheet_46 : decode cX11_sheet 46 = .ok (.getfield 28, 3) := by decide +kernel
theorem dX11_sheet_49 : decode cX11_sheet 49 = .ok (.if_icmp .ge 77, 3) := by decide +kernel
theorem dX11_sheet_52 : decode cX11_sheet 52 = .ok (.iload_n 1, 1) := by decide +kernel
theorem dX11_sheet_53 : decode cX11_sheet 53 = .ok (.ifCond .ne 9, 3) := by decide +kernel
theorem dX11_sheet_56 : decode cX11_sheet 56 = .ok (.iload 5, 2) := by decide +kernel
theorem dX11_sheet_58 : decode cX11_sheet 58 = .ok (.i2b, 1) := by decide +kernel
theorem dX11_sheet_59 : decode cX11_sheet 59 = .ok (.goto 16, 3) := by decide +kernel
theorem dX11_sheet_62 : decode cX11_sheet 62 = .ok (.iload_n 1, 1) := by decide +kernel
theorem dX11_sheet_63 : decode cX11_sheet 63 = .ok (.iconst 1, 1) := by decide +kernel
theorem dX11_sheet_64 : decode cX11_sheet 64 = .ok (.if_icmp .ne 9, 3) := by decide +kernel
theorem dX11_sheet_67 : decode cX11_sheet 67 = .ok (.iload 5, 2) := by decide +kernel
theorem dX11_sheet_69 : decode cX11_sheet 69 = .ok (.i2s, 1) := by decide +kernel
theorem dX11_sheet_70 : decode cX11_sheet 70 = .ok (.goto 5, 3) := by decide +kernel
theorem dX11_sheet_73 : decode cX11_sheet 73 = .ok (.iload 5, 2) := by decide +kernel
theorem dX11_sheet_75 : decode cX11_sheet 75 = .ok (.istore 7, 2) := by decide +kernel
theorem dX11_sheet_77 : decode cX11_sheet 77 = .ok (.aload_n 0, 1) := by decide +kernel
theorem dX11_sheet_78 : decode cX11_sheet 78 = .ok (.getfield 38, 3) := by decide +kernel
theorem dX11_sheet_81 : decode cX11_sheet 81 = .ok (.bipush 8, 2) := by decide +kernel
theorem dX11_sheet_83 : decode cX11_sheet 83 = .ok (.iload 6, 2) := by decide +kernel
theorem dX11_sheet_85 : decode cX11_sheet 85 = .ok (.iadd, 1) := by decide +kernel
theorem dX11_sheet_86 : decode cX11_sheet 86 = .ok (.iload_n 1, 1) := by decide +kernel
theorem dX11_sheet_87 : decode cX11_sheet 87 = .ok (.iconst 3, 1) := by decide +kernel
theorem dX11_sheet_88 : decode cX11_sheet 88 = .ok (.if_icmp .eq 9, 3) := by decide +kernel
theorem dX11_sheet_91 : decode cX11_sheet 91 = .ok (.iload 6, 2) := by decide +kernel
theorem dX11_sheet_93 : decode cX11_sheet 93 = .ok (.iload_n 2, 1) := by decide +kernel
theorem dX11_sheet_94 : decode cX11_sheet 94 = .ok (.if_icmp .le 7, 3) := by decide +kernel
theorem dX11_sheet_97 : decode cX11_sheet 97 = .ok (.iconst 0, 1) := by decide +kernel
theorem dX11_sheet_98 : decode cX11_sheet 98 = .ok (.goto 14, 3) := by decide +kernel
theorem dX11_sheet_101 : decode cX11_sheet 101 = .ok (.iconst 0, 1) := by decide +kernel
theorem dX11_sheet_102 : decode cX11_sheet 102 = .ok (.bipush 9, 2) := by decide +kernel
theorem dX11_sheet_104 : decode cX11_sheet 104 = .ok (.iload 7, 2) := by decide +kernel
theorem dX11_sheet_106 : decode cX11_sheet 106 = .ok (.invokestatic 142, 3) := by decide +kernel
theorem dX11_sheet_109 : decode cX11_sheet 109 = .ok (.invokestatic 261, 3) := by decide +kernel
theorem dX11_sheet_112 : decode cX11_sheet 112 = .ok (.iastore, 1) := by decide +kernel
theorem dX11_sheet_113 : decode cX11_sheet 113 = .ok (.iload 5, 2) := by decide +kernel
theorem dX11_sheet_115 : decode cX11_sheet 115 = .ok (.iload 4, 2) := by decide +kernel
theorem dX11_sheet_117 : decode cX11_sheet 117 = .ok (.iadd, 1) := by decide +kernel
theorem dX11_sheet_118 : decode cX11_sheet 118 = .ok (.istore 5, 2) := by decide +kernel
theorem dX11_sheet_120 : decode cX11_sheet 120 = .ok (.iinc 6 1, 3) := by decide +kernel
theorem dX11_sheet_123 : decode cX11_sheet 123 = .ok (.goto (-80), 3) := by decide +kernel
theorem dX11_sheet_126 : decode cX11_sheet 126 = .ok (.iload_n 1, 1) := by decide +kernel
theorem dX11_sheet_127 : decode cX11_sheet 127 = .ok (.iconst 3, 1) := by decide +kernel
theorem dX11_sheet_128 : decode cX11_sheet 128 = .ok (.if_icmp .ne 8, 3) := by decide +kernel
theorem dX11_sheet_131 : decode cX11_sheet 131 = .ok (.bipush (-3), 2) := by decide +kernel
theorem dX11_sheet_133 : decode cX11_sheet 133 = .ok (.goto 11, 3) := by decide +kernel
theorem dX11_sheet_136 : decode cX11_sheet 136 = .ok (.aload_n 0, 1) := by decide +kernel
theorem dX11_sheet_137 : decode cX11_sheet 137 = .ok (.aload_n 0, 1) := by decide +kernel
theorem dX11_sheet_138 : decode cX11_sheet 138 = .ok (.getfield 38, 3) := by decide +kernel
theorem dX11_sheet_141 : decode cX11_sheet 141 = .ok (.invokevirtual 285, 3) := by decide +kernel
theorem dX11_sheet_144 : decode cX11_sheet 144 = .ok (.ireturn, 1) := by decide +kernel
theorem dX11_putsBy_0 : decode cX11_putsBy 0 = .ok (.iconst 0, 1) := by decide +kernel
theorem dX11_putsBy_1 : decode cX11_putsBy 1 = .ok (.istore_n 1, 1) := by decide +kernel
theorem dX11_putsBy_2 : decode cX11_putsBy 2 = .ok (.iload_n 1, 1) := by decide +kernel
theorem dX11_putsBy_3 : decode cX11_putsBy 3 = .ok (.bipush 17, 2) := by decide +kernel
theorem dX11_putsBy_5 : decode cX11_putsBy 5 = .ok (.if_icmp .ge 29, 3) := by decide +kernel
theorem dX11_putsBy_8 : decode cX11_putsBy 8 = .ok (.aload_n 0, 1) := by decide +kernel
theorem dX11_putsBy_9 : decode cX11_putsBy 9 = .ok (.getfield 68, 3) := by decide +kernel
theorem dX11_putsBy_12 : decode cX11_putsBy 12 = .ok (.bipush 17, 2) := by decide +kernel
theorem dX11_putsBy_14 : decode cX11_putsBy 14 = .ok (.aload_n 0, 1) := by decide +kernel
theorem dX11_putsBy_15 : decode cX11_putsBy 15 = .ok (.getfield 200, 3) := by decide +kernel
theorem dX11_putsBy_18 : decode cX11_putsBy 18 = .ok (.imul, 1) := by decide +kernel
theorem dX11_putsBy_19 : decode cX11_putsBy 19 = .ok (.iload_n 1, 1) := by decide +kernel
theorem dX11_putsBy_20 : decode cX11_putsBy 20 = .ok (.iadd, 1) := by decide +kernel
theorem dX11_putsBy_21 : decode cX11_putsBy 21 = .ok (.aload_n 0, 1) := by decide +kernel
theorem dX11_putsBy_22 : decode cX11_putsBy 22 = .ok (.getfield 38, 3) := by decide +kernel
theorem dX11_putsBy_25 : decode cX11_putsBy 25 = .ok (.iload_n 1, 1) := by decide +kernel
theorem dX11_putsBy_26 : decode cX11_putsBy 26 = .ok (.iaload, 1) := by decide +kernel
theorem dX11_putsBy_27 : decode cX11_putsBy 27 = .ok (.iastore, 1) := by decide +kernel
theorem dX11_putsBy_28 : decode cX11_putsBy 28 = .ok (.iinc 1 1, 3) := by decide +kernel
theorem dX11_putsBy_31 : decode cX11_putsBy 31 = .ok (.goto (-29), 3) := by decide +kernel
theorem dX11_putsBy_34 : decode cX11_putsBy 34 = .ok (.return_, 1) := by decide +kernel
theorem dX11_takesBack_0 : decode cX11_takesBack 0 = .ok (.iconst 0, 1) := by decide +kernel
theorem dX11_takesBack_1 : decode cX11_takesBack 1 = .ok (.istore_n 1, 1) := by decide +kernel
theorem dX11_takesBack_2 : decode cX11_takesBack 2 = .ok (.iload_n 1, 1) := by decide +kernel
theorem dX11_takesBack_3 : decode cX11_takesBack 3 = .ok (.bipush 17, 2) := by decide +kernel
theorem dX11_takesBack_5 : decode cX11_takesBack 5 = .ok (.if_icmp .ge 29, 3) := by decide +kernel
theorem dX11_takesBack_8 : decode cX11_takesBack 8 = .ok (.aload_n 0, 1) := by decide +kernel
theorem dX11_takesBack_9 : decode cX11_takesBack 9 = .ok (.getfield 38, 3) := by decide +kernel
theorem dX11_takesBack_12 : decode cX11_takesBack 12 = .ok (.iload_n 1, 1) := by decide +kernel
theorem dX11_takesBack_13 : decode cX11_takesBack 13 = .ok (.aload_n 0, 1) := by decide +kernel
theorem dX11_takesBack_14 : decode cX11_takesBack 14 = .ok (.getfield 68, 3) := by decide +kernel
theorem dX11_takesBack_17 : decode cX11_takesBack 17 = .ok (.bipush 17, 2) := by decide +kernel
theorem dX11_takesBack_19 : decode cX11_takesBack 19 = .ok (.aload_n 0, 1) := by decide +kernel
theorem dX11_takesBack_20 : decode cX11_takesBack 20 = .ok (.getfield 200, 3) := by decide +kernel
theorem dX11_takesBack_23 : decode cX11_takesBack 23 = .ok (.imul, 1) := by decide +kernel
theorem dX11_takesBack_24 : decode cX11_takesBack 24 = .ok (.iload_n 1, 1) := by decide +kernel
theorem dX11_takesBack_25 : decode cX11_takesBack 25 = .ok (.iadd, 1) := by decide +kernel
theorem dX11_takesBack_26 : decode cX11_takesBack 26 = .ok (.iaload, 1) := by decide +kernel
theorem dX11_takesBack_27 : decode cX11_takesBack 27 = .ok (.iastore, 1) := by decide +kernel
theorem dX11_takesBack_28 : decode cX11_takesBack 28 = .ok (.iinc 1 1, 3) := by decide +kernel
theorem dX11_takesBack_31 : decode cX11_takesBack 31 = .ok (.goto (-29), 3) := by decide +kernel
theorem dX11_takesBack_34 : decode cX11_takesBack 34 = .ok (.return_, 1) := by decide +kernel
theorem dX11_adds_0 : decode cX11_adds 0 = .ok (.aload_n 0, 1) := by decide +kernel
theorem dX11_adds_1 : decode cX11_adds 1 = .ok (.dup, 1) := by decide +kernel
theorem dX11_adds_2 : decode cX11_adds 2 = .ok (.getfield 200, 3) := by decide +kernel
theorem dX11_adds_5 : decode cX11_adds 5 = .ok (.iconst 1, 1) := by decide +kernel
theorem dX11_adds_6 : decode cX11_adds 6 = .ok (.iadd, 1) := by decide +kernel
theorem dX11_adds_7 : decode cX11_adds 7 = .ok (.putfield 200, 3) := by decide +kernel
theorem dX11_adds_10 : decode cX11_adds 10 = .ok (.aload_n 0, 1) := by decide +kernel
theorem dX11_adds_11 : decode cX11_adds 11 = .ok (.getfield 200, 3) := by decide +kernel
theorem dX11_adds_14 : decode cX11_adds 14 = .ok (.bipush 15, 2) := by decide +kernel
theorem dX11_adds_16 : decode cX11_adds 16 = .ok (.if_icmp .le 43, 3) := by decide +kernel
theorem dX11_adds_19 : decode cX11_adds 19 = .ok (.iconst 0, 1) := by decide +kernel
theorem dX11_adds_20 : decode cX11_adds 20 = .ok (.istore_n 2, 1) := by decide +kernel
theorem dX11_adds_21 : decode cX11_adds 21 = .ok (.iload_n 2, 1) := by decide +kernel
theorem dX11_adds_22 : decode cX11_adds 22 = .ok (.sipush 255, 3) := by decide +kernel
theorem dX11_adds_25 : decode cX11_adds 25 = .ok (.if_icmp .ge 24, 3) := by decide +kernel
theorem dX11_adds_28 : decode cX11_adds 28 = .ok (.aload_n 0, 1) := by decide +kernel
theorem dX11_adds_29 : decode cX11_adds 29 = .ok (.getfield 68, 3) := by decide +kernel
theorem dX11_adds_32 : decode cX11_adds 32 = .ok (.iload_n 2, 1) := by decide +kernel
theorem dX11_adds_33 : decode cX11_adds 33 = .ok (.aload_n 0, 1) := by decide +kernel
theorem dX11_adds_34 : decode cX11_adds 34 = .ok (.getfield 68, 3) := by decide +kernel
theorem dX11_adds_37 : decode cX11_adds 37 = .ok (.iload_n 2, 1) := by decide +kernel
theorem dX11_adds_38 : decode cX11_adds 38 = .ok (.bipush 17, 2) := by decide +kernel
theorem dX11_adds_40 : decode cX11_adds 40 = .ok (.iadd, 1) := by decide +kernel
theorem dX11_adds_41 : decode cX11_adds 41 = .ok (.iaload, 1) := by decide +kernel
theorem dX11_adds_42 : decode cX11_adds 42 = .ok (.iastore, 1) := by decide +kernel
theorem dX11_adds_43 : decode cX11_adds 43 = .ok (.iinc 2 1, 3) := by decide +kernel
theorem dX11_adds_46 : decode cX11_adds 46 = .ok (.goto (-25), 3) := by decide +kernel
theorem dX11_adds_49 : decode cX11_adds 49 = .ok (.aload_n 0, 1) := by decide +kernel
theorem dX11_adds_50 : decode cX11_adds 50 = .ok (.dup, 1) := by decide +kernel
theorem dX11_adds_51 : decode cX11_adds 51 = .ok (.getfield 200, 3) := by decide +kernel
theorem dX11_adds_54 : decode cX11_adds 54 = .ok (.iconst 1, 1) := by decide +kernel
theorem dX11_adds_55 : decode cX11_adds 55 = .ok (.isub, 1) := by decide +kernel
theorem dX11_adds_56 : decode cX11_adds 56 = .ok (.putfield 200, 3) := by decide +kernel
theorem dX11_adds_59 : decode cX11_adds 59 = .ok (.iload_n 1, 1) := by decide +kernel
theorem dX11_adds_60 : decode cX11_adds 60 = .ok (.ireturn, 1) := by decide +kernel
theorem dX11_counted_0 : decode cX11_counted 0 = .ok (.iload_n 1, 1) := by decide +kernel
theorem dX11_counted_1 : decode cX11_counted 1 = .ok (.ifCond .ge 7, 3) := by decide +kernel
theorem dX11_counted_4 : decode cX11_counted 4 = .ok (.iload_n 1, 1) := by decide +kernel
theorem dX11_counted_5 : decode cX11_counted 5 = .ok (.goto 8, 3) := by decide +kernel
theorem dX11_counted_8 : decode cX11_counted 8 = .ok (.aload_n 0, 1) := by decide +kernel
theorem dX11_counted_9 : decode cX11_counted 9 = .ok (.iload_n 1, 1) := by decide +kernel
theorem dX11_counted_10 : decode cX11_counted 10 = .ok (.invokevirtual 289, 3) := by decide +kernel
theorem dX11_counted_13 : decode cX11_counted 13 = .ok (.ireturn, 1) := by decide +kernel
theorem dX11_undo_0 : decode cX11_undo 0 = .ok (.aload_n 0, 1) := by decide +kernel
theorem dX11_undo_1 : decode cX11_undo 1 = .ok (.iconst 0, 1) := by decide +kernel
theorem dX11_undo_2 : decode cX11_undo 2 = .ok (.putfield 3, 3) := by decide +kernel
theorem dX11_undo_5 : decode cX11_undo 5 = .ok (.aload_n 0, 1) := by decide +kernel
theorem dX11_undo_6 : decode cX11_undo 6 = .ok (.getfield 200, 3) := by decide +kernel
theorem dX11_undo_9 : decode cX11_undo 9 = .ok (.ifCond .ne 5, 3) := by decide +kernel
theorem dX11_undo_12 : decode cX11_undo 12 = .ok (.iconst (-1), 1) := by decide +kernel
theorem dX11_undo_13 : decode cX11_undo 13 = .ok (.ireturn, 1) := by decide +kernel
theorem dX11_undo_14 : decode cX11_undo 14 = .ok (.aload_n 0, 1) := by decide +kernel
theorem dX11_undo_15 : decode cX11_undo 15 = .ok (.dup, 1) := by decide +kernel
theorem dX11_undo_16 : decode cX11_undo 16 = .ok (.getfield 200, 3) := by decide +kernel
theorem dX11_undo_19 : decode cX11_undo 19 = .ok (.iconst 1, 1) := by decide +kernel
theorem dX11_undo_20 : decode cX11_undo 20 = .ok (.isub, 1) := by decide +kernel
theorem dX11_undo_21 : decode cX11_undo 21 = .ok (.putfield 200, 3) := by decide +kernel
theorem dX11_undo_24 : decode cX11_undo 24 = .ok (.aload_n 0, 1) := by decide +kernel
theorem dX11_undo_25 : decode cX11_undo 25 = .ok (.invokevirtual 292, 3) := by decide +kernel
theorem dX11_undo_28 : decode cX11_undo 28 = .ok (.aload_n 0, 1) := by decide +kernel
theorem dX11_undo_29 : decode cX11_undo 29 = .ok (.getfield 200, 3) := by decide +kernel
theorem dX11_undo_32 : decode cX11_undo 32 = .ok (.ireturn, 1) := by decide +kernel
theorem dX11_comesTo_0 : decode cX11_comesTo 0 = .ok (.aload_n 0, 1) := by decide +kernel
theorem dX11_comesTo_1 : decode cX11_comesTo 1 = .ok (.bipush 8, 2) := by decide +kernel
theorem dX11_comesTo_3 : decode cX11_comesTo 3 = .ok (.iload_n 1, 1) := by decide +kernel
theorem dX11_comesTo_4 : decode cX11_comesTo 4 = .ok (.iadd, 1) := by decide +kernel
theorem dX11_comesTo_5 : decode cX11_comesTo 5 = .ok (.iload_n 1, 1) := by decide +kernel
theorem dX11_comesTo_6 : decode cX11_comesTo 6 = .ok (.ifCond .ne 18, 3) := by decide +kernel
theorem dX11_comesTo_9 : decode cX11_comesTo 9 = .ok (.sipush 9999, 3) := by decide +kernel
theorem dX11_comesTo_12 : decode cX11_comesTo 12 = .ok (.aload_n 0, 1) := by decide +kernel
theorem dX11_comesTo_13 : decode cX11_comesTo 13 = .ok (.bipush 8, 2) := by decide +kernel
theorem dX11_comesTo_15 : decode cX11_comesTo 15 = .ok (.iaload, 1) := by decide +kernel
theorem dX11_comesTo_16 : decode cX11_comesTo 16 = .ok (.iconst 1, 1) := by decide +kernel
theorem dX11_comesTo_17 : decode cX11_comesTo 17 = .ok (.iadd, 1) := by decide +kernel
theorem dX11_comesTo_18 : decode cX11_comesTo 18 = .ok (.invokestatic 142, 3) := by decide +kernel
theorem dX11_comesTo_21 : decode cX11_comesTo 21 = .ok (.goto 11, 3) := by decide +kernel
theorem dX11_comesTo_24 : decode cX11_comesTo 24 = .ok (.aload_n 0, 1) := by decide +kernel
theorem dX11_comesTo_25 : decode cX11_comesTo 25 = .ok (.bipush 8, 2) := by decide +kernel
theorem dX11_comesTo_27 : decode cX11_comesTo 27 = .ok (.iload_n 1, 1) := by decide +kernel
theorem dX11_comesTo_28 : decode cX11_comesTo 28 = .ok (.iadd, 1) := by decide +kernel
theorem dX11_comesTo_29 : decode cX11_comesTo 29 = .ok (.iaload, 1) := by decide +kernel
theorem dX11_comesTo_30 : decode cX11_comesTo 30 = .ok (.iconst 1, 1) := by decide +kernel
theorem dX11_comesTo_31 : decode cX11_comesTo 31 = .ok (.iadd, 1) := by decide +kernel
theorem dX11_comesTo_32 : decode cX11_comesTo 32 = .ok (.iastore, 1) := by decide +kernel
theorem dX11_comesTo_33 : decode cX11_comesTo 33 = .ok (.return_, 1) := by decide +kernel
theorem dX11_turnsPost_0 : decode cX11_turnsPost 0 = .ok (.aload_n 0, 1) := by decide +kernel
theorem dX11_turnsPost_1 : decode cX11_turnsPost 1 = .ok (.iload_n 2, 1) := by decide +kernel
theorem dX11_turnsPost_2 : decode cX11_turnsPost 2 = .ok (.aload_n 1, 1) := by decide +kernel
theorem dX11_turnsPost_3 : decode cX11_turnsPost 3 = .ok (.iload_n 2, 1) := by decide +kernel
theorem dX11_turnsPost_4 : decode cX11_turnsPost 4 = .ok (.iaload, 1) := by decide +kernel
theorem dX11_turnsPost_5 : decode cX11_turnsPost 5 = .ok (.invokevirtual 255, 3) := by decide +kernel
theorem dX11_turnsPost_8 : decode cX11_turnsPost 8 = .ok (.istore_n 3, 1) := by decide +kernel
theorem dX11_turnsPost_9 : decode cX11_turnsPost 9 = .ok (.aload_n 1, 1) := by decide +kernel
theorem dX11_turnsPost_10 : decode cX11_turnsPost 10 = .ok (.iload_n 2, 1) := by decide +kernel
theorem dX11_turnsPost_11 : decode cX11_turnsPost 11 = .ok (.aload_n 1, 1) := by decide +kernel
theorem dX11_turnsPost_12 : decode cX11_turnsPost 12 = .ok (.iload_n 2, 1) := by decide +kernel
theorem dX11_turnsPost_13 : decode cX11_turnsPost 13 = .ok (.iaload, 1) := by decide +kernel
theorem dX11_turnsPost_14 : decode cX11_turnsPost 14 = .ok (.aload_n 0, 1) := by decide +kernel
theorem dX11_turnsPost_15 : decode cX11_turnsPost 15 = .ok (.aload_n 1, 1) := by decide +kernel
theorem dX11_turnsPost_16 : decode cX11_turnsPost 16 = .ok (.iload_n 2, 1) := by decide +kernel
theorem dX11_turnsPost_17 : decode cX11_turnsPost 17 = .ok (.invokevirtual 276, 3) := by decide +kernel
theorem dX11_turnsPost_20 : decode cX11_turnsPost 20 = .ok (.iadd, 1) := by decide +kernel
theorem dX11_turnsPost_21 : decode cX11_turnsPost 21 = .ok (.aload_n 0, 1) := by decide +kernel
theorem dX11_turnsPost_22 : decode cX11_turnsPost 22 = .ok (.getfield 31, 3) := by decide +kernel
theorem dX11_turnsPost_25 : decode cX11_turnsPost 25 = .ok (.iload_n 2, 1) := by decide +kernel
theorem dX11_turnsPost_26 : decode cX11_turnsPost 26 = .ok (.iaload, 1) := by decide +kernel
theorem dX11_turnsPost_27 : decode cX11_turnsPost 27 = .ok (.irem, 1) := by decide +kernel
theorem dX11_turnsPost_28 : decode cX11_turnsPost 28 = .ok (.iastore, 1) := by decide +kernel
theorem dX11_turnsPost_29 : decode cX11_turnsPost 29 = .ok (.aload_n 1, 1) := by decide +kernel
theorem dX11_turnsPost_30 : decode cX11_turnsPost 30 = .ok (.bipush 16, 2) := by decide +kernel
theorem dX11_turnsPost_32 : decode cX11_turnsPost 32 = .ok (.ldc_w 295, 3) := by decide +kernel
theorem dX11_turnsPost_35 : decode cX11_turnsPost 35 = .ok (.aload_n 1, 1) := by decide +kernel
theorem dX11_turnsPost_36 : decode cX11_turnsPost 36 = .ok (.bipush 16, 2) := by decide +kernel
theorem dX11_turnsPost_38 : decode cX11_turnsPost 38 = .ok (.iaload, 1) := by decide +kernel
theorem dX11_turnsPost_39 : decode cX11_turnsPost 39 = .ok (.iconst 1, 1) := by decide +kernel
theorem dX11_turnsPost_40 : decode cX11_turnsPost 40 = .ok (.iadd, 1) := by decide +kernel
theorem dX11_turnsPost_41 : decode cX11_turnsPost 41 = .ok (.invokestatic 142, 3) := by decide +kernel
theorem dX11_turnsPost_44 : decode cX11_turnsPost 44 = .ok (.iastore, 1) := by decide +kernel
theorem dX11_turnsPost_45 : decode cX11_turnsPost 45 = .ok (.iload_n 3, 1) := by decide +kernel
theorem dX11_turnsPost_46 : decode cX11_turnsPost 46 = .ok (.ireturn, 1) := by decide +kernel
theorem dX11_stepFrom_0 : decode cX11_stepFrom 0 = .ok (.aload_n 1, 1) := by decide +kernel
theorem dX11_stepFrom_1 : decode cX11_stepFrom 1 = .ok (.bipush 8, 2) := by decide +kernel
theorem dX11_stepFrom_3 : decode cX11_stepFrom 3 = .ok (.iload_n 2, 1) := by decide +kernel
theorem dX11_stepFrom_4 : decode cX11_stepFrom 4 = .ok (.iadd, 1) := by decide +kernel
theorem dX11_stepFrom_5 : decode cX11_stepFrom 5 = .ok (.dup2, 1) := by decide +kernel
theorem dX11_stepFrom_6 : decode cX11_stepFrom 6 = .ok (.iaload, 1) := by decide +kernel
theorem dX11_stepFrom_7 : decode cX11_stepFrom 7 = .ok (.iconst 1, 1) := by decide +kernel
theorem dX11_stepFrom_8 : decode cX11_stepFrom 8 = .ok (.isub, 1) := by decide +kernel
theorem dX11_stepFrom_9 : decode cX11_stepFrom 9 = .ok (.iastore, 1) := by decide +kernel
theorem dX11_stepFrom_10 : decode cX11_stepFrom 10 = .ok (.aload_n 0, 1) := by decide +kernel
theorem dX11_stepFrom_11 : decode cX11_stepFrom 11 = .ok (.aload_n 1, 1) := by decide +kernel
theorem dX11_stepFrom_12 : decode cX11_stepFrom 12 = .ok (.iload_n 2, 1) := by decide +kernel
theorem dX11_stepFrom_13 : decode cX11_stepFrom 13 = .ok (.invokevirtual 296, 3) := by decide +kernel
theorem dX11_stepFrom_16 : decode cX11_stepFrom 16 = .ok (.istore_n 3, 1) := by decide +kernel
theorem dX11_stepFrom_17 : decode cX11_stepFrom 17 = .ok (.aload_n 1, 1) := by decide +kernel
theorem dX11_stepFrom_18 : decode cX11_stepFrom 18 = .ok (.iload_n 3, 1) := by decide +kernel
theorem dX11_stepFrom_19 : decode cX11_stepFrom 19 = .ok (.invokestatic 299, 3) := by decide +kernel
theorem dX11_stepFrom_22 : decode cX11_stepFrom 22 = .ok (.iload_n 3, 1) := by decide +kernel
theorem dX11_stepFrom_23 : decode cX11_stepFrom 23 = .ok (.ireturn, 1) := by decide +kernel
theorem dX11_comesMany_0 : decode cX11_comesMany 0 = .ok (.aload_n 0, 1) := by decide +kernel
theorem dX11_comesMany_1 : decode cX11_comesMany 1 = .ok (.iload_n 2, 1) := by decide +kernel
theorem dX11_comesMany_2 : decode cX11_comesMany 2 = .ok (.invokevirtual 280, 3) := by decide +kernel
theorem dX11_comesMany_5 : decode cX11_comesMany 5 = .ok (.ifCond .eq 15, 3) := by decide +kernel
theorem dX11_comesMany_8 : decode cX11_comesMany 8 = .ok (.iload_n 3, 1) := by decide +kernel
theorem dX11_comesMany_9 : decode cX11_comesMany 9 = .ok (.i2l, 1) := by decide +kernel
theorem dX11_comesMany_10 : decode cX11_comesMany 10 = .ok (.lconst 1, 1) := by decide +kernel
theorem dX11_comesMany_11 : decode cX11_comesMany 11 = .ok (.ldc2_w 302, 3) := by decide +kernel
theorem dX11_comesMany_14 : decode cX11_comesMany 14 = .ok (.invokestatic 129, 3) := by decide +kernel
theorem dX11_comesMany_17 : decode cX11_comesMany 17 = .ok (.ifCond .ne 5, 3) := by decide +kernel
theorem dX11_comesMany_20 : decode cX11_comesMany 20 = .ok (.iconst (-1), 1) := by decide +kernel
theorem dX11_comesMany_21 : decode cX11_comesMany 21 = .ok (.ireturn, 1) := by decide +kernel
theorem dX11_comesMany_22 : decode cX11_comesMany 22 = .ok (.aload_n 1, 1) := by decide +kernel
theorem dX11_comesMany_23 : decode cX11_comesMany 23 = .ok (.bipush 8, 2) := by decide +kernel
theorem dX11_comesMany_25 : decode cX11_comesMany 25 = .ok (.iload_n 2, 1) := by decide +kernel
theorem dX11_comesMany_26 : decode cX11_comesMany 26 = .ok (.iadd, 1) := by decide +kernel
theorem dX11_comesMany_27 : decode cX11_comesMany 27 = .ok (.iaload, 1) := by decide +kernel
theorem dX11_comesMany_28 : decode cX11_comesMany 28 = .ok (.iload_n 3, 1) := by decide +kernel
theorem dX11_comesMany_29 : decode cX11_comesMany 29 = .ok (.iadd, 1) := by decide +kernel
theorem dX11_comesMany_30 : decode cX11_comesMany 30 = .ok (.bipush 99, 2) := by decide +kernel
theorem dX11_comesMany_32 : decode cX11_comesMany 32 = .ok (.if_icmp .le 6, 3) := by decide +kernel
theorem dX11_comesMany_35 : decode cX11_comesMany 35 = .ok (.bipush (-2), 2) := by decide +kernel
theorem dX11_comesMany_37 : decode cX11_comesMany 37 = .ok (.ireturn, 1) := by decide +kernel
theorem dX11_comesMany_38 : decode cX11_comesMany 38 = .ok (.aload_n 1, 1) := by decide +kernel
theorem dX11_comesMany_39 : decode cX11_comesMany 39 = .ok (.bipush 8, 2) := by decide +kernel
theorem dX11_comesMany_41 : decode cX11_comesMany 41 = .ok (.iload_n 2, 1) := by decide +kernel
theorem dX11_comesMany_42 : decode cX11_comesMany 42 = .ok (.iadd, 1) := by decide +kernel
theorem dX11_comesMany_43 : decode cX11_comesMany 43 = .ok (.dup2, 1) := by decide +kernel
theorem dX11_comesMany_44 : decode cX11_comesMany 44 = .ok (.iaload, 1) := by decide +kernel
theorem dX11_comesMany_45 : decode cX11_comesMany 45 = .ok (.iload_n 3, 1) := by decide +kernel
theorem dX11_comesMany_46 : decode cX11_comesMany 46 = .ok (.iadd, 1) := by decide +kernel
theorem dX11_comesMany_47 : decode cX11_comesMany 47 = .ok (.iastore, 1) := by decide +kernel
theorem dX11_comesMany_48 : decode cX11_comesMany 48 = .ok (.aload_n 1, 1) := by decide +kernel
theorem dX11_comesMany_49 : decode cX11_comesMany 49 = .ok (.bipush 8, 2) := by decide +kernel
theorem dX11_comesMany_51 : decode cX11_comesMany 51 = .ok (.iload_n 2, 1) := by decide +kernel
theorem dX11_comesMany_52 : decode cX11_comesMany 52 = .ok (.iadd, 1) := by decide +kernel
theorem dX11_comesMany_53 : decode cX11_comesMany 53 = .ok (.iaload, 1) := by decide +kernel
theorem dX11_comesMany_54 : decode cX11_comesMany 54 = .ok (.ireturn, 1) := by decide +kernel
theorem dX11_goesOne_0 : decode cX11_goesOne 0 = .ok (.aload_n 0, 1) := by decide +kernel
theorem dX11_goesOne_1 : decode cX11_goesOne 1 = .ok (.iload_n 2, 1) := by decide +kernel
theorem dX11_goesOne_2 : decode cX11_goesOne 2 = .ok (.invokevirtual 280, 3) := by decide +kernel
theorem dX11_goesOne_5 : decode cX11_goesOne 5 = .ok (.ifCond .ne 5, 3) := by decide +kernel
theorem dX11_goesOne_8 : decode cX11_goesOne 8 = .ok (.iconst (-1), 1) := by decide +kernel
theorem dX11_goesOne_9 : decode cX11_goesOne 9 = .ok (.ireturn, 1) := by decide +kernel
theorem dX11_goesOne_10 : decode cX11_goesOne 10 = .ok (.aload_n 1, 1) := by decide +kernel
theorem dX11_goesOne_11 : decode cX11_goesOne 11 = .ok (.bipush 8, 2) := by decide +kernel
theorem dX11_goesOne_13 : decode cX11_goesOne 13 = .ok (.iload_n 2, 1) := by decide +kernel
theorem dX11_goesOne_14 : decode cX11_goesOne 14 = .ok (.iadd, 1) := by decide +kernel
theorem dX11_goesOne_15 : decode cX11_goesOne 15 = .ok (.iaload, 1) := by decide +kernel
theorem dX11_goesOne_16 : decode cX11_goesOne 16 = .ok (.ifCond .ne 8, 3) := by decide +kernel
theorem dX11_goesOne_19 : decode cX11_goesOne 19 = .ok (.bipush (-2), 2) := by decide +kernel
theorem dX11_goesOne_21 : decode cX11_goesOne 21 = .ok (.goto 9, 3) := by decide +kernel
theorem dX11_goesOne_24 : decode cX11_goesOne 24 = .ok (.aload_n 0, 1) := by decide +kernel
theorem dX11_goesOne_25 : decode cX11_goesOne 25 = .ok (.aload_n 1, 1) := by decide +kernel
theorem dX11_goesOne_26 : decode cX11_goesOne 26 = .ok (.iload_n 2, 1) := by decide +kernel
theorem dX11_goesOne_27 : decode cX11_goesOne 27 = .ok (.invokevirtual 304, 3) := by decide +kernel
theorem dX11_goesOne_30 : decode cX11_goesOne 30 = .ok (.ireturn, 1) := by decide +kernel
theorem dX11_walksOne_0 : decode cX11_walksOne 0 = .ok (.aload_n 0, 1) := by decide +kernel
theorem dX11_walksOne_1 : decode cX11_walksOne 1 = .ok (.iload_n 1, 1) := by decide +kernel
theorem dX11_walksOne_2 : decode cX11_walksOne 2 = .ok (.invokevirtual 280, 3) := by decide +kernel
theorem dX11_walksOne_5 : decode cX11_walksOne 5 = .ok (.ifCond .ne 5, 3) := by decide +kernel
theorem dX11_walksOne_8 : decode cX11_walksOne 8 = .ok (.iconst (-1), 1) := by decide +kernel
theorem dX11_walksOne_9 : decode cX11_walksOne 9 = .ok (.ireturn, 1) := by decide +kernel
theorem dX11_walksOne_10 : decode cX11_walksOne 10 = .ok (.aload_n 0, 1) := by decide +kernel
theorem dX11_walksOne_11 : decode cX11_walksOne 11 = .ok (.getfield 38, 3) := by decide +kernel
theorem dX11_walksOne_14 : decode cX11_walksOne 14 = .ok (.bipush 8, 2) := by decide +kernel
theorem dX11_walksOne_16 : decode cX11_walksOne 16 = .ok (.iload_n 1, 1) := by decide +kernel
theorem dX11_walksOne_17 : decode cX11_walksOne 17 = .ok (.iadd, 1) := by decide +kernel
theorem dX11_walksOne_18 : decode cX11_walksOne 18 = .ok (.iaload, 1) := by decide +kernel
theorem dX11_walksOne_19 : decode cX11_walksOne 19 = .ok (.ifCond .ne 6, 3) := by decide +kernel
theorem dX11_walksOne_22 : decode cX11_walksOne 22 = .ok (.bipush (-2), 2) := by decide +kernel
theorem dX11_walksOne_24 : decode cX11_walksOne 24 = .ok (.ireturn, 1) := by decide +kernel
theorem dX11_walksOne_25 : decode cX11_walksOne 25 = .ok (.aload_n 0, 1) := by decide +kernel
theorem dX11_walksOne_26 : decode cX11_walksOne 26 = .ok (.getfield 41, 3) := by decide +kernel
theorem dX11_walksOne_29 : decode cX11_walksOne 29 = .ok (.aload_n 0, 1) := by decide +kernel
theorem dX11_walksOne_30 : decode cX11_walksOne 30 = .ok (.getfield 38, 3) := by decide +kernel
theorem dX11_walksOne_33 : decode cX11_walksOne 33 = .ok (.invokestatic 307, 3) := by decide +kernel
theorem dX11_walksOne_36 : decode cX11_walksOne 36 = .ok (.aload_n 0, 1) := by decide +kernel
theorem dX11_walksOne_37 : decode cX11_walksOne 37 = .ok (.iconst 1, 1) := by decide +kernel
theorem dX11_walksOne_38 : decode cX11_walksOne 38 = .ok (.iload_n 1, 1) := by decide +kernel
theorem dX11_walksOne_39 : decode cX11_walksOne 39 = .ok (.ishl, 1) := by decide +kernel
theorem dX11_walksOne_40 : decode cX11_walksOne 40 = .ok (.putfield 311, 3) := by decide +kernel
theorem dX11_walksOne_43 : decode cX11_walksOne 43 = .ok (.iload_n 1, 1) := by decide +kernel
theorem dX11_walksOne_44 : decode cX11_walksOne 44 = .ok (.istore_n 2, 1) := by decide +kernel
theorem dX11_walksOne_45 : decode cX11_walksOne 45 = .ok (.iconst 0, 1) := by decide +kernel
theorem dX11_walksOne_46 : decode cX11_walksOne 46 = .ok (.istore_n 3, 1) := by decide +kernel
theorem dX11_walksOne_47 : decode cX11_walksOne 47 = .ok (.iload_n 2, 1) := by decide +kernel
theorem dX11_walksOne_48 : decode cX11_walksOne 48 = .ok (.ifCond .le 38, 3) := by decide +kernel
theorem dX11_walksOne_51 : decode cX11_walksOne 51 = .ok (.iload_n 3, 1) := by decide +kernel
theorem dX11_walksOne_52 : decode cX11_walksOne 52 = .ok (.sipush 999, 3) := by decide +kernel
theorem dX11_walksOne_55 : decode cX11_walksOne 55 = .ok (.if_icmp .ge 31, 3) := by decide +kernel
theorem dX11_walksOne_58 : decode cX11_walksOne 58 = .ok (.aload_n 0, 1) := by decide +kernel
theorem dX11_walksOne_59 : decode cX11_walksOne 59 = .ok (.aload_n 0, 1) := by decide +kernel
theorem dX11_walksOne_60 : decode cX11_walksOne 60 = .ok (.getfield 38, 3) := by decide +kernel
theorem dX11_walksOne_63 : decode cX11_walksOne 63 = .ok (.iload_n 2, 1) := by decide +kernel
theorem dX11_walksOne_64 : decode cX11_walksOne 64 = .ok (.invokevirtual 304, 3) := by decide +kernel
theorem dX11_walksOne_67 : decode cX11_walksOne 67 = .ok (.istore_n 2, 1) := by decide +kernel
theorem dX11_walksOne_68 : decode cX11_walksOne 68 = .ok (.aload_n 0, 1) := by decide +kernel
theorem dX11_walksOne_69 : decode cX11_walksOne 69 = .ok (.dup, 1) := by decide +kernel
theorem dX11_walksOne_70 : decode cX11_walksOne 70 = .ok (.getfield 311, 3) := by decide +kernel
theorem dX11_walksOne_73 : decode cX11_walksOne 73 = .ok (.iconst 1, 1) := by decide +kernel
theorem dX11_walksOne_74 : decode cX11_walksOne 74 = .ok (.iload_n 2, 1) := by decide +kernel
theorem dX11_walksOne_75 : decode cX11_walksOne 75 = .ok (.ishl, 1) := by decide +kernel
theorem dX11_walksOne_76 : decode cX11_walksOne 76 = .ok (.ior, 1) := by decide +kernel
theorem dX11_walksOne_77 : decode cX11_walksOne 77 = .ok (.putfield 311, 3) := by decide +kernel
theorem dX11_walksOne_80 : decode cX11_walksOne 80 = .ok (.iinc 3 1, 3) := by decide +kernel
theorem dX11_walksOne_83 : decode cX11_walksOne 83 = .ok (.goto (-36), 3) := by decide +kernel
theorem dX11_walksOne_86 : decode cX11_walksOne 86 = .ok (.iload_n 2, 1) := by decide +kernel
theorem dX11_walksOne_87 : decode cX11_walksOne 87 = .ok (.ifCond .le 17, 3) := by decide +kernel
theorem dX11_walksOne_90 : decode cX11_walksOne 90 = .ok (.aload_n 0, 1) := by decide +kernel
theorem dX11_walksOne_91 : decode cX11_walksOne 91 = .ok (.getfield 38, 3) := by decide +kernel
theorem dX11_walksOne_94 : decode cX11_walksOne 94 = .ok (.aload_n 0, 1) := by decide +kernel
theorem dX11_walksOne_95 : decode cX11_walksOne 95 = .ok (.getfield 41, 3) := by decide +kernel
theorem dX11_walksOne_98 : decode cX11_walksOne 98 = .ok (.invokestatic 307, 3) := by decide +kernel
theorem dX11_walksOne_101 : decode cX11_walksOne 101 = .ok (.bipush (-3), 2) := by decide +kernel
theorem dX11_walksOne_103 : decode cX11_walksOne 103 = .ok (.ireturn, 1) := by decide +kernel
theorem dX11_walksOne_104 : decode cX11_walksOne 104 = .ok (.iload_n 3, 1) := by decide +kernel
theorem dX11_walksOne_105 : decode cX11_walksOne 105 = .ok (.ireturn, 1) := by decide +kernel
theorem dX11_burstsBy_0 : decode cX11_burstsBy 0 = .ok (.aload_n 1, 1) := by decide +kernel
theorem dX11_burstsBy_1 : decode cX11_burstsBy 1 = .ok (.bipush 8, 2) := by decide +kernel
theorem dX11_burstsBy_3 : decode cX11_burstsBy 3 = .ok (.iload_n 2, 1) := by decide +kernel
theorem dX11_burstsBy_4 : decode cX11_burstsBy 4 = .ok (.iadd, 1) := by decide +kernel
theorem dX11_burstsBy_5 : decode cX11_burstsBy 5 = .ok (.dup2, 1) := by decide +kernel
theorem dX11_burstsBy_6 : decode cX11_burstsBy 6 = .ok (.iaload, 1) := by decide +kernel
theorem dX11_burstsBy_7 : decode cX11_burstsBy 7 = .ok (.aload_n 0, 1) := by decide +kernel
theorem dX11_burstsBy_8 : decode cX11_burstsBy 8 = .ok (.getfield 31, 3) := by decide +kernel
theorem dX11_burstsBy_11 : decode cX11_burstsBy 11 = .ok (.iload_n 2, 1) := by decide +kernel
theorem dX11_burstsBy_12 : decode cX11_burstsBy 12 = .ok (.iaload, 1) := by decide +kernel
theorem dX11_burstsBy_13 : decode cX11_burstsBy 13 = .ok (.isub, 1) := by decide +kernel
theorem dX11_burstsBy_14 : decode cX11_burstsBy 14 = .ok (.iastore, 1) := by decide +kernel
theorem dX11_burstsBy_15 : decode cX11_burstsBy 15 = .ok (.iconst 0, 1) := by decide +kernel
theorem dX11_burstsBy_16 : decode cX11_burstsBy 16 = .ok (.istore_n 3, 1) := by decide +kernel
theorem dX11_burstsBy_17 : decode cX11_burstsBy 17 = .ok (.iload_n 3, 1) := by decide +kernel
theorem dX11_burstsBy_18 : decode cX11_burstsBy 18 = .ok (.aload_n 0, 1) := by decide +kernel
theorem dX11_burstsBy_19 : decode cX11_burstsBy 19 = .ok (.getfield 31, 3) := by decide +kernel
theorem dX11_burstsBy_22 : decode cX11_burstsBy 22 = .ok (.iload_n 2, 1) := by decide +kernel
theorem dX11_burstsBy_23 : decode cX11_burstsBy 23 = .ok (.iaload, 1) := by decide +kernel
theorem dX11_burstsBy_24 : decode cX11_burstsBy 24 = .ok (.if_icmp .ge 19, 3) := by decide +kernel
theorem dX11_burstsBy_27 : decode cX11_burstsBy 27 = .ok (.aload_n 1, 1) := by decide +kernel
theorem dX11_burstsBy_28 : decode cX11_burstsBy 28 = .ok (.aload_n 0, 1) := by decide +kernel
theorem dX11_burstsBy_29 : decode cX11_burstsBy 29 = .ok (.iload_n 2, 1) := by decide +kernel
theorem dX11_burstsBy_30 : decode cX11_burstsBy 30 = .ok (.iload_n 3, 1) := by decide +kernel
theorem dX11_burstsBy_31 : decode cX11_burstsBy 31 = .ok (.invokevirtual 255, 3) := by decide +kernel
theorem dX11_burstsBy_34 : decode cX11_burstsBy 34 = .ok (.invokestatic 299, 3) := by decide +kernel
theorem dX11_burstsBy_37 : decode cX11_burstsBy 37 = .ok (.iinc 3 1, 3) := by decide +kernel
theorem dX11_burstsBy_40 : decode cX11_burstsBy 40 = .ok (.goto (-23), 3) := by decide +kernel
theorem dX11_burstsBy_43 : decode cX11_burstsBy 43 = .ok (.return_, 1) := by decide +kernel
theorem dX11_burstsOne_0 : decode cX11_burstsOne 0 = .ok (.aload_n 0, 1) := by decide +kernel
theorem dX11_burstsOne_1 : decode cX11_burstsOne 1 = .ok (.iload_n 2, 1) := by decide +kernel
theorem dX11_burstsOne_2 : decode cX11_burstsOne 2 = .ok (.invokevirtual 280, 3) := by decide +kernel
theorem dX11_burstsOne_5 : decode cX11_burstsOne 5 = .ok (.ifCond .ne 5, 3) := by decide +kernel
theorem dX11_burstsOne_8 : decode cX11_burstsOne 8 = .ok (.iconst (-1), 1) := by decide +kernel
theorem dX11_burstsOne_9 : decode cX11_burstsOne 9 = .ok (.ireturn, 1) := by decide +kernel
theorem dX11_burstsOne_10 : decode cX11_burstsOne 10 = .ok (.aload_n 1, 1) := by decide +kernel
theorem dX11_burstsOne_11 : decode cX11_burstsOne 11 = .ok (.bipush 8, 2) := by decide +kernel
theorem dX11_burstsOne_13 : decode cX11_burstsOne 13 = .ok (.iload_n 2, 1) := by decide +kernel
theorem dX11_burstsOne_14 : decode cX11_burstsOne 14 = .ok (.iadd, 1) := by decide +kernel
theorem dX11_burstsOne_15 : decode cX11_burstsOne 15 = .ok (.iaload, 1) := by decide +kernel
theorem dX11_burstsOne_16 : decode cX11_burstsOne 16 = .ok (.aload_n 0, 1) := by decide +kernel
theorem dX11_burstsOne_17 : decode cX11_burstsOne 17 = .ok (.getfield 31, 3) := by decide +kernel
theorem dX11_burstsOne_20 : decode cX11_burstsOne 20 = .ok (.iload_n 2, 1) := by decide +kernel
theorem dX11_burstsOne_21 : decode cX11_burstsOne 21 = .ok (.iaload, 1) := by decide +kernel
theorem dX11_burstsOne_22 : decode cX11_burstsOne 22 = .ok (.if_icmp .ge 6, 3) := by decide +kernel
theorem dX11_burstsOne_25 : decode cX11_burstsOne 25 = .ok (.bipush (-2), 2) := by decide +kernel
theorem dX11_burstsOne_27 : decode cX11_burstsOne 27 = .ok (.ireturn, 1) := by decide +kernel
theorem dX11_burstsOne_28 : decode cX11_burstsOne 28 = .ok (.aload_n 0, 1) := by decide +kernel
theorem dX11_burstsOne_29 : decode cX11_burstsOne 29 = .ok (.aload_n 1, 1) := by decide +kernel
theorem dX11_burstsOne_30 : decode cX11_burstsOne 30 = .ok (.iload_n 2, 1) := by decide +kernel
theorem dX11_burstsOne_31 : decode cX11_burstsOne 31 = .ok (.invokevirtual 314, 3) := by decide +kernel
theorem dX11_burstsOne_34 : decode cX11_burstsOne 34 = .ok (.aload_n 1, 1) := by decide +kernel
theorem dX11_burstsOne_35 : decode cX11_burstsOne 35 = .ok (.bipush 8, 2) := by decide +kernel
theorem dX11_burstsOne_37 : decode cX11_burstsOne 37 = .ok (.iload_n 2, 1) := by decide +kernel
theorem dX11_burstsOne_38 : decode cX11_burstsOne 38 = .ok (.iadd, 1) := by decide +kernel
theorem dX11_burstsOne_39 : decode cX11_burstsOne 39 = .ok (.iaload, 1) := by decide +kernel
theorem dX11_burstsOne_40 : decode cX11_burstsOne 40 = .ok (.ireturn, 1) := by decide +kernel
theorem dX11_calmed_0 : decode cX11_calmed 0 = .ok (.iconst 0, 1) := by decide +kernel
theorem dX11_calmed_1 : decode cX11_calmed 1 = .ok (.istore_n 2, 1) := by decide +kernel
theorem dX11_calmed_2 : decode cX11_calmed 2 = .ok (.iconst 0, 1) := by decide +kernel
theorem dX11_calmed_3 : decode cX11_calmed 3 = .ok (.istore_n 3, 1) := by decide +kernel
theorem dX11_calmed_4 : decode cX11_calmed 4 = .ok (.iload_n 3, 1) := by decide +kernel
theorem dX11_calmed_5 : decode cX11_calmed 5 = .ok (.bipush 8, 2) := by decide +kernel
theorem dX11_calmed_7 : decode cX11_calmed 7 = .ok (.if_icmp .ge 16, 3) := by decide +kernel
theorem dX11_calmed_10 : decode cX11_calmed 10 = .ok (.aload_n 0, 1) := by decide +kernel
theorem dX11_calmed_11 : decode cX11_calmed 11 = .ok (.getfield 71, 3) := by decide +kernel
theorem dX11_calmed_14 : decode cX11_calmed 14 = .ok (.iload_n 3, 1) := by decide +kernel
theorem dX11_calmed_15 : decode cX11_calmed 15 = .ok (.iconst 0, 1) := by decide +kernel
theorem dX11_calmed_16 : decode cX11_calmed 16 = .ok (.iastore, 1) := by decide +kernel
theorem dX11_calmed_17 : decode cX11_calmed 17 = .ok (.iinc 3 1, 3) := by decide +kernel
theorem dX11_calmed_20 : decode cX11_calmed 20 = .ok (.goto (-16), 3) := by decide +kernel
theorem dX11_calmed_23 : decode cX11_calmed 23 = .ok (.iconst 1, 1) := by decide +kernel
theorem dX11_calmed_24 : decode cX11_calmed 24 = .ok (.istore_n 3, 1) := by decide +kernel
theorem dX11_calmed_25 : decode cX11_calmed 25 = .ok (.iload_n 3, 1) := by decide +kernel
theorem dX11_calmed_26 : decode cX11_calmed 26 = .ok (.ifCond .eq 79, 3) := by decide +kernel
theorem dX11_calmed_29 : decode cX11_calmed 29 = .ok (.iconst 0, 1) := by decide +kernel
theorem dX11_calmed_30 : decode cX11_calmed 30 = .ok (.istore_n 3, 1) := by decide +kernel
theorem dX11_calmed_31 : decode cX11_calmed 31 = .ok (.iconst 1, 1) := by decide +kernel
theorem dX11_calmed_32 : decode cX11_calmed 32 = .ok (.istore 4, 2) := by decide +kernel
theorem dX11_calmed_34 : decode cX11_calmed 34 = .ok (.iload 4, 2) := by decide +kernel
theorem dX11_calmed_36 : decode cX11_calmed 36 = .ok (.aload_n 0, 1) := by decide +kernel
theorem dX11_calmed_37 : decode cX11_calmed 37 = .ok (.getfield 28, 3) := by decide +kernel
theorem dX11_calmed_40 : decode cX11_calmed 40 = .ok (.if_icmp .ge 62, 3) := by decide +kernel
theorem dX11_calmed_43 : decode cX11_calmed 43 = .ok (.aload_n 1, 1) := by decide +kernel
theorem dX11_calmed_44 : decode cX11_calmed 44 = .ok (.bipush 8, 2) := by decide +kernel
theorem dX11_calmed_46 : decode cX11_calmed 46 = .ok (.iload 4, 2) := by decide +kernel
theorem dX11_calmed_48 : decode cX11_calmed 48 = .ok (.iadd, 1) := by decide +kernel
theorem dX11_calmed_49 : decode cX11_calmed 49 = .ok (.iaload, 1) := by decide +kernel
theorem dX11_calmed_50 : decode cX11_calmed 50 = .ok (.aload_n 0, 1) := by decide +kernel
theorem dX11_calmed_51 : decode cX11_calmed 51 = .ok (.getfield 31, 3) := by decide +kernel
theorem dX11_calmed_54 : decode cX11_calmed 54 = .ok (.iload 4, 2) := by decide +kernel
theorem dX11_calmed_56 : decode cX11_calmed 56 = .ok (.iaload, 1) := by decide +kernel
theorem dX11_calmed_57 : decode cX11_calmed 57 = .ok (.if_icmp .lt 39, 3) := by decide +kernel
theorem dX11_calmed_60 : decode cX11_calmed 60 = .ok (.iload_n 2, 1) := by decide +kernel
theorem dX11_calmed_61 : decode cX11_calmed 61 = .ok (.sipush 9999, 3) := by decide +kernel
theorem dX11_calmed_64 : decode cX11_calmed 64 = .ok (.if_icmp .ne 6, 3) := by decide +kernel
theorem dX11_calmed_67 : decode cX11_calmed 67 = .ok (.bipush (-3), 2) := by decide +kernel
theorem dX11_calmed_69 : decode cX11_calmed 69 = .ok (.ireturn, 1) := by decide +kernel
theorem dX11_calmed_70 : decode cX11_calmed 70 = .ok (.aload_n 0, 1) := by decide +kernel
theorem dX11_calmed_71 : decode cX11_calmed 71 = .ok (.aload_n 1, 1) := by decide +kernel
theorem dX11_calmed_72 : decode cX11_calmed 72 = .ok (.iload 4, 2) := by decide +kernel
theorem dX11_calmed_74 : decode cX11_calmed 74 = .ok (.invokevirtual 314, 3) := by decide +kernel
theorem dX11_calmed_77 : decode cX11_calmed 77 = .ok (.aload_n 0, 1) := by decide +kernel
theorem dX11_calmed_78 : decode cX11_calmed 78 = .ok (.getfield 71, 3) := by decide +kernel
theorem dX11_calmed_81 : decode cX11_calmed 81 = .ok (.iload 4, 2) := by decide +kernel
theorem dX11_calmed_83 : decode cX11_calmed 83 = .ok (.dup2, 1) := by decide +kernel
theorem dX11_calmed_84 : decode cX11_calmed 84 = .ok (.iaload, 1) := by decide +kernel
theorem dX11_calmed_85 : decode cX11_calmed 85 = .ok (.iconst 1, 1) := by decide +kernel
theorem dX11_calmed_86 : decode cX11_calmed 86 = .ok (.iadd, 1) := by decide +kernel
theorem dX11_calmed_87 : decode cX11_calmed 87 = .ok (.iastore, 1) := by decide +kernel
theorem dX11_calmed_88 : decode cX11_calmed 88 = .ok (.iinc 2 1, 3) := by decide +kernel
theorem dX11_calmed_91 : decode cX11_calmed 91 = .ok (.iconst 1, 1) := by decide +kernel
theorem dX11_calmed_92 : decode cX11_calmed 92 = .ok (.istore_n 3, 1) := by decide +kernel
theorem dX11_calmed_93 : decode cX11_calmed 93 = .ok (.goto (-50), 3) := by decide +kernel
theorem dX11_calmed_96 : decode cX11_calmed 96 = .ok (.iinc 4 1, 3) := by decide +kernel
theorem dX11_calmed_99 : decode cX11_calmed 99 = .ok (.goto (-65), 3) := by decide +kernel
theorem dX11_calmed_102 : decode cX11_calmed 102 = .ok (.goto (-77), 3) := by decide +kernel
theorem dX11_calmed_105 : decode cX11_calmed 105 = .ok (.iload_n 2, 1) := by decide +kernel
theorem dX11_calmed_106 : decode cX11_calmed 106 = .ok (.ireturn, 1) := by decide +kernel
theorem dX11_calmsAll_0 : decode cX11_calmsAll 0 = .ok (.aload_n 0, 1) := by decide +kernel
theorem dX11_calmsAll_1 : decode cX11_calmsAll 1 = .ok (.getfield 41, 3) := by decide +kernel
theorem dX11_calmsAll_4 : decode cX11_calmsAll 4 = .ok (.aload_n 0, 1) := by decide +kernel
theorem dX11_calmsAll_5 : decode cX11_calmsAll 5 = .ok (.getfield 38, 3) := by decide +kernel
theorem dX11_calmsAll_8 : decode cX11_calmsAll 8 = .ok (.invokestatic 307, 3) := by decide +kernel
theorem dX11_calmsAll_11 : decode cX11_calmsAll 11 = .ok (.aload_n 0, 1) := by decide +kernel
theorem dX11_calmsAll_12 : decode cX11_calmsAll 12 = .ok (.aload_n 0, 1) := by decide +kernel
theorem dX11_calmsAll_13 : decode cX11_calmsAll 13 = .ok (.getfield 38, 3) := by decide +kernel
theorem dX11_calmsAll_16 : decode cX11_calmsAll 16 = .ok (.invokevirtual 317, 3) := by decide +kernel
theorem dX11_calmsAll_19 : decode cX11_calmsAll 19 = .ok (.istore_n 1, 1) := by decide +kernel
theorem dX11_calmsAll_20 : decode cX11_calmsAll 20 = .ok (.iload_n 1, 1) := by decide +kernel
theorem dX11_calmsAll_21 : decode cX11_calmsAll 21 = .ok (.ifCond .ge 14, 3) := by decide +kernel
theorem dX11_calmsAll_24 : decode cX11_calmsAll 24 = .ok (.aload_n 0, 1) := by decide +kernel
theorem dX11_calmsAll_25 : decode cX11_calmsAll 25 = .ok (.getfield 38, 3) := by decide +kernel
theorem dX11_calmsAll_28 : decode cX11_calmsAll 28 = .ok (.aload_n 0, 1) := by decide +kernel
theorem dX11_calmsAll_29 : decode cX11_calmsAll 29 = .ok (.getfield 41, 3) := by decide +kernel
theorem dX11_calmsAll_32 : decode cX11_calmsAll 32 = .ok (.invokestatic 307, 3) := by decide +kernel
theorem dX11_calmsAll_35 : decode cX11_calmsAll 35 = .ok (.iload_n 1, 1) := by decide +kernel
theorem dX11_calmsAll_36 : decode cX11_calmsAll 36 = .ok (.ireturn, 1) := by decide +kernel
theorem dX11_pointsTo_0 : decode cX11_pointsTo 0 = .ok (.aload_n 0, 1) := by decide +kernel
theorem dX11_pointsTo_1 : decode cX11_pointsTo 1 = .ok (.iload_n 1, 1) := by decide +kernel
theorem dX11_pointsTo_2 : decode cX11_pointsTo 2 = .ok (.invokevirtual 280, 3) := by decide +kernel
theorem dX11_pointsTo_5 : decode cX11_pointsTo 5 = .ok (.ifCond .eq 21, 3) := by decide +kernel
theorem dX11_pointsTo_8 : decode cX11_pointsTo 8 = .ok (.iload_n 2, 1) := by decide +kernel
theorem dX11_pointsTo_9 : decode cX11_pointsTo 9 = .ok (.i2l, 1) := by decide +kernel
theorem dX11_pointsTo_10 : decode cX11_pointsTo 10 = .ok (.lconst 0, 1) := by decide +kernel
theorem dX11_pointsTo_11 : decode cX11_pointsTo 11 = .ok (.aload_n 0, 1) := by decide +kernel
theorem dX11_pointsTo_12 : decode cX11_pointsTo 12 = .ok (.getfield 31, 3) := by decide +kernel
theorem dX11_pointsTo_15 : decode cX11_pointsTo 15 = .ok (.iload_n 1, 1) := by decide +kernel
theorem dX11_pointsTo_16 : decode cX11_pointsTo 16 = .ok (.iaload, 1) := by decide +kernel
theorem dX11_pointsTo_17 : decode cX11_pointsTo 17 = .ok (.iconst 1, 1) := by decide +kernel
theorem dX11_pointsTo_18 : decode cX11_pointsTo 18 = .ok (.isub, 1) := by decide +kernel
theorem dX11_pointsTo_19 : decode cX11_pointsTo 19 = .ok (.i2l, 1) := by decide +kernel
theorem dX11_pointsTo_20 : decode cX11_pointsTo 20 = .ok (.invokestatic 129, 3) := by decide +kernel
theorem dX11_pointsTo_23 : decode cX11_pointsTo 23 = .ok (.ifCond .ne 5, 3) := by decide +kernel
theorem dX11_pointsTo_26 : decode cX11_pointsTo 26 = .ok (.iconst (-1), 1) := by decide +kernel
theorem dX11_pointsTo_27 : decode cX11_pointsTo 27 = .ok (.ireturn, 1) := by decide +kernel
theorem dX11_pointsTo_28 : decode cX11_pointsTo 28 = .ok (.aload_n 0, 1) := by decide +kernel
theorem dX11_pointsTo_29 : decode cX11_pointsTo 29 = .ok (.getfield 38, 3) := by decide +kernel
theorem dX11_pointsTo_32 : decode cX11_pointsTo 32 = .ok (.iload_n 1, 1) := by decide +kernel
theorem dX11_pointsTo_33 : decode cX11_pointsTo 33 = .ok (.iaload, 1) := by decide +kernel
theorem dX11_pointsTo_34 : decode cX11_pointsTo 34 = .ok (.istore_n 3, 1) := by decide +kernel
theorem dX11_pointsTo_35 : decode cX11_pointsTo 35 = .ok (.aload_n 0, 1) := by decide +kernel
theorem dX11_pointsTo_36 : decode cX11_pointsTo 36 = .ok (.getfield 38, 3) := by decide +kernel
theorem dX11_pointsTo_39 : decode cX11_pointsTo 39 = .ok (.iload_n 1, 1) := by decide +kernel
theorem dX11_pointsTo_40 : decode cX11_pointsTo 40 = .ok (.iload_n 2, 1) := by decide +kernel
theorem dX11_pointsTo_41 : decode cX11_pointsTo 41 = .ok (.iastore, 1) := by decide +kernel
theorem dX11_pointsTo_42 : decode cX11_pointsTo 42 = .ok (.iload_n 3, 1) := by decide +kernel
theorem dX11_pointsTo_43 : decode cX11_pointsTo 43 = .ok (.iload_n 2, 1) := by decide +kernel
theorem dX11_pointsTo_44 : decode cX11_pointsTo 44 = .ok (.if_icmp .ne 8, 3) := by decide +kernel
theorem dX11_pointsTo_47 : decode cX11_pointsTo 47 = .ok (.bipush (-2), 2) := by decide +kernel
theorem dX11_pointsTo_49 : decode cX11_pointsTo 49 = .ok (.goto 7, 3) := by decide +kernel
theorem dX11_pointsTo_52 : decode cX11_pointsTo 52 = .ok (.bipush 10, 2) := by decide +kernel
theorem dX11_pointsTo_54 : decode cX11_pointsTo 54 = .ok (.iload_n 3, 1) := by decide +kernel
theorem dX11_pointsTo_55 : decode cX11_pointsTo 55 = .ok (.iadd, 1) := by decide +kernel
theorem dX11_pointsTo_56 : decode cX11_pointsTo 56 = .ok (.ireturn, 1) := by decide +kernel
theorem dX11_comes_0 : decode cX11_comes 0 = .ok (.aload_n 0, 1) := by decide +kernel
theorem dX11_comes_1 : decode cX11_comes 1 = .ok (.iconst 0, 1) := by decide +kernel
theorem dX11_comes_2 : decode cX11_comes 2 = .ok (.putfield 3, 3) := by decide +kernel
theorem dX11_comes_5 : decode cX11_comes 5 = .ok (.aload_n 0, 1) := by decide +kernel
theorem dX11_comes_6 : decode cX11_comes 6 = .ok (.invokevirtual 320, 3) := by decide +kernel
theorem dX11_comes_9 : decode cX11_comes 9 = .ok (.aload_n 0, 1) := by decide +kernel
theorem dX11_comes_10 : decode cX11_comes 10 = .ok (.aload_n 0, 1) := by decide +kernel
theorem dX11_comes_11 : decode cX11_comes 11 = .ok (.aload_n 0, 1) := by decide +kernel
theorem dX11_comes_12 : decode cX11_comes 12 = .ok (.getfield 38, 3) := by decide +kernel
theorem dX11_comes_15 : decode cX11_comes 15 = .ok (.iload_n 1, 1) := by decide +kernel
theorem dX11_comes_16 : decode cX11_comes 16 = .ok (.iload_n 2, 1) := by decide +kernel
theorem dX11_comes_17 : decode cX11_comes 17 = .ok (.invokevirtual 323, 3) := by decide +kernel
theorem dX11_comes_20 : decode cX11_comes 20 = .ok (.invokevirtual 327, 3) := by decide +kernel
theorem dX11_comes_23 : decode cX11_comes 23 = .ok (.ireturn, 1) := by decide +kernel
theorem dX11_goes_0 : decode cX11_goes 0 = .ok (.aload_n 0, 1) := by decide +kernel
theorem dX11_goes_1 : decode cX11_goes 1 = .ok (.iconst 0, 1) := by decide +kernel
theorem dX11_goes_2 : decode cX11_goes 2 = .ok (.putfield 3, 3) := by decide +kernel
theorem dX11_goes_5 : decode cX11_goes 5 = .ok (.aload_n 0, 1) := by decide +kernel
theorem dX11_goes_6 : decode cX11_goes 6 = .ok (.invokevirtual 320, 3) := by decide +kernel
theorem dX11_goes_9 : decode cX11_goes 9 = .ok (.aload_n 0, 1) := by decide +kernel
theorem dX11_goes_10 : decode cX11_goes 10 = .ok (.aload_n 0, 1) := by decide +kernel
theorem dX11_goes_11 : decode cX11_goes 11 = .ok (.getfield 38, 3) := by decide +kernel
theorem dX11_goes_14 : decode cX11_goes 14 = .ok (.iload_n 1, 1) := by decide +kernel
theorem dX11_goes_15 : decode cX11_goes 15 = .ok (.invokevirtual 330, 3) := by decide +kernel
theorem dX11_goes_18 : decode cX11_goes 18 = .ok (.istore_n 2, 1) := by decide +kernel
theorem dX11_goes_19 : decode cX11_goes 19 = .ok (.iload_n 2, 1) := by decide +kernel
theorem dX11_goes_20 : decode cX11_goes 20 = .ok (.ifCond .lt 33, 3) := by decide +kernel
theorem dX11_goes_23 : decode cX11_goes 23 = .ok (.aload_n 0, 1) := by decide +kernel
theorem dX11_goes_24 : decode cX11_goes 24 = .ok (.iconst 0, 1) := by decide +kernel
theorem dX11_goes_25 : decode cX11_goes 25 = .ok (.putfield 15, 3) := by decide +kernel
theorem dX11_goes_28 : decode cX11_goes 28 = .ok (.aload_n 0, 1) := by decide +kernel
theorem dX11_goes_29 : decode cX11_goes 29 = .ok (.aload_n 0, 1) := by decide +kernel
theorem dX11_goes_30 : decode cX11_goes 30 = .ok (.getfield 38, 3) := by decide +kernel
theorem dX11_goes_33 : decode cX11_goes 33 = .ok (.iload_n 1, 1) := by decide +kernel
theorem dX11_goes_34 : decode cX11_goes 34 = .ok (.iaload, 1) := by decide +kernel
theorem dX11_goes_35 : decode cX11_goes 35 = .ok (.i2l, 1) := by decide +kernel
theorem dX11_goes_36 : decode cX11_goes 36 = .ok (.invokevirtual 18, 3) := by decide +kernel
theorem dX11_goes_39 : decode cX11_goes 39 = .ok (.aload_n 0, 1) := by decide +kernel
theorem dX11_goes_40 : decode cX11_goes 40 = .ok (.aload_n 0, 1) := by decide +kernel
theorem dX11_goes_41 : decode cX11_goes 41 = .ok (.getfield 38, 3) := by decide +kernel
theorem dX11_goes_44 : decode cX11_goes 44 = .ok (.bipush 8, 2) := by decide +kernel
theorem dX11_goes_46 : decode cX11_goes 46 = .ok (.iload_n 1, 1) := by decide +kernel
theorem dX11_goes_47 : decode cX11_goes 47 = .ok (.iadd, 1) := by decide +kernel
theorem dX11_goes_48 : decode cX11_goes 48 = .ok (.iaload, 1) := by decide +kernel
theorem dX11_goes_49 : decode cX11_goes 49 = .ok (.i2l, 1) := by decide +kernel
theorem dX11_goes_50 : decode cX11_goes 50 = .ok (.invokevirtual 18, 3) := by decide +kernel
theorem dX11_goes_53 : decode cX11_goes 53 = .ok (.aload_n 0, 1) := by decide +kernel
theorem dX11_goes_54 : decode cX11_goes 54 = .ok (.iload_n 2, 1) := by decide +kernel
theorem dX11_goes_55 : decode cX11_goes 55 = .ok (.invokevirtual 327, 3) := by decide +kernel
theorem dX11_goes_58 : decode cX11_goes 58 = .ok (.ireturn, 1) := by decide +kernel
theorem dX11_walks_0 : decode cX11_walks 0 = .ok (.aload_n 0, 1) := by decide +kernel
theorem dX11_walks_1 : decode cX11_walks 1 = .ok (.iconst 0, 1) := by decide +kernel
theorem dX11_walks_2 : decode cX11_walks 2 = .ok (.putfield 3, 3) := by decide +kernel
theorem dX11_walks_5 : decode cX11_walks 5 = .ok (.aload_n 0, 1) := by decide +kernel
theorem dX11_walks_6 : decode cX11_walks 6 = .ok (.invokevirtual 320, 3) := by decide +kernel
theorem dX11_walks_9 : decode cX11_walks 9 = .ok (.aload_n 0, 1) := by decide +kernel
theorem dX11_walks_10 : decode cX11_walks 10 = .ok (.iload_n 1, 1) := by decide +kernel
theorem dX11_walks_11 : decode cX11_walks 11 = .ok (.invokevirtual 333, 3) := by decide +kernel
theorem dX11_walks_14 : decode cX11_walks 14 = .ok (.istore_n 2, 1) := by decide +kernel
theorem dX11_walks_15 : decode cX11_walks 15 = .ok (.iload_n 2, 1) := by decide +kernel
theorem dX11_walks_16 : decode cX11_walks 16 = .ok (.ifCond .lt 17, 3) := by decide +kernel
theorem dX11_walks_19 : decode cX11_walks 19 = .ok (.aload_n 0, 1) := by decide +kernel
theorem dX11_walks_20 : decode cX11_walks 20 = .ok (.iconst 0, 1) := by decide +kernel
theorem dX11_walks_21 : decode cX11_walks 21 = .ok (.putfield 15, 3) := by decide +kernel
theorem dX11_walks_24 : decode cX11_walks 24 = .ok (.aload_n 0, 1) := by decide +kernel
theorem dX11_walks_25 : decode cX11_walks 25 = .ok (.aload_n 0, 1) := by decide +kernel
theorem dX11_walks_26 : decode cX11_walks 26 = .ok (.getfield 311, 3) := by decide +kernel
theorem dX11_walks_29 : decode cX11_walks 29 = .ok (.i2l, 1) := by decide +kernel
theorem dX11_walks_30 : decode cX11_walks 30 = .ok (.invokevirtual 18, 3) := by decide +kernel
theorem dX11_walks_33 : decode cX11_walks 33 = .ok (.aload_n 0, 1) := by decide +kernel
theorem dX11_walks_34 : decode cX11_walks 34 = .ok (.iload_n 2, 1) := by decide +kernel
theorem dX11_walks_35 : decode cX11_walks 35 = .ok (.invokevirtual 327, 3) := by decide +kernel
theorem dX11_walks_38 : decode cX11_walks 38 = .ok (.ireturn, 1) := by decide +kernel
theorem dX11_bursts_0 : decode cX11_bursts 0 = .ok (.aload_n 0, 1) := by decide +kernel
theorem dX11_bursts_1 : decode cX11_bursts 1 = .ok (.iconst 0, 1) := by decide +kernel
theorem dX11_bursts_2 : decode cX11_bursts 2 = .ok (.putfield 3, 3) := by decide +kernel
theorem dX11_bursts_5 : decode cX11_bursts 5 = .ok (.aload_n 0, 1) := by decide +kernel
theorem dX11_bursts_6 : decode cX11_bursts 6 = .ok (.invokevirtual 320, 3) := by decide +kernel
theorem dX11_bursts_9 : decode cX11_bursts 9 = .ok (.aload_n 0, 1) := by decide +kernel
theorem dX11_bursts_10 : decode cX11_bursts 10 = .ok (.aload_n 0, 1) := by decide +kernel
theorem dX11_bursts_11 : decode cX11_bursts 11 = .ok (.aload_n 0, 1) := by decide +kernel
theorem dX11_bursts_12 : decode cX11_bursts 12 = .ok (.getfield 38, 3) := by decide +kernel
theorem dX11_bursts_15 : decode cX11_bursts 15 = .ok (.iload_n 1, 1) := by decide +kernel
theorem dX11_bursts_16 : decode cX11_bursts 16 = .ok (.invokevirtual 336, 3) := by decide +kernel
theorem dX11_bursts_19 : decode cX11_bursts 19 = .ok (.invokevirtual 327, 3) := by decide +kernel
theorem dX11_bursts_22 : decode cX11_bursts 22 = .ok (.ireturn, 1) := by decide +kernel
theorem dX11_calms_0 : decode cX11_calms 0 = .ok (.aload_n 0, 1) := by decide +kernel
theorem dX11_calms_1 : decode cX11_calms 1 = .ok (.iconst 0, 1) := by decide +kernel
theorem dX11_calms_2 : decode cX11_calms 2 = .ok (.putfield 3, 3) := by decide +kernel
theorem dX11_calms_5 : decode cX11_calms 5 = .ok (.aload_n 0, 1) := by decide +kernel
theorem dX11_calms_6 : decode cX11_calms 6 = .ok (.invokevirtual 320, 3) := by decide +kernel
theorem dX11_calms_9 : decode cX11_calms 9 = .ok (.aload_n 0, 1) := by decide +kernel
theorem dX11_calms_10 : decode cX11_calms 10 = .ok (.invokevirtual 339, 3) := by decide +kernel
theorem dX11_calms_13 : decode cX11_calms 13 = .ok (.istore_n 1, 1) := by decide +kernel
theorem dX11_calms_14 : decode cX11_calms 14 = .ok (.iload_n 1, 1) := by decide +kernel
theorem dX11_calms_15 : decode cX11_calms 15 = .ok (.ifCond .lt 35, 3) := by decide +kernel
theorem dX11_calms_18 : decode cX11_calms 18 = .ok (.aload_n 0, 1) := by decide +kernel
theorem dX11_calms_19 : decode cX11_calms 19 = .ok (.iconst 0, 1) := by decide +kernel
theorem dX11_calms_20 : decode cX11_calms 20 = .ok (.putfield 15, 3) := by decide +kernel
theorem dX11_calms_23 : decode cX11_calms 23 = .ok (.iconst 1, 1) := by decide +kernel
theorem dX11_calms_24 : decode cX11_calms 24 = .ok (.istore_n 2, 1) := by decide +kernel
theorem dX11_calms_25 : decode cX11_calms 25 = .ok (.iload_n 2, 1) := by decide +kernel
theorem dX11_calms_26 : decode cX11_calms 26 = .ok (.aload_n 0, 1) := by decide +kernel
theorem dX11_calms_27 : decode cX11_calms 27 = .ok (.getfield 28, 3) := by decide +kernel
theorem dX11_calms_30 : decode cX11_calms 30 = .ok (.if_icmp .ge 20, 3) := by decide +kernel
theorem dX11_calms_33 : decode cX11_calms 33 = .ok (.aload_n 0, 1) := by decide +kernel
theorem dX11_calms_34 : decode cX11_calms 34 = .ok (.aload_n 0, 1) := by decide +kernel
theorem dX11_calms_35 : decode cX11_calms 35 = .ok (.getfield 71, 3) := by decide +kernel
theorem dX11_calms_38 : decode cX11_calms 38 = .ok (.iload_n 2, 1) := by decide +kernel
theorem dX11_calms_39 : decode cX11_calms 39 = .ok (.iaload, 1) := by decide +kernel
theorem dX11_calms_40 : decode cX11_calms 40 = .ok (.i2l, 1) := by decide +kernel
theorem dX11_calms_41 : decode cX11_calms 41 = .ok (.invokevirtual 18, 3) := by decide +kernel
theorem dX11_calms_44 : decode cX11_calms 44 = .ok (.iinc 2 1, 3) := by decide +kernel
theorem dX11_calms_47 : decode cX11_calms 47 = .ok (.goto (-22), 3) := by decide +kernel
theorem dX11_calms_50 : decode cX11_calms 50 = .ok (.aload_n 0, 1) := by decide +kernel
theorem dX11_calms_51 : decode cX11_calms 51 = .ok (.iload_n 1, 1) := by decide +kernel
theorem dX11_calms_52 : decode cX11_calms 52 = .ok (.invokevirtual 327, 3) := by decide +kernel
theorem dX11_calms_55 : decode cX11_calms 55 = .ok (.ireturn, 1) := by decide +kernel
theorem dX11_points_0 : decode cX11_points 0 = .ok (.aload_n 0, 1) := by decide +kernel
theorem dX11_points_1 : decode cX11_points 1 = .ok (.iconst 0, 1) := by decide +kernel
theorem dX11_points_2 : decode cX11_points 2 = .ok (.putfield 3, 3) := by decide +kernel
theorem dX11_points_5 : decode cX11_points 5 = .ok (.aload_n 0, 1) := by decide +kernel
theorem dX11_points_6 : decode cX11_points 6 = .ok (.invokevirtual 320, 3) := by decide +kernel
theorem dX11_points_9 : decode cX11_points 9 = .ok (.aload_n 0, 1) := by decide +kernel
theorem dX11_points_10 : decode cX11_points 10 = .ok (.aload_n 0, 1) := by decide +kernel
theorem dX11_points_11 : decode cX11_points 11 = .ok (.iload_n 1, 1) := by decide +kernel
theorem dX11_points_12 : decode cX11_points 12 = .ok (.iload_n 2, 1) := by decide +kernel
theorem dX11_points_13 : decode cX11_points 13 = .ok (.invokevirtual 342, 3) := by decide +kernel
theorem dX11_points_16 : decode cX11_points 16 = .ok (.invokevirtual 327, 3) := by decide +kernel
theorem dX11_points_19 : decode cX11_points 19 = .ok (.ireturn, 1) := by decide +kernel
theorem dX11_readsAct_0 : decode cX11_readsAct 0 = .ok (.aload_n 0, 1) := by decide +kernel
theorem dX11_readsAct_1 : decode cX11_readsAct 1 = .ok (.getfield 345, 3) := by decide +kernel
theorem dX11_readsAct_4 : decode cX11_readsAct 4 = .ok (.istore_n 1, 1) := by decide +kernel
theorem dX11_readsAct_5 : decode cX11_readsAct 5 = .ok (.aload_n 0, 1) := by decide +kernel
theorem dX11_readsAct_6 : decode cX11_readsAct 6 = .ok (.getfield 74, 3) := by decide +kernel
theorem dX11_readsAct_9 : decode cX11_readsAct 9 = .ok (.iload_n 1, 1) := by decide +kernel
theorem dX11_readsAct_10 : decode cX11_readsAct 10 = .ok (.aload_n 0, 1) := by decide +kernel
theorem dX11_readsAct_11 : decode cX11_readsAct 11 = .ok (.ldc_w 348, 3) := by decide +kernel
theorem dX11_readsAct_14 : decode cX11_readsAct 14 = .ok (.invokevirtual 224, 3) := by decide +kernel
theorem dX11_readsAct_17 : decode cX11_readsAct 17 = .ok (.iastore, 1) := by decide +kernel
theorem dX11_readsAct_18 : decode cX11_readsAct 18 = .ok (.aload_n 0, 1) := by decide +kernel
theorem dX11_readsAct_19 : decode cX11_readsAct 19 = .ok (.dup, 1) := by decide +kernel
theorem dX11_readsAct_20 : decode cX11_readsAct 20 = .ok (.getfield 345, 3) := by decide +kernel
theorem dX11_readsAct_23 : decode cX11_readsAct 23 = .ok (.iconst 1, 1) := by decide +kernel
theorem dX11_readsAct_24 : decode cX11_readsAct 24 = .ok (.iadd, 1) := by decide +kernel
theorem dX11_readsAct_25 : decode cX11_readsAct 25 = .ok (.putfield 345, 3) := by decide +kernel
theorem dX11_readsAct_28 : decode cX11_readsAct 28 = .ok (.aload_n 0, 1) := by decide +kernel
theorem dX11_readsAct_29 : decode cX11_readsAct 29 = .ok (.getfield 74, 3) := by decide +kernel
theorem dX11_readsAct_32 : decode cX11_readsAct 32 = .ok (.iload_n 1, 1) := by decide +kernel
theorem dX11_readsAct_33 : decode cX11_readsAct 33 = .ok (.iaload, 1) := by decide +kernel
theorem dX11_readsAct_34 : decode cX11_readsAct 34 = .ok (.ifCond .gt 18, 3) := by decide +kernel
theorem dX11_readsAct_37 : decode cX11_readsAct 37 = .ok (.aload_n 0, 1) := by decide +kernel
theorem dX11_readsAct_38 : decode cX11_readsAct 38 = .ok (.getfield 74, 3) := by decide +kernel
theorem dX11_readsAct_41 : decode cX11_readsAct 41 = .ok (.iload_n 1, 1) := by decide +kernel
theorem dX11_readsAct_42 : decode cX11_readsAct 42 = .ok (.iaload, 1) := by decide +kernel
theorem dX11_readsAct_43 : decode cX11_readsAct 43 = .ok (.ifCond .ne 7, 3) := by decide +kernel
theorem dX11_readsAct_46 : decode cX11_readsAct 46 = .ok (.iconst 1, 1) := by decide +kernel
theorem dX11_readsAct_47 : decode cX11_readsAct 47 = .ok (.goto 4, 3) := by decide +kernel
theorem dX11_readsAct_50 : decode cX11_readsAct 50 = .ok (.iconst 0, 1) := by decide +kernel
theorem dX11_readsAct_51 : decode cX11_readsAct 51 = .ok (.ireturn, 1) := by decide +kernel
theorem dX11_readsAct_52 : decode cX11_readsAct 52 = .ok (.aload_n 0, 1) := by decide +kernel
theorem dX11_readsAct_53 : decode cX11_readsAct 53 = .ok (.getfield 77, 3) := by decide +kernel
theorem dX11_readsAct_56 : decode cX11_readsAct 56 = .ok (.iload_n 1, 1) := by decide +kernel
theorem dX11_readsAct_57 : decode cX11_readsAct 57 = .ok (.aload_n 0, 1) := by decide +kernel
theorem dX11_readsAct_58 : decode cX11_readsAct 58 = .ok (.iconst 1, 1) := by decide +kernel
theorem dX11_readsAct_59 : decode cX11_readsAct 59 = .ok (.invokevirtual 219, 3) := by decide +kernel
theorem dX11_readsAct_62 : decode cX11_readsAct 62 = .ok (.iastore, 1) := by decide +kernel
theorem dX11_readsAct_63 : decode cX11_readsAct 63 = .ok (.aload_n 0, 1) := by decide +kernel
theorem dX11_readsAct_64 : decode cX11_readsAct 64 = .ok (.getfield 77, 3) := by decide +kernel
theorem dX11_readsAct_67 : decode cX11_readsAct 67 = .ok (.iload_n 1, 1) := by decide +kernel
theorem dX11_readsAct_68 : decode cX11_readsAct 68 = .ok (.iaload, 1) := by decide +kernel
theorem dX11_readsAct_69 : decode cX11_readsAct 69 = .ok (.ifCond .lt 13, 3) := by decide +kernel
theorem dX11_readsAct_72 : decode cX11_readsAct 72 = .ok (.aload_n 0, 1) := by decide +kernel
theorem dX11_readsAct_73 : decode cX11_readsAct 73 = .ok (.getfield 74, 3) := by decide +kernel
theorem dX11_readsAct_76 : decode cX11_readsAct 76 = .ok (.iload_n 1, 1) := by decide +kernel
theorem dX11_readsAct_77 : decode cX11_readsAct 77 = .ok (.iaload, 1) := by decide +kernel
theorem dX11_readsAct_78 : decode cX11_readsAct 78 = .ok (.iconst 4, 1) := by decide +kernel
theorem dX11_readsAct_79 : decode cX11_readsAct 79 = .ok (.if_icmp .ge 18, 3) := by decide +kernel
theorem dX11_readsAct_82 : decode cX11_readsAct 82 = .ok (.aload_n 0, 1) := by decide +kernel
theorem dX11_readsAct_83 : decode cX11_readsAct 83 = .ok (.getfield 77, 3) := by decide +kernel
theorem dX11_readsAct_86 : decode cX11_readsAct 86 = .ok (.iload_n 1, 1) := by decide +kernel
theorem dX11_readsAct_87 : decode cX11_readsAct 87 = .ok (.iaload, 1) := by decide +kernel
theorem dX11_readsAct_88 : decode cX11_readsAct 88 = .ok (.ifCond .lt 7, 3) := by decide +kernel
theorem dX11_readsAct_91 : decode cX11_readsAct 91 = .ok (.iconst 1, 1) := by decide +kernel
theorem dX11_readsAct_92 : decode cX11_readsAct 92 = .ok (.goto 4, 3) := by decide +kernel
theorem dX11_readsAct_95 : decode cX11_readsAct 95 = .ok (.iconst 0, 1) := by decide +kernel
theorem dX11_readsAct_96 : decode cX11_readsAct 96 = .ok (.ireturn, 1) := by decide +kernel
theorem dX11_readsAct_97 : decode cX11_readsAct 97 = .ok (.aload_n 0, 1) := by decide +kernel
theorem dX11_readsAct_98 : decode cX11_readsAct 98 = .ok (.getfield 80, 3) := by decide +kernel
theorem dX11_readsAct_101 : decode cX11_readsAct 101 = .ok (.iload_n 1, 1) := by decide +kernel
theorem dX11_readsAct_102 : decode cX11_readsAct 102 = .ok (.aload_n 0, 1) := by decide +kernel
theorem dX11_readsAct_103 : decode cX11_readsAct 103 = .ok (.getfield 74, 3) := by decide +kernel
theorem dX11_readsAct_106 : decode cX11_readsAct 106 = .ok (.iload_n 1, 1) := by decide +kernel
theorem dX11_readsAct_107 : decode cX11_readsAct 107 = .ok (.iaload, 1) := by decide +kernel
theorem dX11_readsAct_108 : decode cX11_readsAct 108 = .ok (.iconst 4, 1) := by decide +kernel
theorem dX11_readsAct_109 : decode cX11_readsAct 109 = .ok (.if_icmp .ne 13, 3) := by decide +kernel
theorem dX11_readsAct_112 : decode cX11_readsAct 112 = .ok (.aload_n 0, 1) := by decide +kernel
theorem dX11_readsAct_113 : decode cX11_readsAct 113 = .ok (.iconst 1, 1) := by decide +kernel
theorem dX11_readsAct_114 : decode cX11_readsAct 114 = .ok (.bipush 9, 2) := by decide +kernel
theorem dX11_readsAct_116 : decode cX11_readsAct 116 = .ok (.invokevirtual 173, 3) := by decide +kernel
theorem dX11_readsAct_119 : decode cX11_readsAct 119 = .ok (.goto 9, 3) := by decide +kernel
theorem dX11_readsAct_122 : decode cX11_readsAct 122 = .ok (.aload_n 0, 1) := by decide +kernel
theorem dX11_readsAct_123 : decode cX11_readsAct 123 = .ok (.iconst 0, 1) := by decide +kernel
theorem dX11_readsAct_124 : decode cX11_readsAct 124 = .ok (.iconst 3, 1) := by decide +kernel
theorem dX11_readsAct_125 : decode cX11_readsAct 125 = .ok (.invokevirtual 173, 3) := by decide +kernel
theorem dX11_readsAct_128 : decode cX11_readsAct 128 = .ok (.iastore, 1) := by decide +kernel
theorem dX11_readsAct_129 : decode cX11_readsAct 129 = .ok (.aload_n 0, 1) := by decide +kernel
theorem dX11_readsAct_130 : decode cX11_readsAct 130 = .ok (.getfield 80, 3) := by decide +kernel
theorem dX11_readsAct_133 : decode cX11_readsAct 133 = .ok (.iload_n 1, 1) := by decide +kernel
theorem dX11_readsAct_134 : decode cX11_readsAct 134 = .ok (.iaload, 1) := by decide +kernel
theorem dX11_readsAct_135 : decode cX11_readsAct 135 = .ok (.ifCond .lt 7, 3) := by decide +kernel
theorem dX11_readsAct_138 : decode cX11_readsAct 138 = .ok (.iconst 1, 1) := by decide +kernel
theorem dX11_readsAct_139 : decode cX11_readsAct 139 = .ok (.goto 4, 3) := by decide +kernel
theorem dX11_readsAct_142 : decode cX11_readsAct 142 = .ok (.iconst 0, 1) := by decide +kernel
theorem dX11_readsAct_143 : decode cX11_readsAct 143 = .ok (.ireturn, 1) := by decide +kernel
theorem dX11_does_0 : decode cX11_does 0 = .ok (.aload_n 0, 1) := by decide +kernel
theorem dX11_does_1 : decode cX11_does 1 = .ok (.getfield 77, 3) := by decide +kernel
theorem dX11_does_4 : decode cX11_does 4 = .ok (.iload_n 1, 1) := by decide +kernel
theorem dX11_does_5 : decode cX11_does 5 = .ok (.iaload, 1) := by decide +kernel
theorem dX11_does_6 : decode cX11_does 6 = .ok (.istore_n 2, 1) := by decide +kernel
theorem dX11_does_7 : decode cX11_does 7 = .ok (.aload_n 0, 1) := by decide +kernel
theorem dX11_does_8 : decode cX11_does 8 = .ok (.getfield 74, 3) := by decide +kernel
theorem dX11_does_11 : decode cX11_does 11 = .ok (.iload_n 1, 1) := by decide +kernel
theorem dX11_does_12 : decode cX11_does 12 = .ok (.iaload, 1) := by decide +kernel
theorem dX11_does_13 : decode cX11_does 13 = .ok (.tableswitch 122 0 4 #[35, 48, 66, 80, 98], 35) := by decide +kernel
theorem dX11_does_48 : decode cX11_does 48 = .ok (.aload_n 0, 1) := by decide +kernel
theorem dX11_does_49 : decode cX11_does 49 = .ok (.invokevirtual 339, 3) := by decide +kernel
theorem dX11_does_52 : decode cX11_does 52 = .ok (.ifCond .lt 7, 3) := by decide +kernel
theorem dX11_does_55 : decode cX11_does 55 = .ok (.iconst 1, 1) := by decide +kernel
theorem dX11_does_56 : decode cX11_does 56 = .ok (.goto 4, 3) := by decide +kernel
theorem dX11_does_59 : decode cX11_does 59 = .ok (.iconst 0, 1) := by decide +kernel
theorem dX11_does_60 : decode cX11_does 60 = .ok (.ireturn, 1) := by decide +kernel
theorem dX11_does_61 : decode cX11_does 61 = .ok (.aload_n 0, 1) := by decide +kernel
theorem dX11_does_62 : decode cX11_does 62 = .ok (.aload_n 0, 1) := by decide +kernel
theorem dX11_does_63 : decode cX11_does 63 = .ok (.getfield 38, 3) := by decide +kernel
theorem dX11_does_66 : decode cX11_does 66 = .ok (.iload_n 2, 1) := by decide +kernel
theorem dX11_does_67 : decode cX11_does 67 = .ok (.invokevirtual 330, 3) := by decide +kernel
theorem dX11_does_70 : decode cX11_does 70 = .ok (.ifCond .lt 7, 3) := by decide +kernel
theorem dX11_does_73 : decode cX11_does 73 = .ok (.iconst 1, 1) := by decide +kernel
theorem dX11_does_74 : decode cX11_does 74 = .ok (.goto 4, 3) := by decide +kernel
theorem dX11_does_77 : decode cX11_does 77 = .ok (.iconst 0, 1) := by decide +kernel
theorem dX11_does_78 : decode cX11_does 78 = .ok (.ireturn, 1) := by decide +kernel
theorem dX11_does_79 : decode cX11_does 79 = .ok (.aload_n 0, 1) := by decide +kernel
theorem dX11_does_80 : decode cX11_does 80 = .ok (.iload_n 2, 1) := by decide +kernel
theorem dX11_does_81 : decode cX11_does 81 = .ok (.invokevirtual 333, 3) := by decide +kernel
theorem dX11_does_84 : decode cX11_does 84 = .ok (.ifCond .lt 7, 3) := by decide +kernel
theorem dX11_does_87 : decode cX11_does 87 = .ok (.iconst 1, 1) := by decide +kernel
theorem dX11_does_88 : decode cX11_does 88 = .ok (.goto 4, 3) := by decide +kernel
theorem dX11_does_91 : decode cX11_does 91 = .ok (.iconst 0, 1) := by decide +kernel
theorem dX11_does_92 : decode cX11_does 92 = .ok (.ireturn, 1) := by decide +kernel
theorem dX11_does_93 : decode cX11_does 93 = .ok (.aload_n 0, 1) := by decide +kernel
theorem dX11_does_94 : decode cX11_does 94 = .ok (.aload_n 0, 1) := by decide +kernel
theorem dX11_does_95 : decode cX11_does 95 = .ok (.getfield 38, 3) := by decide +kernel
theorem dX11_does_98 : decode cX11_does 98 = .ok (.iload_n 2, 1) := by decide +kernel
theorem dX11_does_99 : decode cX11_does 99 = .ok (.invokevirtual 336, 3) := by decide +kernel
theorem dX11_does_102 : decode cX11_does 102 = .ok (.ifCond .lt 7, 3) := by decide +kernel
theorem dX11_does_105 : decode cX11_does 105 = .ok (.iconst 1, 1) := by decide +kernel
theorem dX11_does_106 : decode cX11_does 106 = .ok (.goto 4, 3) := by decide +kernel
theorem dX11_does_109 : decode cX11_does 109 = .ok (.iconst 0, 1) := by decide +kernel
theorem dX11_does_110 : decode cX11_does 110 = .ok (.ireturn, 1) := by decide +kernel
theorem dX11_does_111 : decode cX11_does 111 = .ok (.aload_n 0, 1) := by decide +kernel
theorem dX11_does_112 : decode cX11_does 112 = .ok (.aload_n 0, 1) := by decide +kernel
theorem dX11_does_113 : decode cX11_does 113 = .ok (.getfield 38, 3) := by decide +kernel
theorem dX11_does_116 : decode cX11_does 116 = .ok (.iload_n 2, 1) := by decide +kernel
theorem dX11_does_117 : decode cX11_does 117 = .ok (.aload_n 0, 1) := by decide +kernel
theorem dX11_does_118 : decode cX11_does 118 = .ok (.getfield 80, 3) := by decide +kernel
theorem dX11_does_121 : decode cX11_does 121 = .ok (.iload_n 1, 1) := by decide +kernel
theorem dX11_does_122 : decode cX11_does 122 = .ok (.iaload, 1) := by decide +kernel
theorem dX11_does_123 : decode cX11_does 123 = .ok (.invokevirtual 323, 3) := by decide +kernel
theorem dX11_does_126 : decode cX11_does 126 = .ok (.ifCond .lt 7, 3) := by decide +kernel
theorem dX11_does_129 : decode cX11_does 129 = .ok (.iconst 1, 1) := by decide +kernel
theorem dX11_does_130 : decode cX11_does 130 = .ok (.goto 4, 3) := by decide +kernel
theorem dX11_does_133 : decode cX11_does 133 = .ok (.iconst 0, 1) := by decide +kernel
theorem dX11_does_134 : decode cX11_does 134 = .ok (.ireturn, 1) := by decide +kernel
theorem dX11_does_135 : decode cX11_does 135 = .ok (.aload_n 0, 1) := by decide +kernel
theorem dX11_does_136 : decode cX11_does 136 = .ok (.iload_n 2, 1) := by decide +kernel
theorem dX11_does_137 : decode cX11_does 137 = .ok (.aload_n 0, 1) := by decide +kernel
theorem dX11_does_138 : decode cX11_does 138 = .ok (.getfield 80, 3) := by decide +kernel
theorem dX11_does_141 : decode cX11_does 141 = .ok (.iload_n 1, 1) := by decide +kernel
theorem dX11_does_142 : decode cX11_does 142 = .ok (.iaload, 1) := by decide +kernel
theorem dX11_does_143 : decode cX11_does 143 = .ok (.invokevirtual 342, 3) := by decide +kernel
theorem dX11_does_146 : decode cX11_does 146 = .ok (.ifCond .lt 7, 3) := by decide +kernel
theorem dX11_does_149 : decode cX11_does 149 = .ok (.iconst 1, 1) := by decide +kernel
theorem dX11_does_150 : decode cX11_does 150 = .ok (.goto 4, 3) := by decide +kernel
theorem dX11_does_153 : decode cX11_does 153 = .ok (.iconst 0, 1) := by decide +kernel
theorem dX11_does_154 : decode cX11_does 154 = .ok (.ireturn, 1) := by decide +kernel
theorem dX11_day_0 : decode cX11_day 0 = .ok (.aload_n 0, 1) := by decide +kernel
theorem dX11_day_1 : decode cX11_day 1 = .ok (.iconst 0, 1) := by decide +kernel
theorem dX11_day_2 : decode cX11_day 2 = .ok (.putfield 3, 3) := by decide +kernel
theorem dX11_day_5 : decode cX11_day 5 = .ok (.aload_n 0, 1) := by decide +kernel
theorem dX11_day_6 : decode cX11_day 6 = .ok (.bipush 60, 2) := by decide +kernel
theorem dX11_day_8 : decode cX11_day 8 = .ok (.invokevirtual 187, 3) := by decide +kernel
theorem dX11_day_11 : decode cX11_day 11 = .ok (.istore_n 1, 1) := by decide +kernel
theorem dX11_day_12 : decode cX11_day 12 = .ok (.aload_n 0, 1) := by decide +kernel
theorem dX11_day_13 : decode cX11_day 13 = .ok (.iconst 0, 1) := by decide +kernel
theorem dX11_day_14 : decode cX11_day 14 = .ok (.putfield 345, 3) := by decide +kernel
theorem dX11_day_17 : decode cX11_day 17 = .ok (.iconst 1, 1) := by decide +kernel
theorem dX11_day_18 : decode cX11_day 18 = .ok (.istore_n 2, 1) := by decide +kernel
theorem dX11_day_19 : decode cX11_day 19 = .ok (.iload_n 2, 1) := by decide +kernel
theorem dX11_day_20 : decode cX11_day 20 = .ok (.ifCond .eq 22, 3) := by decide +kernel
theorem dX11_day_23 : decode cX11_day 23 = .ok (.aload_n 0, 1) := by decide +kernel
theorem dX11_day_24 : decode cX11_day 24 = .ok (.getfield 136, 3) := by decide +kernel
theorem dX11_day_27 : decode cX11_day 27 = .ok (.aload_n 0, 1) := by decide +kernel
theorem dX11_day_28 : decode cX11_day 28 = .ok (.getfield 148, 3) := by decide +kernel
theorem dX11_day_31 : decode cX11_day 31 = .ok (.if_icmp .ge 11, 3) := by decide +kernel
theorem dX11_day_34 : decode cX11_day 34 = .ok (.aload_n 0, 1) := by decide +kernel
theorem dX11_day_35 : decode cX11_day 35 = .ok (.invokevirtual 350, 3) := by decide +kernel
theorem dX11_day_38 : decode cX11_day 38 = .ok (.istore_n 2, 1) := by decide +kernel
theorem dX11_day_39 : decode cX11_day 39 = .ok (.goto (-20), 3) := by decide +kernel
theorem dX11_day_42 : decode cX11_day 42 = .ok (.aload_n 0, 1) := by decide +kernel
theorem dX11_day_43 : decode cX11_day 43 = .ok (.iload_n 1, 1) := by decide +kernel
theorem dX11_day_44 : decode cX11_day 44 = .ok (.bipush 60, 2) := by decide +kernel
theorem dX11_day_46 : decode cX11_day 46 = .ok (.iload_n 2, 1) := by decide +kernel
theorem dX11_day_47 : decode cX11_day 47 = .ok (.invokevirtual 237, 3) := by decide +kernel
theorem dX11_day_50 : decode cX11_day 50 = .ok (.istore_n 3, 1) := by decide +kernel
theorem dX11_day_51 : decode cX11_day 51 = .ok (.iload_n 3, 1) := by decide +kernel
theorem dX11_day_52 : decode cX11_day 52 = .ok (.ifCond .ge 5, 3) := by decide +kernel
theorem dX11_day_55 : decode cX11_day 55 = .ok (.iload_n 3, 1) := by decide +kernel
theorem dX11_day_56 : decode cX11_day 56 = .ok (.ireturn, 1) := by decide +kernel
theorem dX11_day_57 : decode cX11_day 57 = .ok (.aload_n 0, 1) := by decide +kernel
theorem dX11_day_58 : decode cX11_day 58 = .ok (.invokevirtual 320, 3) := by decide +kernel
theorem dX11_day_61 : decode cX11_day 61 = .ok (.iconst 0, 1) := by decide +kernel
theorem dX11_day_62 : decode cX11_day 62 = .ok (.istore 4, 2) := by decide +kernel
theorem dX11_day_64 : decode cX11_day 64 = .ok (.iload 4, 2) := by decide +kernel
theorem dX11_day_66 : decode cX11_day 66 = .ok (.aload_n 0, 1) := by decide +kernel
theorem dX11_day_67 : decode cX11_day 67 = .ok (.getfield 345, 3) := by decide +kernel
theorem dX11_day_70 : decode cX11_day 70 = .ok (.if_icmp .ge 18, 3) := by decide +kernel
theorem dX11_day_73 : decode cX11_day 73 = .ok (.aload_n 0, 1) := by decide +kernel
theorem dX11_day_74 : decode cX11_day 74 = .ok (.iload 4, 2) := by decide +kernel
theorem dX11_day_76 : decode cX11_day 76 = .ok (.invokevirtual 353, 3) := by decide +kernel
theorem dX11_day_79 : decode cX11_day 79 = .ok (.ifCond .eq 9, 3) := by decide +kernel
theorem dX11_day_82 : decode cX11_day 82 = .ok (.iinc 4 1, 3) := by decide +kernel
theorem dX11_day_85 : decode cX11_day 85 = .ok (.goto (-21), 3) := by decide +kernel
theorem dX11_day_88 : decode cX11_day 88 = .ok (.aload_n 0, 1) := by decide +kernel
theorem dX11_day_89 : decode cX11_day 89 = .ok (.iconst 0, 1) := by decide +kernel
theorem dX11_day_90 : decode cX11_day 90 = .ok (.putfield 15, 3) := by decide +kernel
theorem dX11_day_93 : decode cX11_day 93 = .ok (.aload_n 0, 1) := by decide +kernel
theorem dX11_day_94 : decode cX11_day 94 = .ok (.iload 4, 2) := by decide +kernel
theorem dX11_day_96 : decode cX11_day 96 = .ok (.aload_n 0, 1) := by decide +kernel
theorem dX11_day_97 : decode cX11_day 97 = .ok (.getfield 345, 3) := by decide +kernel
theorem dX11_day_100 : decode cX11_day 100 = .ok (.if_icmp .ge 7, 3) := by decide +kernel
theorem dX11_day_103 : decode cX11_day 103 = .ok (.iconst 1, 1) := by decide +kernel
theorem dX11_day_104 : decode cX11_day 104 = .ok (.goto 4, 3) := by decide +kernel
theorem dX11_day_107 : decode cX11_day 107 = .ok (.iconst 0, 1) := by decide +kernel
theorem dX11_day_108 : decode cX11_day 108 = .ok (.invokestatic 151, 3) := by decide +kernel
theorem dX11_day_111 : decode cX11_day 111 = .ok (.i2l, 1) := by decide +kernel
theorem dX11_day_112 : decode cX11_day 112 = .ok (.invokevirtual 18, 3) := by decide +kernel
theorem dX11_day_115 : decode cX11_day 115 = .ok (.aload_n 0, 1) := by decide +kernel
theorem dX11_day_116 : decode cX11_day 116 = .ok (.aload_n 0, 1) := by decide +kernel
theorem dX11_day_117 : decode cX11_day 117 = .ok (.getfield 38, 3) := by decide +kernel
theorem dX11_day_120 : decode cX11_day 120 = .ok (.bipush 8, 2) := by decide +kernel
theorem dX11_day_122 : decode cX11_day 122 = .ok (.iaload, 1) := by decide +kernel
theorem dX11_day_123 : decode cX11_day 123 = .ok (.i2l, 1) := by decide +kernel
theorem dX11_day_124 : decode cX11_day 124 = .ok (.invokevirtual 18, 3) := by decide +kernel
theorem dX11_day_127 : decode cX11_day 127 = .ok (.iload 4, 2) := by decide +kernel
theorem dX11_day_129 : decode cX11_day 129 = .ok (.ifCond .le 12, 3) := by decide +kernel
theorem dX11_day_132 : decode cX11_day 132 = .ok (.aload_n 0, 1) := by decide +kernel
theorem dX11_day_133 : decode cX11_day 133 = .ok (.iload 4, 2) := by decide +kernel
theorem dX11_day_135 : decode cX11_day 135 = .ok (.invokevirtual 289, 3) := by decide +kernel
theorem dX11_day_138 : decode cX11_day 138 = .ok (.goto 4, 3) := by decide +kernel
theorem dX11_day_141 : decode cX11_day 141 = .ok (.iconst 0, 1) := by decide +kernel
theorem dX11_day_142 : decode cX11_day 142 = .ok (.ireturn, 1) := by decide +kernel
theorem dX11_stepOf_0 : decode cX11_stepOf 0 = .ok (.aload_n 0, 1) := by decide +kernel
theorem dX11_stepOf_1 : decode cX11_stepOf 1 = .ok (.aload_n 1, 1) := by decide +kernel
theorem dX11_stepOf_2 : decode cX11_stepOf 2 = .ok (.iload_n 2, 1) := by decide +kernel
theorem dX11_stepOf_3 : decode cX11_stepOf 3 = .ok (.invokevirtual 296, 3) := by decide +kernel
theorem dX11_stepOf_6 : decode cX11_stepOf 6 = .ok (.istore_n 3, 1) := by decide +kernel
theorem dX11_stepOf_7 : decode cX11_stepOf 7 = .ok (.iload_n 3, 1) := by decide +kernel
theorem dX11_stepOf_8 : decode cX11_stepOf 8 = .ok (.ifCond .ne 8, 3) := by decide +kernel
theorem dX11_stepOf_11 : decode cX11_stepOf 11 = .ok (.aload_n 1, 1) := by decide +kernel
theorem dX11_stepOf_12 : decode cX11_stepOf 12 = .ok (.iconst 0, 1) := by decide +kernel
theorem dX11_stepOf_13 : decode cX11_stepOf 13 = .ok (.invokestatic 299, 3) := by decide +kernel
theorem dX11_stepOf_16 : decode cX11_stepOf 16 = .ok (.iload_n 3, 1) := by decide +kernel
theorem dX11_stepOf_17 : decode cX11_stepOf 17 = .ok (.ireturn, 1) := by decide +kernel
theorem dX11_walkOf_0 : decode cX11_walkOf 0 = .ok (.iload_n 1, 1) := by decide +kernel
theorem dX11_walkOf_1 : decode cX11_walkOf 1 = .ok (.istore_n 2, 1) := by decide +kernel
theorem dX11_walkOf_2 : decode cX11_walkOf 2 = .ok (.iconst 0, 1) := by decide +kernel
theorem dX11_walkOf_3 : decode cX11_walkOf 3 = .ok (.istore_n 3, 1) := by decide +kernel
theorem dX11_walkOf_4 : decode cX11_walkOf 4 = .ok (.iconst 0, 1) := by decide +kernel
theorem dX11_walkOf_5 : decode cX11_walkOf 5 = .ok (.istore 4, 2) := by decide +kernel
theorem dX11_walkOf_7 : decode cX11_walkOf 7 = .ok (.iload 4, 2) := by decide +kernel
theorem dX11_walkOf_9 : decode cX11_walkOf 9 = .ok (.bipush 8, 2) := by decide +kernel
theorem dX11_walkOf_11 : decode cX11_walkOf 11 = .ok (.if_icmp .ge 17, 3) := by decide +kernel
theorem dX11_walkOf_14 : decode cX11_walkOf 14 = .ok (.aload_n 0, 1) := by decide +kernel
theorem dX11_walkOf_15 : decode cX11_walkOf 15 = .ok (.getfield 83, 3) := by decide +kernel
theorem dX11_walkOf_18 : decode cX11_walkOf 18 = .ok (.iload 4, 2) := by decide +kernel
theorem dX11_walkOf_20 : decode cX11_walkOf 20 = .ok (.iconst 0, 1) := by decide +kernel
theorem dX11_walkOf_21 : decode cX11_walkOf 21 = .ok (.iastore, 1) := by decide +kernel
theorem dX11_walkOf_22 : decode cX11_walkOf 22 = .ok (.iinc 4 1, 3) := by decide +kernel
theorem dX11_walkOf_25 : decode cX11_walkOf 25 = .ok (.goto (-18), 3) := by decide +kernel
theorem dX11_walkOf_28 : decode cX11_walkOf 28 = .ok (.iload_n 2, 1) := by decide +kernel
theorem dX11_walkOf_29 : decode cX11_walkOf 29 = .ok (.ifCond .le 36, 3) := by decide +kernel
theorem dX11_walkOf_32 : decode cX11_walkOf 32 = .ok (.iload_n 3, 1) := by decide +kernel
theorem dX11_walkOf_33 : decode cX11_walkOf 33 = .ok (.sipush 999, 3) := by decide +kernel
theorem dX11_walkOf_36 : decode cX11_walkOf 36 = .ok (.if_icmp .ge 29, 3) := by decide +kernel
theorem dX11_walkOf_39 : decode cX11_walkOf 39 = .ok (.aload_n 0, 1) := by decide +kernel
theorem dX11_walkOf_40 : decode cX11_walkOf 40 = .ok (.getfield 83, 3) := by decide +kernel
theorem dX11_walkOf_43 : decode cX11_walkOf 43 = .ok (.iload_n 2, 1) := by decide +kernel
theorem dX11_walkOf_44 : decode cX11_walkOf 44 = .ok (.dup2, 1) := by decide +kernel
theorem dX11_walkOf_45 : decode cX11_walkOf 45 = .ok (.iaload, 1) := by decide +kernel
theorem dX11_walkOf_46 : decode cX11_walkOf 46 = .ok (.iconst 1, 1) := by decide +kernel
theorem dX11_walkOf_47 : decode cX11_walkOf 47 = .ok (.iadd, 1) := by decide +kernel
theorem dX11_walkOf_48 : decode cX11_walkOf 48 = .ok (.iastore, 1) := by decide +kernel
theorem dX11_walkOf_49 : decode cX11_walkOf 49 = .ok (.aload_n 0, 1) := by decide +kernel
theorem dX11_walkOf_50 : decode cX11_walkOf 50 = .ok (.aload_n 0, 1) := by decide +kernel
theorem dX11_walkOf_51 : decode cX11_walkOf 51 = .ok (.getfield 41, 3) := by decide +kernel
theorem dX11_walkOf_54 : decode cX11_walkOf 54 = .ok (.iload_n 2, 1) := by decide +kernel
theorem dX11_walkOf_55 : decode cX11_walkOf 55 = .ok (.invokevirtual 356, 3) := by decide +kernel
theorem dX11_walkOf_58 : decode cX11_walkOf 58 = .ok (.istore_n 2, 1) := by decide +kernel
theorem dX11_walkOf_59 : decode cX11_walkOf 59 = .ok (.iinc 3 1, 3) := by decide +kernel
theorem dX11_walkOf_62 : decode cX11_walkOf 62 = .ok (.goto (-34), 3) := by decide +kernel
theorem dX11_walkOf_65 : decode cX11_walkOf 65 = .ok (.iload_n 2, 1) := by decide +kernel
theorem dX11_walkOf_66 : decode cX11_walkOf 66 = .ok (.ifCond .le 8, 3) := by decide +kernel
theorem dX11_walkOf_69 : decode cX11_walkOf 69 = .ok (.bipush (-3), 2) := by decide +kernel
theorem dX11_walkOf_71 : decode cX11_walkOf 71 = .ok (.goto 4, 3) := by decide +kernel
theorem dX11_walkOf_74 : decode cX11_walkOf 74 = .ok (.iload_n 3, 1) := by decide +kernel
theorem dX11_walkOf_75 : decode cX11_walkOf 75 = .ok (.ireturn, 1) := by decide +kernel
theorem dX11_placeAfter_0 : decode cX11_placeAfter 0 = .ok (.aload_n 0, 1) := by decide +kernel
theorem dX11_placeAfter_1 : decode cX11_placeAfter 1 = .ok (.getfield 41, 3) := by decide +kernel
theorem dX11_placeAfter_4 : decode cX11_placeAfter 4 = .ok (.aload_n 0, 1) := by decide +kernel
theorem dX11_placeAfter_5 : decode cX11_placeAfter 5 = .ok (.getfield 38, 3) := by decide +kernel
theorem dX11_placeAfter_8 : decode cX11_placeAfter 8 = .ok (.invokestatic 307, 3) := by decide +kernel
theorem dX11_placeAfter_11 : decode cX11_placeAfter 11 = .ok (.iload_n 1, 1) := by decide +kernel
theorem dX11_placeAfter_12 : decode cX11_placeAfter 12 = .ok (.istore_n 3, 1) := by decide +kernel
theorem dX11_placeAfter_13 : decode cX11_placeAfter 13 = .ok (.aload_n 0, 1) := by decide +kernel
theorem dX11_placeAfter_14 : decode cX11_placeAfter 14 = .ok (.iconst 0, 1) := by decide +kernel
theorem dX11_placeAfter_15 : decode cX11_placeAfter 15 = .ok (.putfield 359, 3) := by decide +kernel
theorem dX11_placeAfter_18 : decode cX11_placeAfter 18 = .ok (.aload_n 0, 1) := by decide +kernel
theorem dX11_placeAfter_19 : decode cX11_placeAfter 19 = .ok (.iconst 1, 1) := by decide +kernel
theorem dX11_placeAfter_20 : decode cX11_placeAfter 20 = .ok (.putfield 362, 3) := by decide +kernel
theorem dX11_placeAfter_23 : decode cX11_placeAfter 23 = .ok (.iload_n 3, 1) := by decide +kernel
theorem dX11_placeAfter_24 : decode cX11_placeAfter 24 = .ok (.ifCond .le 56, 3) := by decide +kernel
theorem dX11_placeAfter_27 : decode cX11_placeAfter 27 = .ok (.aload_n 0, 1) := by decide +kernel
theorem dX11_placeAfter_28 : decode cX11_placeAfter 28 = .ok (.getfield 359, 3) := by decide +kernel
theorem dX11_placeAfter_31 : decode cX11_placeAfter 31 = .ok (.iload_n 2, 1) := by decide +kernel
theorem dX11_placeAfter_32 : decode cX11_placeAfter 32 = .ok (.if_icmp .ge 48, 3) := by decide +kernel
theorem dX11_placeAfter_35 : decode cX11_placeAfter 35 = .ok (.aload_n 0, 1) := by decide +kernel
theorem dX11_placeAfter_36 : decode cX11_placeAfter 36 = .ok (.aload_n 0, 1) := by decide +kernel
theorem dX11_placeAfter_37 : decode cX11_placeAfter 37 = .ok (.getfield 41, 3) := by decide +kernel
theorem dX11_placeAfter_40 : decode cX11_placeAfter 40 = .ok (.iload_n 3, 1) := by decide +kernel
theorem dX11_placeAfter_41 : decode cX11_placeAfter 41 = .ok (.invokevirtual 356, 3) := by decide +kernel
theorem dX11_placeAfter_44 : decode cX11_placeAfter 44 = .ok (.istore_n 3, 1) := by decide +kernel
theorem dX11_placeAfter_45 : decode cX11_placeAfter 45 = .ok (.aload_n 0, 1) := by decide +kernel
theorem dX11_placeAfter_46 : decode cX11_placeAfter 46 = .ok (.dup, 1) := by decide +kernel
theorem dX11_placeAfter_47 : decode cX11_placeAfter 47 = .ok (.getfield 359, 3) := by decide +kernel
theorem dX11_placeAfter_50 : decode cX11_placeAfter 50 = .ok (.iconst 1, 1) := by decide +kernel
theorem dX11_placeAfter_51 : decode cX11_placeAfter 51 = .ok (.iadd, 1) := by decide +kernel
theorem dX11_placeAfter_52 : decode cX11_placeAfter 52 = .ok (.putfield 359, 3) := by decide +kernel
theorem dX11_placeAfter_55 : decode cX11_placeAfter 55 = .ok (.aload_n 0, 1) := by decide +kernel
theorem dX11_placeAfter_56 : decode cX11_placeAfter 56 = .ok (.dup, 1) := by decide +kernel
theorem dX11_placeAfter_57 : decode cX11_placeAfter 57 = .ok (.getfield 362, 3) := by decide +kernel
theorem dX11_placeAfter_60 : decode cX11_placeAfter 60 = .ok (.iload_n 3, 1) := by decide +kernel
theorem dX11_placeAfter_61 : decode cX11_placeAfter 61 = .ok (.iload_n 1, 1) := by decide +kernel
theorem dX11_placeAfter_62 : decode cX11_placeAfter 62 = .ok (.if_icmp .ne 7, 3) := by decide +kernel
theorem dX11_placeAfter_65 : decode cX11_placeAfter 65 = .ok (.iconst 1, 1) := by decide +kernel
theorem dX11_placeAfter_66 : decode cX11_placeAfter 66 = .ok (.goto 4, 3) := by decide +kernel
theorem dX11_placeAfter_69 : decode cX11_placeAfter 69 = .ok (.iconst 0, 1) := by decide +kernel
theorem dX11_placeAfter_70 : decode cX11_placeAfter 70 = .ok (.invokestatic 151, 3) := by decide +kernel
theorem dX11_placeAfter_73 : decode cX11_placeAfter 73 = .ok (.iadd, 1) := by decide +kernel
theorem dX11_placeAfter_74 : decode cX11_placeAfter 74 = .ok (.putfield 362, 3) := by decide +kernel
theorem dX11_placeAfter_77 : decode cX11_placeAfter 77 = .ok (.goto (-54), 3) := by decide +kernel
theorem dX11_placeAfter_80 : decode cX11_placeAfter 80 = .ok (.iload_n 3, 1) := by decide +kernel
theorem dX11_placeAfter_81 : decode cX11_placeAfter 81 = .ok (.ireturn, 1) := by decide +kernel
theorem dX11_later_0 : decode cX11_later 0 = .ok (.aload_n 0, 1) := by decide +kernel
theorem dX11_later_1 : decode cX11_later 1 = .ok (.iconst 0, 1) := by decide +kernel
theorem dX11_later_2 : decode cX11_later 2 = .ok (.putfield 3, 3) := by decide +kernel
theorem dX11_later_5 : decode cX11_later 5 = .ok (.aload_n 0, 1) := by decide +kernel
theorem dX11_later_6 : decode cX11_later 6 = .ok (.iload_n 1, 1) := by decide +kernel
theorem dX11_later_7 : decode cX11_later 7 = .ok (.invokevirtual 280, 3) := by decide +kernel
theorem dX11_later_10 : decode cX11_later 10 = .ok (.ifCond .eq 15, 3) := by decide +kernel
theorem dX11_later_13 : decode cX11_later 13 = .ok (.iload_n 2, 1) := by decide +kernel
theorem dX11_later_14 : decode cX11_later 14 = .ok (.i2l, 1) := by decide +kernel
theorem dX11_later_15 : decode cX11_later 15 = .ok (.lconst 0, 1) := by decide +kernel
theorem dX11_later_16 : decode cX11_later 16 = .ok (.ldc2_w 302, 3) := by decide +kernel
theorem dX11_later_19 : decode cX11_later 19 = .ok (.invokestatic 129, 3) := by decide +kernel
theorem dX11_later_22 : decode cX11_later 22 = .ok (.ifCond .ne 5, 3) := by decide +kernel
theorem dX11_later_25 : decode cX11_later 25 = .ok (.iconst (-1), 1) := by decide +kernel
theorem dX11_later_26 : decode cX11_later 26 = .ok (.ireturn, 1) := by decide +kernel
theorem dX11_later_27 : decode cX11_later 27 = .ok (.aload_n 0, 1) := by decide +kernel
theorem dX11_later_28 : decode cX11_later 28 = .ok (.iload_n 1, 1) := by decide +kernel
theorem dX11_later_29 : decode cX11_later 29 = .ok (.iload_n 2, 1) := by decide +kernel
theorem dX11_later_30 : decode cX11_later 30 = .ok (.invokevirtual 365, 3) := by decide +kernel
theorem dX11_later_33 : decode cX11_later 33 = .ok (.istore_n 3, 1) := by decide +kernel
theorem dX11_later_34 : decode cX11_later 34 = .ok (.aload_n 0, 1) := by decide +kernel
theorem dX11_later_35 : decode cX11_later 35 = .ok (.iconst 0, 1) := by decide +kernel
theorem dX11_later_36 : decode cX11_later 36 = .ok (.putfield 15, 3) := by decide +kernel
theorem dX11_later_39 : decode cX11_later 39 = .ok (.aload_n 0, 1) := by decide +kernel
theorem dX11_later_40 : decode cX11_later 40 = .ok (.aload_n 0, 1) := by decide +kernel
theorem dX11_later_41 : decode cX11_later 41 = .ok (.getfield 359, 3) := by decide +kernel
theorem dX11_later_44 : decode cX11_later 44 = .ok (.i2l, 1) := by decide +kernel
theorem dX11_later_45 : decode cX11_later 45 = .ok (.invokevirtual 18, 3) := by decide +kernel
theorem dX11_later_48 : decode cX11_later 48 = .ok (.aload_n 0, 1) := by decide +kernel
theorem dX11_later_49 : decode cX11_later 49 = .ok (.aload_n 0, 1) := by decide +kernel
theorem dX11_later_50 : decode cX11_later 50 = .ok (.getfield 362, 3) := by decide +kernel
theorem dX11_later_53 : decode cX11_later 53 = .ok (.i2l, 1) := by decide +kernel
theorem dX11_later_54 : decode cX11_later 54 = .ok (.invokevirtual 18, 3) := by decide +kernel
theorem dX11_later_57 : decode cX11_later 57 = .ok (.iload_n 3, 1) := by decide +kernel
theorem dX11_later_58 : decode cX11_later 58 = .ok (.ireturn, 1) := by decide +kernel
theorem dX11_home_0 : decode cX11_home 0 = .ok (.aload_n 0, 1) := by decide +kernel
theorem dX11_home_1 : decode cX11_home 1 = .ok (.iconst 0, 1) := by decide +kernel
theorem dX11_home_2 : decode cX11_home 2 = .ok (.putfield 3, 3) := by decide +kernel
theorem dX11_home_5 : decode cX11_home 5 = .ok (.aload_n 0, 1) := by decide +kernel
theorem dX11_home_6 : decode cX11_home 6 = .ok (.iload_n 1, 1) := by decide +kernel
theorem dX11_home_7 : decode cX11_home 7 = .ok (.invokevirtual 280, 3) := by decide +kernel
theorem dX11_home_10 : decode cX11_home 10 = .ok (.ifCond .ne 5, 3) := by decide +kernel
theorem dX11_home_13 : decode cX11_home 13 = .ok (.iconst (-1), 1) := by decide +kernel
theorem dX11_home_14 : decode cX11_home 14 = .ok (.ireturn, 1) := by decide +kernel
theorem dX11_home_15 : decode cX11_home 15 = .ok (.aload_n 0, 1) := by decide +kernel
theorem dX11_home_16 : decode cX11_home 16 = .ok (.getfield 41, 3) := by decide +kernel
theorem dX11_home_19 : decode cX11_home 19 = .ok (.aload_n 0, 1) := by decide +kernel
theorem dX11_home_20 : decode cX11_home 20 = .ok (.getfield 38, 3) := by decide +kernel
theorem dX11_home_23 : decode cX11_home 23 = .ok (.invokestatic 307, 3) := by decide +kernel
theorem dX11_home_26 : decode cX11_home 26 = .ok (.aload_n 0, 1) := by decide +kernel
theorem dX11_home_27 : decode cX11_home 27 = .ok (.iload_n 1, 1) := by decide +kernel
theorem dX11_home_28 : decode cX11_home 28 = .ok (.invokevirtual 368, 3) := by decide +kernel
theorem dX11_home_31 : decode cX11_home 31 = .ok (.istore_n 2, 1) := by decide +kernel
theorem dX11_home_32 : decode cX11_home 32 = .ok (.iload_n 2, 1) := by decide +kernel
theorem dX11_home_33 : decode cX11_home 33 = .ok (.ifCond .lt 35, 3) := by decide +kernel
theorem dX11_home_36 : decode cX11_home 36 = .ok (.aload_n 0, 1) := by decide +kernel
theorem dX11_home_37 : decode cX11_home 37 = .ok (.iconst 0, 1) := by decide +kernel
theorem dX11_home_38 : decode cX11_home 38 = .ok (.putfield 15, 3) := by decide +kernel
theorem dX11_home_41 : decode cX11_home 41 = .ok (.iconst 1, 1) := by decide +kernel
theorem dX11_home_42 : decode cX11_home 42 = .ok (.istore_n 3, 1) := by decide +kernel
theorem dX11_home_43 : decode cX11_home 43 = .ok (.iload_n 3, 1) := by decide +kernel
theorem dX11_home_44 : decode cX11_home 44 = .ok (.aload_n 0, 1) := by decide +kernel
theorem dX11_home_45 : decode cX11_home 45 = .ok (.getfield 28, 3) := by decide +kernel
theorem dX11_home_48 : decode cX11_home 48 = .ok (.if_icmp .ge 20, 3) := by decide +kernel
theorem dX11_home_51 : decode cX11_home 51 = .ok (.aload_n 0, 1) := by decide +kernel
theorem dX11_home_52 : decode cX11_home 52 = .ok (.aload_n 0, 1) := by decide +kernel
theorem dX11_home_53 : decode cX11_home 53 = .ok (.getfield 83, 3) := by decide +kernel
theorem dX11_home_56 : decode cX11_home 56 = .ok (.iload_n 3, 1) := by decide +kernel
theorem dX11_home_57 : decode cX11_home 57 = .ok (.iaload, 1) := by decide +kernel
theorem dX11_home_58 : decode cX11_home 58 = .ok (.i2l, 1) := by decide +kernel
theorem dX11_home_59 : decode cX11_home 59 = .ok (.invokevirtual 18, 3) := by decide +kernel
theorem dX11_home_62 : decode cX11_home 62 = .ok (.iinc 3 1, 3) := by decide +kernel
theorem dX11_home_65 : decode cX11_home 65 = .ok (.goto (-22), 3) := by decide +kernel
theorem dX11_home_68 : decode cX11_home 68 = .ok (.iload_n 2, 1) := by decide +kernel
theorem dX11_home_69 : decode cX11_home 69 = .ok (.ireturn, 1) := by decide +kernel
theorem dX11_pass_0 : decode cX11_pass 0 = .ok (.aload_n 0, 1) := by decide +kernel
theorem dX11_pass_1 : decode cX11_pass 1 = .ok (.iconst 0, 1) := by decide +kernel
theorem dX11_pass_2 : decode cX11_pass 2 = .ok (.putfield 3, 3) := by decide +kernel
theorem dX11_pass_5 : decode cX11_pass 5 = .ok (.aload_n 0, 1) := by decide +kernel
theorem dX11_pass_6 : decode cX11_pass 6 = .ok (.iload_n 1, 1) := by decide +kernel
theorem dX11_pass_7 : decode cX11_pass 7 = .ok (.invokevirtual 280, 3) := by decide +kernel
theorem dX11_pass_10 : decode cX11_pass 10 = .ok (.ifCond .eq 23, 3) := by decide +kernel
theorem dX11_pass_13 : decode cX11_pass 13 = .ok (.aload_n 0, 1) := by decide +kernel
theorem dX11_pass_14 : decode cX11_pass 14 = .ok (.iload_n 2, 1) := by decide +kernel
theorem dX11_pass_15 : decode cX11_pass 15 = .ok (.invokevirtual 280, 3) := by decide +kernel
theorem dX11_pass_18 : decode cX11_pass 18 = .ok (.ifCond .eq 15, 3) := by decide +kernel
theorem dX11_pass_21 : decode cX11_pass 21 = .ok (.iload_n 3, 1) := by decide +kernel
theorem dX11_pass_22 : decode cX11_pass 22 = .ok (.i2l, 1) := by decide +kernel
theorem dX11_pass_23 : decode cX11_pass 23 = .ok (.lconst 1, 1) := by decide +kernel
theorem dX11_pass_24 : decode cX11_pass 24 = .ok (.ldc2_w 371, 3) := by decide +kernel
theorem dX11_pass_27 : decode cX11_pass 27 = .ok (.invokestatic 129, 3) := by decide +kernel
theorem dX11_pass_30 : decode cX11_pass 30 = .ok (.ifCond .ne 5, 3) := by decide +kernel
theorem dX11_pass_33 : decode cX11_pass 33 = .ok (.iconst (-1), 1) := by decide +kernel
theorem dX11_pass_34 : decode cX11_pass 34 = .ok (.ireturn, 1) := by decide +kernel
theorem dX11_pass_35 : decode cX11_pass 35 = .ok (.aload_n 0, 1) := by decide +kernel
theorem dX11_pass_36 : decode cX11_pass 36 = .ok (.getfield 41, 3) := by decide +kernel
theorem dX11_pass_39 : decode cX11_pass 39 = .ok (.aload_n 0, 1) := by decide +kernel
theorem dX11_pass_40 : decode cX11_pass 40 = .ok (.getfield 38, 3) := by decide +kernel
theorem dX11_pass_43 : decode cX11_pass 43 = .ok (.invokestatic 307, 3) := by decide +kernel
theorem dX11_pass_46 : decode cX11_pass 46 = .ok (.iconst 0, 1) := by decide +kernel
theorem dX11_pass_47 : decode cX11_pass 47 = .ok (.istore 4, 2) := by decide +kernel
theorem dX11_pass_49 : decode cX11_pass 49 = .ok (.iconst 0, 1) := by decide +kernel
theorem dX11_pass_50 : decode cX11_pass 50 = .ok (.istore 5, 2) := by decide +kernel
theorem dX11_pass_52 : decode cX11_pass 52 = .ok (.iconst 0, 1) := by decide +kernel
theorem dX11_pass_53 : decode cX11_pass 53 = .ok (.istore 6, 2) := by decide +kernel
theorem dX11_pass_55 : decode cX11_pass 55 = .ok (.iload 6, 2) := by decide +kernel
theorem dX11_pass_57 : decode cX11_pass 57 = .ok (.iload_n 3, 1) := by decide +kernel
theorem dX11_pass_58 : decode cX11_pass 58 = .ok (.if_icmp .ge 53, 3) := by decide +kernel
theorem dX11_pass_61 : decode cX11_pass 61 = .ok (.aload_n 0, 1) := by decide +kernel
theorem dX11_pass_62 : decode cX11_pass 62 = .ok (.iload_n 1, 1) := by decide +kernel
theorem dX11_pass_63 : decode cX11_pass 63 = .ok (.invokevirtual 368, 3) := by decide +kernel
theorem dX11_pass_66 : decode cX11_pass 66 = .ok (.istore 7, 2) := by decide +kernel
theorem dX11_pass_68 : decode cX11_pass 68 = .ok (.iload 7, 2) := by decide +kernel
theorem dX11_pass_70 : decode cX11_pass 70 = .ok (.ifCond .ge 6, 3) := by decide +kernel
theorem dX11_pass_73 : decode cX11_pass 73 = .ok (.bipush (-3), 2) := by decide +kernel
theorem dX11_pass_75 : decode cX11_pass 75 = .ok (.ireturn, 1) := by decide +kernel
theorem dX11_pass_76 : decode cX11_pass 76 = .ok (.iload 4, 2) := by decide +kernel
theorem dX11_pass_78 : decode cX11_pass 78 = .ok (.aload_n 0, 1) := by decide +kernel
theorem dX11_pass_79 : decode cX11_pass 79 = .ok (.getfield 83, 3) := by decide +kernel
theorem dX11_pass_82 : decode cX11_pass 82 = .ok (.iload_n 2, 1) := by decide +kernel
theorem dX11_pass_83 : decode cX11_pass 83 = .ok (.iaload, 1) := by decide +kernel
theorem dX11_pass_84 : decode cX11_pass 84 = .ok (.ifCond .le 7, 3) := by decide +kernel
theorem dX11_pass_87 : decode cX11_pass 87 = .ok (.iconst 1, 1) := by decide +kernel
theorem dX11_pass_88 : decode cX11_pass 88 = .ok (.goto 4, 3) := by decide +kernel
theorem dX11_pass_91 : decode cX11_pass 91 = .ok (.iconst 0, 1) := by decide +kernel
theorem dX11_pass_92 : decode cX11_pass 92 = .ok (.invokestatic 151, 3) := by decide +kernel
theorem dX11_pass_95 : decode cX11_pass 95 = .ok (.iadd, 1) := by decide +kernel
theorem dX11_pass_96 : decode cX11_pass 96 = .ok (.istore 4, 2) := by decide +kernel
theorem dX11_pass_98 : decode cX11_pass 98 = .ok (.iload 5, 2) := by decide +kernel
theorem dX11_pass_100 : decode cX11_pass 100 = .ok (.iload 7, 2) := by decide +kernel
theorem dX11_pass_102 : decode cX11_pass 102 = .ok (.iadd, 1) := by decide +kernel
theorem dX11_pass_103 : decode cX11_pass 103 = .ok (.istore 5, 2) := by decide +kernel
theorem dX11_pass_105 : decode cX11_pass 105 = .ok (.iinc 6 1, 3) := by decide +kernel
theorem dX11_pass_108 : decode cX11_pass 108 = .ok (.goto (-53), 3) := by decide +kernel
theorem dX11_pass_111 : decode cX11_pass 111 = .ok (.aload_n 0, 1) := by decide +kernel
theorem dX11_pass_112 : decode cX11_pass 112 = .ok (.iconst 0, 1) := by decide +kernel
theorem dX11_pass_113 : decode cX11_pass 113 = .ok (.putfield 15, 3) := by decide +kernel
theorem dX11_pass_116 : decode cX11_pass 116 = .ok (.aload_n 0, 1) := by decide +kernel
theorem dX11_pass_117 : decode cX11_pass 117 = .ok (.iload 5, 2) := by decide +kernel
theorem dX11_pass_119 : decode cX11_pass 119 = .ok (.i2l, 1) := by decide +kernel
theorem dX11_pass_120 : decode cX11_pass 120 = .ok (.invokevirtual 18, 3) := by decide +kernel
theorem dX11_pass_123 : decode cX11_pass 123 = .ok (.iload 4, 2) := by decide +kernel
theorem dX11_pass_125 : decode cX11_pass 125 = .ok (.ireturn, 1) := by decide +kernel
theorem dX11_arePosts_0 : decode cX11_arePosts 0 = .ok (.iconst 1, 1) := by decide +kernel
theorem dX11_arePosts_1 : decode cX11_arePosts 1 = .ok (.istore_n 3, 1) := by decide +kernel
theorem dX11_arePosts_2 : decode cX11_arePosts 2 = .ok (.iconst 1, 1) := by decide +kernel
theorem dX11_arePosts_3 : decode cX11_arePosts 3 = .ok (.istore 4, 2) := by decide +kernel
theorem dX11_arePosts_5 : decode cX11_arePosts 5 = .ok (.iload 4, 2) := by decide +kernel
theorem dX11_arePosts_7 : decode cX11_arePosts 7 = .ok (.aload_n 0, 1) := by decide +kernel
theorem dX11_arePosts_8 : decode cX11_arePosts 8 = .ok (.getfield 28, 3) := by decide +kernel
theorem dX11_arePosts_11 : decode cX11_arePosts 11 = .ok (.if_icmp .ge 30, 3) := by decide +kernel
theorem dX11_arePosts_14 : decode cX11_arePosts 14 = .ok (.iload_n 3, 1) := by decide +kernel
theorem dX11_arePosts_15 : decode cX11_arePosts 15 = .ok (.ifCond .eq 18, 3) := by decide +kernel
theorem dX11_arePosts_18 : decode cX11_arePosts 18 = .ok (.aload_n 1, 1) := by decide +kernel
theorem dX11_arePosts_19 : decode cX11_arePosts 19 = .ok (.iload 4, 2) := by decide +kernel
theorem dX11_arePosts_21 : decode cX11_arePosts 21 = .ok (.iaload, 1) := by decide +kernel
theorem dX11_arePosts_22 : decode cX11_arePosts 22 = .ok (.aload_n 2, 1) := by decide +kernel
theorem dX11_arePosts_23 : decode cX11_arePosts 23 = .ok (.iload 4, 2) := by decide +kernel
theorem dX11_arePosts_25 : decode cX11_arePosts 25 = .ok (.iaload, 1) := by decide +kernel
theorem dX11_arePosts_26 : decode cX11_arePosts 26 = .ok (.if_icmp .ne 7, 3) := by decide +kernel
theorem dX11_arePosts_29 : decode cX11_arePosts 29 = .ok (.iconst 1, 1) := by decide +kernel
theorem dX11_arePosts_30 : decode cX11_arePosts 30 = .ok (.goto 4, 3) := by decide +kernel
theorem dX11_arePosts_33 : decode cX11_arePosts 33 = .ok (.iconst 0, 1) := by decide +kernel
theorem dX11_arePosts_34 : decode cX11_arePosts 34 = .ok (.istore_n 3, 1) := by decide +kernel
theorem dX11_arePosts_35 : decode cX11_arePosts 35 = .ok (.iinc 4 1, 3) := by decide +kernel
theorem dX11_arePosts_38 : decode cX11_arePosts 38 = .ok (.goto (-33), 3) := by decide +kernel
theorem dX11_arePosts_41 : decode cX11_arePosts 41 = .ok (.iload_n 3, 1) := by decide +kernel
theorem dX11_arePosts_42 : decode cX11_arePosts 42 = .ok (.ireturn, 1) := by decide +kernel
theorem dX11_round_0 : decode cX11_round 0 = .ok (.aload_n 0, 1) := by decide +kernel
theorem dX11_round_1 : decode cX11_round 1 = .ok (.iconst 0, 1) := by decide +kernel
theorem dX11_round_2 : decode cX11_round 2 = .ok (.putfield 3, 3) := by decide +kernel
theorem dX11_round_5 : decode cX11_round 5 = .ok (.aload_n 0, 1) := by decide +kernel
theorem dX11_round_6 : decode cX11_round 6 = .ok (.iload_n 1, 1) := by decide +kernel
theorem dX11_round_7 : decode cX11_round 7 = .ok (.invokevirtual 280, 3) := by decide +kernel
theorem dX11_round_10 : decode cX11_round 10 = .ok (.ifCond .ne 5, 3) := by decide +kernel
theorem dX11_round_13 : decode cX11_round 13 = .ok (.iconst (-1), 1) := by decide +kernel
theorem dX11_round_14 : decode cX11_round 14 = .ok (.ireturn, 1) := by decide +kernel
theorem dX11_round_15 : decode cX11_round 15 = .ok (.aload_n 0, 1) := by decide +kernel
theorem dX11_round_16 : decode cX11_round 16 = .ok (.getfield 41, 3) := by decide +kernel
theorem dX11_round_19 : decode cX11_round 19 = .ok (.aload_n 0, 1) := by decide +kernel
theorem dX11_round_20 : decode cX11_round 20 = .ok (.getfield 38, 3) := by decide +kernel
theorem dX11_round_23 : decode cX11_round 23 = .ok (.invokestatic 307, 3) := by decide +kernel
theorem dX11_round_26 : decode cX11_round 26 = .ok (.iconst 0, 1) := by decide +kernel
theorem dX11_round_27 : decode cX11_round 27 = .ok (.istore_n 2, 1) := by decide +kernel
theorem dX11_round_28 : decode cX11_round 28 = .ok (.iconst 1, 1) := by decide +kernel
theorem dX11_round_29 : decode cX11_round 29 = .ok (.istore_n 3, 1) := by decide +kernel
theorem dX11_round_30 : decode cX11_round 30 = .ok (.iload_n 3, 1) := by decide +kernel
theorem dX11_round_31 : decode cX11_round 31 = .ok (.sipush 300, 3) := by decide +kernel
theorem dX11_round_34 : decode cX11_round 34 = .ok (.if_icmp .gt 57, 3) := by decide +kernel
theorem dX11_round_37 : decode cX11_round 37 = .ok (.aload_n 0, 1) := by decide +kernel
theorem dX11_round_38 : decode cX11_round 38 = .ok (.iload_n 1, 1) := by decide +kernel
theorem dX11_round_39 : decode cX11_round 39 = .ok (.invokevirtual 368, 3) := by decide +kernel
theorem dX11_round_42 : decode cX11_round 42 = .ok (.istore 4, 2) := by decide +kernel
theorem dX11_round_44 : decode cX11_round 44 = .ok (.iload 4, 2) := by decide +kernel
theorem dX11_round_46 : decode cX11_round 46 = .ok (.ifCond .ge 6, 3) := by decide +kernel
theorem dX11_round_49 : decode cX11_round 49 = .ok (.bipush (-3), 2) := by decide +kernel
theorem dX11_round_51 : decode cX11_round 51 = .ok (.ireturn, 1) := by decide +kernel
theorem dX11_round_52 : decode cX11_round 52 = .ok (.iload_n 2, 1) := by decide +kernel
theorem dX11_round_53 : decode cX11_round 53 = .ok (.iload 4, 2) := by decide +kernel
theorem dX11_round_55 : decode cX11_round 55 = .ok (.iadd, 1) := by decide +kernel
theorem dX11_round_56 : decode cX11_round 56 = .ok (.istore_n 2, 1) := by decide +kernel
theorem dX11_round_57 : decode cX11_round 57 = .ok (.aload_n 0, 1) := by decide +kernel
theorem dX11_round_58 : decode cX11_round 58 = .ok (.aload_n 0, 1) := by decide +kernel
theorem dX11_round_59 : decode cX11_round 59 = .ok (.getfield 41, 3) := by decide +kernel
theorem dX11_round_62 : decode cX11_round 62 = .ok (.aload_n 0, 1) := by decide +kernel
theorem dX11_round_63 : decode cX11_round 63 = .ok (.getfield 38, 3) := by decide +kernel
theorem dX11_round_66 : decode cX11_round 66 = .ok (.invokevirtual 373, 3) := by decide +kernel
theorem dX11_round_69 : decode cX11_round 69 = .ok (.ifCond .eq 16, 3) := by decide +kernel
theorem dX11_round_72 : decode cX11_round 72 = .ok (.aload_n 0, 1) := by decide +kernel
theorem dX11_round_73 : decode cX11_round 73 = .ok (.iconst 0, 1) := by decide +kernel
theorem dX11_round_74 : decode cX11_round 74 = .ok (.putfield 15, 3) := by decide +kernel
theorem dX11_round_77 : decode cX11_round 77 = .ok (.aload_n 0, 1) := by decide +kernel
theorem dX11_round_78 : decode cX11_round 78 = .ok (.iload_n 2, 1) := by decide +kernel
theorem dX11_round_79 : decode cX11_round 79 = .ok (.i2l, 1) := by decide +kernel
theorem dX11_round_80 : decode cX11_round 80 = .ok (.invokevirtual 18, 3) := by decide +kernel
theorem dX11_round_83 : decode cX11_round 83 = .ok (.iload_n 3, 1) := by decide +kernel
theorem dX11_round_84 : decode cX11_round 84 = .ok (.ireturn, 1) := by decide +kernel
theorem dX11_round_85 : decode cX11_round 85 = .ok (.iinc 3 1, 3) := by decide +kernel
theorem dX11_round_88 : decode cX11_round 88 = .ok (.goto (-58), 3) := by decide +kernel
theorem dX11_round_91 : decode cX11_round 91 = .ok (.bipush (-2), 2) := by decide +kernel
theorem dX11_round_93 : decode cX11_round 93 = .ok (.ireturn, 1) := by decide +kernel
