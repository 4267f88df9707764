theorem dX0_init_0 : decode cX0_init 0 = .ok (.aload_n 0, 1) := by decide +kernel
theorem dX0_init_1 : decode cX0_init 1 = .ok (.invokespecial 3, 3) := by decide +kernel
theorem dX0_init_4 : decode cX0_init 4 = .ok (.aload_n 0, 1) := by decide +kernel
theorem dX0_init_5 : decode cX0_init 5 = .ok (.bipush 8, 2) := by decide +kernel
theorem dX0_init_7 : decode cX0_init 7 = .ok (.bipush 9, 2) := by decide +kernel
theorem dX0_init_9 : decode cX0_init 9 = .ok (.multianewarray 9 2, 4) := by decide +kernel
theorem dX0_init_13 : decode cX0_init 13 = .ok (.putfield 11, 3) := by decide +kernel
theorem dX0_init_16 : decode cX0_init 16 = .ok (.aload_n 0, 1) := by decide +kernel
theorem dX0_init_17 : decode cX0_init 17 = .ok (.bipush 8, 2) := by decide +kernel
theorem dX0_init_19 : decode cX0_init 19 = .ok (.newarray .long, 2) := by decide +kernel
theorem dX0_init_21 : decode cX0_init 21 = .ok (.putfield 16, 3) := by decide +kernel
theorem dX0_init_24 : decode cX0_init 24 = .ok (.aload_n 0, 1) := by decide +kernel
theorem dX0_init_25 : decode cX0_init 25 = .ok (.bipush 8, 2) := by decide +kernel
theorem dX0_init_27 : decode cX0_init 27 = .ok (.newarray .long, 2) := by decide +kernel
theorem dX0_init_29 : decode cX0_init 29 = .ok (.putfield 20, 3) := by decide +kernel
theorem dX0_init_32 : decode cX0_init 32 = .ok (.return_, 1) := by decide +kernel
theorem dX0_treesWith_0 : decode cX0_treesWith 0 = .ok (.aload_n 1, 1) := by decide +kernel
theorem dX0_treesWith_1 : decode cX0_treesWith 1 = .ok (.invokevirtual 23, 3) := by decide +kernel
theorem dX0_treesWith_4 : decode cX0_treesWith 4 = .ok (.iconst 1, 1) := by decide +kernel
theorem dX0_treesWith_5 : decode cX0_treesWith 5 = .ok (.isub, 1) := by decide +kernel
theorem dX0_treesWith_6 : decode cX0_treesWith 6 = .ok (.istore 4, 2) := by decide +kernel
theorem dX0_treesWith_8 : decode cX0_treesWith 8 = .ok (.aload_n 0, 1) := by decide +kernel
theorem dX0_treesWith_9 : decode cX0_treesWith 9 = .ok (.invokevirtual 29, 3) := by decide +kernel
theorem dX0_treesWith_12 : decode cX0_treesWith 12 = .ok (.iconst 1, 1) := by decide +kernel
theorem dX0_treesWith_13 : decode cX0_treesWith 13 = .ok (.istore 5, 2) := by decide +kernel
theorem dX0_treesWith_15 : decode cX0_treesWith 15 = .ok (.iload 5, 2) := by decide +kernel
theorem dX0_treesWith_17 : decode cX0_treesWith 17 = .ok (.iload 4, 2) := by decide +kernel
theorem dX0_treesWith_19 : decode cX0_treesWith 19 = .ok (.if_icmp .gt 79, 3) := by decide +kernel
theorem dX0_treesWith_22 : decode cX0_treesWith 22 = .ok (.iload 5, 2) := by decide +kernel
theorem dX0_treesWith_24 : decode cX0_treesWith 24 = .ok (.iload_n 3, 1) := by decide +kernel
theorem dX0_treesWith_25 : decode cX0_treesWith 25 = .ok (.if_icmp .gt 23, 3) := by decide +kernel
theorem dX0_treesWith_28 : decode cX0_treesWith 28 = .ok (.aload_n 0, 1) := by decide +kernel
theorem dX0_treesWith_29 : decode cX0_treesWith 29 = .ok (.iload 5, 2) := by decide +kernel
theorem dX0_treesWith_31 : decode cX0_treesWith 31 = .ok (.iconst 1, 1) := by decide +kernel
theorem dX0_treesWith_32 : decode cX0_treesWith 32 = .ok (.isub, 1) := by decide +kernel
theorem dX0_treesWith_33 : decode cX0_treesWith 33 = .ok (.aload_n 1, 1) := by decide +kernel
theorem dX0_treesWith_34 : decode cX0_treesWith 34 = .ok (.iload 5, 2) := by decide +kernel
theorem dX0_treesWith_36 : decode cX0_treesWith 36 = .ok (.aload_n 2, 1) := by decide +kernel
theorem dX0_treesWith_37 : decode cX0_treesWith 37 = .ok (.iload 5, 2) := by decide +kernel
theorem dX0_treesWith_39 : decode cX0_treesWith 39 = .ok (.iaload, 1) := by decide +kernel
theorem dX0_treesWith_40 : decode cX0_treesWith 40 = .ok (.invokevirtual 32, 3) := by decide +kernel
theorem dX0_treesWith_43 : decode cX0_treesWith 43 = .ok (.iconst 1, 1) := by decide +kernel
theorem dX0_treesWith_44 : decode cX0_treesWith 44 = .ok (.isub, 1) := by decide +kernel
theorem dX0_treesWith_45 : decode cX0_treesWith 45 = .ok (.invokevirtual 36, 3) := by decide +kernel
theorem dX0_treesWith_48 : decode cX0_treesWith 48 = .ok (.iconst 0, 1) := by decide +kernel
theorem dX0_treesWith_49 : decode cX0_treesWith 49 = .ok (.istore 6, 2) := by decide +kernel
theorem dX0_treesWith_51 : decode cX0_treesWith 51 = .ok (.iload 5, 2) := by decide +kernel
theorem dX0_treesWith_53 : decode cX0_treesWith 53 = .ok (.iload_n 3, 1) := by decide +kernel
theorem dX0_treesWith_54 : decode cX0_treesWith 54 = .ok (.if_icmp .le 38, 3) := by decide +kernel
theorem dX0_treesWith_57 : decode cX0_treesWith 57 = .ok (.iload 6, 2) := by decide +kernel
theorem dX0_treesWith_59 : decode cX0_treesWith 59 = .ok (.aload_n 1, 1) := by decide +kernel
theorem dX0_treesWith_60 : decode cX0_treesWith 60 = .ok (.iload 5, 2) := by decide +kernel
theorem dX0_treesWith_62 : decode cX0_treesWith 62 = .ok (.invokevirtual 40, 3) := by decide +kernel
theorem dX0_treesWith_65 : decode cX0_treesWith 65 = .ok (.if_icmp .ge 27, 3) := by decide +kernel
theorem dX0_treesWith_68 : decode cX0_treesWith 68 = .ok (.aload_n 0, 1) := by decide +kernel
theorem dX0_treesWith_69 : decode cX0_treesWith 69 = .ok (.iload 5, 2) := by decide +kernel
theorem dX0_treesWith_71 : decode cX0_treesWith 71 = .ok (.iconst 1, 1) := by decide +kernel
theorem dX0_treesWith_72 : decode cX0_treesWith 72 = .ok (.isub, 1) := by decide +kernel
theorem dX0_treesWith_73 : decode cX0_treesWith 73 = .ok (.aload_n 1, 1) := by decide +kernel
theorem dX0_treesWith_74 : decode cX0_treesWith 74 = .ok (.iload 5, 2) := by decide +kernel
theorem dX0_treesWith_76 : decode cX0_treesWith 76 = .ok (.iload 6, 2) := by decide +kernel
theorem dX0_treesWith_78 : decode cX0_treesWith 78 = .ok (.invokevirtual 32, 3) := by decide +kernel
theorem dX0_treesWith_81 : decode cX0_treesWith 81 = .ok (.iconst 1, 1) := by decide +kernel
theorem dX0_treesWith_82 : decode cX0_treesWith 82 = .ok (.isub, 1) := by decide +kernel
theorem dX0_treesWith_83 : decode cX0_treesWith 83 = .ok (.invokevirtual 36, 3) := by decide +kernel
theorem dX0_treesWith_86 : decode cX0_treesWith 86 = .ok (.iinc 6 1, 3) := by decide +kernel
theorem dX0_treesWith_89 : decode cX0_treesWith 89 = .ok (.goto (-38), 3) := by decide +kernel
theorem dX0_treesWith_92 : decode cX0_treesWith 92 = .ok (.iinc 5 1, 3) := by decide +kernel
theorem dX0_treesWith_95 : decode cX0_treesWith 95 = .ok (.goto (-80), 3) := by decide +kernel
theorem dX0_treesWith_98 : decode cX0_treesWith 98 = .ok (.aload_n 0, 1) := by decide +kernel
theorem dX0_treesWith_99 : decode cX0_treesWith 99 = .ok (.iload 4, 2) := by decide +kernel
theorem dX0_treesWith_101 : decode cX0_treesWith 101 = .ok (.invokevirtual 44, 3) := by decide +kernel
theorem dX0_treesWith_104 : decode cX0_treesWith 104 = .ok (.ifCond .eq 21, 3) := by decide +kernel
theorem dX0_treesWith_107 : decode cX0_treesWith 107 = .ok (.aload_n 0, 1) := by decide +kernel
theorem dX0_treesWith_108 : decode cX0_treesWith 108 = .ok (.getfield 11, 3) := by decide +kernel
theorem dX0_treesWith_111 : decode cX0_treesWith 111 = .ok (.iload 4, 2) := by decide +kernel
theorem dX0_treesWith_113 : decode cX0_treesWith 113 = .ok (.iconst 1, 1) := by decide +kernel
theorem dX0_treesWith_114 : decode cX0_treesWith 114 = .ok (.isub, 1) := by decide +kernel
theorem dX0_treesWith_115 : decode cX0_treesWith 115 = .ok (.aaload, 1) := by decide +kernel
theorem dX0_treesWith_116 : decode cX0_treesWith 116 = .ok (.iload 4, 2) := by decide +kernel
theorem dX0_treesWith_118 : decode cX0_treesWith 118 = .ok (.iconst 1, 1) := by decide +kernel
theorem dX0_treesWith_119 : decode cX0_treesWith 119 = .ok (.isub, 1) := by decide +kernel
theorem dX0_treesWith_120 : decode cX0_treesWith 120 = .ok (.laload, 1) := by decide +kernel
theorem dX0_treesWith_121 : decode cX0_treesWith 121 = .ok (.l2i, 1) := by decide +kernel
theorem dX0_treesWith_122 : decode cX0_treesWith 122 = .ok (.goto 4, 3) := by decide +kernel
theorem dX0_treesWith_125 : decode cX0_treesWith 125 = .ok (.iconst 0, 1) := by decide +kernel
theorem dX0_treesWith_126 : decode cX0_treesWith 126 = .ok (.ireturn, 1) := by decide +kernel
theorem dX0_addWay_0 : decode cX0_addWay 0 = .ok (.iload_n 1, 1) := by decide +kernel
theorem dX0_addWay_1 : decode cX0_addWay 1 = .ok (.ifCond .lt 9, 3) := by decide +kernel
theorem dX0_addWay_4 : decode cX0_addWay 4 = .ok (.iload_n 1, 1) := by decide +kernel
theorem dX0_addWay_5 : decode cX0_addWay 5 = .ok (.bipush 8, 2) := by decide +kernel
theorem dX0_addWay_7 : decode cX0_addWay 7 = .ok (.if_icmp .lt 4, 3) := by decide +kernel
theorem dX0_addWay_10 : decode cX0_addWay 10 = .ok (.return_, 1) := by decide +kernel
theorem dX0_addWay_11 : decode cX0_addWay 11 = .ok (.aload_n 0, 1) := by decide +kernel
theorem dX0_addWay_12 : decode cX0_addWay 12 = .ok (.getfield 11, 3) := by decide +kernel
theorem dX0_addWay_15 : decode cX0_addWay 15 = .ok (.iload_n 1, 1) := by decide +kernel
theorem dX0_addWay_16 : decode cX0_addWay 16 = .ok (.aaload, 1) := by decide +kernel
theorem dX0_addWay_17 : decode cX0_addWay 17 = .ok (.iload_n 1, 1) := by decide +kernel
theorem dX0_addWay_18 : decode cX0_addWay 18 = .ok (.dup2, 1) := by decide +kernel
theorem dX0_addWay_19 : decode cX0_addWay 19 = .ok (.laload, 1) := by decide +kernel
theorem dX0_addWay_20 : decode cX0_addWay 20 = .ok (.lconst 1, 1) := by decide +kernel
theorem dX0_addWay_21 : decode cX0_addWay 21 = .ok (.ladd, 1) := by decide +kernel
theorem dX0_addWay_22 : decode cX0_addWay 22 = .ok (.lastore, 1) := by decide +kernel
theorem dX0_addWay_23 : decode cX0_addWay 23 = .ok (.iload_n 2, 1) := by decide +kernel
theorem dX0_addWay_24 : decode cX0_addWay 24 = .ok (.ifCond .lt 21, 3) := by decide +kernel
theorem dX0_addWay_27 : decode cX0_addWay 27 = .ok (.iload_n 2, 1) := by decide +kernel
theorem dX0_addWay_28 : decode cX0_addWay 28 = .ok (.bipush 8, 2) := by decide +kernel
theorem dX0_addWay_30 : decode cX0_addWay 30 = .ok (.if_icmp .ge 15, 3) := by decide +kernel
theorem dX0_addWay_33 : decode cX0_addWay 33 = .ok (.aload_n 0, 1) := by decide +kernel
theorem dX0_addWay_34 : decode cX0_addWay 34 = .ok (.getfield 11, 3) := by decide +kernel
theorem dX0_addWay_37 : decode cX0_addWay 37 = .ok (.iload_n 1, 1) := by decide +kernel
theorem dX0_addWay_38 : decode cX0_addWay 38 = .ok (.aaload, 1) := by decide +kernel
theorem dX0_addWay_39 : decode cX0_addWay 39 = .ok (.iload_n 2, 1) := by decide +kernel
theorem dX0_addWay_40 : decode cX0_addWay 40 = .ok (.dup2, 1) := by decide +kernel
theorem dX0_addWay_41 : decode cX0_addWay 41 = .ok (.laload, 1) := by decide +kernel
theorem dX0_addWay_42 : decode cX0_addWay 42 = .ok (.lconst 1, 1) := by decide +kernel
theorem dX0_addWay_43 : decode cX0_addWay 43 = .ok (.lsub, 1) := by decide +kernel
theorem dX0_addWay_44 : decode cX0_addWay 44 = .ok (.lastore, 1) := by decide +kernel
theorem dX0_addWay_45 : decode cX0_addWay 45 = .ok (.return_, 1) := by decide +kernel
theorem dX0_clearCells_0 : decode cX0_clearCells 0 = .ok (.iconst 0, 1) := by decide +kernel
theorem dX0_clearCells_1 : decode cX0_clearCells 1 = .ok (.istore_n 1, 1) := by decide +kernel
theorem dX0_clearCells_2 : decode cX0_clearCells 2 = .ok (.iload_n 1, 1) := by decide +kernel
theorem dX0_clearCells_3 : decode cX0_clearCells 3 = .ok (.bipush 8, 2) := by decide +kernel
theorem dX0_clearCells_5 : decode cX0_clearCells 5 = .ok (.if_icmp .ge 32, 3) := by decide +kernel
theorem dX0_clearCells_8 : decode cX0_clearCells 8 = .ok (.iconst 0, 1) := by decide +kernel
theorem dX0_clearCells_9 : decode cX0_clearCells 9 = .ok (.istore_n 2, 1) := by decide +kernel
theorem dX0_clearCells_10 : decode cX0_clearCells 10 = .ok (.iload_n 2, 1) := by decide +kernel
theorem dX0_clearCells_11 : decode cX0_clearCells 11 = .ok (.bipush 8, 2) := by decide +kernel
theorem dX0_clearCells_13 : decode cX0_clearCells 13 = .ok (.if_icmp .gt 18, 3) := by decide +kernel
theorem dX0_clearCells_16 : decode cX0_clearCells 16 = .ok (.aload_n 0, 1) := by decide +kernel
theorem dX0_clearCells_17 : decode cX0_clearCells 17 = .ok (.getfield 11, 3) := by decide +kernel
theorem dX0_clearCells_20 : decode cX0_clearCells 20 = .ok (.iload_n 1, 1) := by decide +kernel
theorem dX0_clearCells_21 : decode cX0_clearCells 21 = .ok (.aaload, 1) := by decide +kernel
theorem dX0_clearCells_22 : decode cX0_clearCells 22 = .ok (.iload_n 2, 1) := by decide +kernel
theorem dX0_clearCells_23 : decode cX0_clearCells 23 = .ok (.lconst 0, 1) := by decide +kernel
theorem dX0_clearCells_24 : decode cX0_clearCells 24 = .ok (.lastore, 1) := by decide +kernel
theorem dX0_clearCells_25 : decode cX0_clearCells 25 = .ok (.iinc 2 1, 3) := by decide +kernel
theorem dX0_clearCells_28 : decode cX0_clearCells 28 = .ok (.goto (-18), 3) := by decide +kernel
theorem dX0_clearCells_31 : decode cX0_clearCells 31 = .ok (.iinc 1 1, 3) := by decide +kernel
theorem dX0_clearCells_34 : decode cX0_clearCells 34 = .ok (.goto (-32), 3) := by decide +kernel
theorem dX0_clearCells_37 : decode cX0_clearCells 37 = .ok (.return_, 1) := by decide +kernel
theorem dX0_solve_0 : decode cX0_solve 0 = .ok (.aload_n 1, 1) := by decide +kernel
theorem dX0_solve_1 : decode cX0_solve 1 = .ok (.invokevirtual 23, 3) := by decide +kernel
theorem dX0_solve_4 : decode cX0_solve 4 = .ok (.iconst 1, 1) := by decide +kernel
theorem dX0_solve_5 : decode cX0_solve 5 = .ok (.isub, 1) := by decide +kernel
theorem dX0_solve_6 : decode cX0_solve 6 = .ok (.istore 4, 2) := by decide +kernel
theorem dX0_solve_8 : decode cX0_solve 8 = .ok (.iload 4, 2) := by decide +kernel
theorem dX0_solve_10 : decode cX0_solve 10 = .ok (.iconst 1, 1) := by decide +kernel
theorem dX0_solve_11 : decode cX0_solve 11 = .ok (.if_icmp .lt 10, 3) := by decide +kernel
theorem dX0_solve_14 : decode cX0_solve 14 = .ok (.iload 4, 2) := by decide +kernel
theorem dX0_solve_16 : decode cX0_solve 16 = .ok (.bipush 8, 2) := by decide +kernel
theorem dX0_solve_18 : decode cX0_solve 18 = .ok (.if_icmp .lt 4, 3) := by decide +kernel
theorem dX0_solve_21 : decode cX0_solve 21 = .ok (.return_, 1) := by decide +kernel
theorem dX0_solve_22 : decode cX0_solve 22 = .ok (.aload_n 0, 1) := by decide +kernel
theorem dX0_solve_23 : decode cX0_solve 23 = .ok (.invokevirtual 29, 3) := by decide +kernel
theorem dX0_solve_26 : decode cX0_solve 26 = .ok (.iconst 1, 1) := by decide +kernel
theorem dX0_solve_27 : decode cX0_solve 27 = .ok (.istore 5, 2) := by decide +kernel
theorem dX0_solve_29 : decode cX0_solve 29 = .ok (.iload 5, 2) := by decide +kernel
theorem dX0_solve_31 : decode cX0_solve 31 = .ok (.iload 4, 2) := by decide +kernel
theorem dX0_solve_33 : decode cX0_solve 33 = .ok (.if_icmp .gt 126, 3) := by decide +kernel
theorem dX0_solve_36 : decode cX0_solve 36 = .ok (.iload 5, 2) := by decide +kernel
theorem dX0_solve_38 : decode cX0_solve 38 = .ok (.iload_n 2, 1) := by decide +kernel
theorem dX0_solve_39 : decode cX0_solve 39 = .ok (.iload 4, 2) := by decide +kernel
theorem dX0_solve_41 : decode cX0_solve 41 = .ok (.invokestatic 48, 3) := by decide +kernel
theorem dX0_solve_44 : decode cX0_solve 44 = .ok (.istore 6, 2) := by decide +kernel
theorem dX0_solve_46 : decode cX0_solve 46 = .ok (.iload 6, 2) := by decide +kernel
theorem dX0_solve_48 : decode cX0_solve 48 = .ok (.ifCond .lt 105, 3) := by decide +kernel
theorem dX0_solve_51 : decode cX0_solve 51 = .ok (.iload 6, 2) := by decide +kernel
theorem dX0_solve_53 : decode cX0_solve 53 = .ok (.iload 4, 2) := by decide +kernel
theorem dX0_solve_55 : decode cX0_solve 55 = .ok (.if_icmp .lt 6, 3) := by decide +kernel
theorem dX0_solve_58 : decode cX0_solve 58 = .ok (.goto 95, 3) := by decide +kernel
theorem dX0_solve_61 : decode cX0_solve 61 = .ok (.iload 5, 2) := by decide +kernel
theorem dX0_solve_63 : decode cX0_solve 63 = .ok (.iload_n 3, 1) := by decide +kernel
theorem dX0_solve_64 : decode cX0_solve 64 = .ok (.if_icmp .ne 24, 3) := by decide +kernel
theorem dX0_solve_67 : decode cX0_solve 67 = .ok (.aload_n 0, 1) := by decide +kernel
theorem dX0_solve_68 : decode cX0_solve 68 = .ok (.iload 6, 2) := by decide +kernel
theorem dX0_solve_70 : decode cX0_solve 70 = .ok (.iconst (-1), 1) := by decide +kernel
theorem dX0_solve_71 : decode cX0_solve 71 = .ok (.invokevirtual 36, 3) := by decide +kernel
theorem dX0_solve_74 : decode cX0_solve 74 = .ok (.aload_n 0, 1) := by decide +kernel
theorem dX0_solve_75 : decode cX0_solve 75 = .ok (.getfield 11, 3) := by decide +kernel
theorem dX0_solve_78 : decode cX0_solve 78 = .ok (.iload 6, 2) := by decide +kernel
theorem dX0_solve_80 : decode cX0_solve 80 = .ok (.aaload, 1) := by decide +kernel
theorem dX0_solve_81 : decode cX0_solve 81 = .ok (.iload 4, 2) := by decide +kernel
theorem dX0_solve_83 : decode cX0_solve 83 = .ok (.lconst 1, 1) := by decide +kernel
theorem dX0_solve_84 : decode cX0_solve 84 = .ok (.lastore, 1) := by decide +kernel
theorem dX0_solve_85 : decode cX0_solve 85 = .ok (.goto 68, 3) := by decide +kernel
theorem dX0_solve_88 : decode cX0_solve 88 = .ok (.iconst 0, 1) := by decide +kernel
theorem dX0_solve_89 : decode cX0_solve 89 = .ok (.istore 7, 2) := by decide +kernel
theorem dX0_solve_91 : decode cX0_solve 91 = .ok (.iload 7, 2) := by decide +kernel
theorem dX0_solve_93 : decode cX0_solve 93 = .ok (.aload_n 1, 1) := by decide +kernel
theorem dX0_solve_94 : decode cX0_solve 94 = .ok (.iload 5, 2) := by decide +kernel
theorem dX0_solve_96 : decode cX0_solve 96 = .ok (.invokevirtual 40, 3) := by decide +kernel
theorem dX0_solve_99 : decode cX0_solve 99 = .ok (.if_icmp .ge 29, 3) := by decide +kernel
theorem dX0_solve_102 : decode cX0_solve 102 = .ok (.aload_n 0, 1) := by decide +kernel
theorem dX0_solve_103 : decode cX0_solve 103 = .ok (.iload 6, 2) := by decide +kernel
theorem dX0_solve_105 : decode cX0_solve 105 = .ok (.aload_n 1, 1) := by decide +kernel
theorem dX0_solve_106 : decode cX0_solve 106 = .ok (.iload 5, 2) := by decide +kernel
theorem dX0_solve_108 : decode cX0_solve 108 = .ok (.iload 7, 2) := by decide +kernel
theorem dX0_solve_110 : decode cX0_solve 110 = .ok (.invokevirtual 32, 3) := by decide +kernel
theorem dX0_solve_113 : decode cX0_solve 113 = .ok (.iload_n 2, 1) := by decide +kernel
theorem dX0_solve_114 : decode cX0_solve 114 = .ok (.iload 4, 2) := by decide +kernel
theorem dX0_solve_116 : decode cX0_solve 116 = .ok (.invokestatic 48, 3) := by decide +kernel
theorem dX0_solve_119 : decode cX0_solve 119 = .ok (.invokevirtual 36, 3) := by decide +kernel
theorem dX0_solve_122 : decode cX0_solve 122 = .ok (.iinc 7 1, 3) := by decide +kernel
theorem dX0_solve_125 : decode cX0_solve 125 = .ok (.goto (-34), 3) := by decide +kernel
theorem dX0_solve_128 : decode cX0_solve 128 = .ok (.aload_n 0, 1) := by decide +kernel
theorem dX0_solve_129 : decode cX0_solve 129 = .ok (.getfield 11, 3) := by decide +kernel
theorem dX0_solve_132 : decode cX0_solve 132 = .ok (.iload 6, 2) := by decide +kernel
theorem dX0_solve_134 : decode cX0_solve 134 = .ok (.aaload, 1) := by decide +kernel
theorem dX0_solve_135 : decode cX0_solve 135 = .ok (.iload 4, 2) := by decide +kernel
theorem dX0_solve_137 : decode cX0_solve 137 = .ok (.iload_n 3, 1) := by decide +kernel
theorem dX0_solve_138 : decode cX0_solve 138 = .ok (.ifCond .ne 13, 3) := by decide +kernel
theorem dX0_solve_141 : decode cX0_solve 141 = .ok (.aload_n 1, 1) := by decide +kernel
theorem dX0_solve_142 : decode cX0_solve 142 = .ok (.iload 5, 2) := by decide +kernel
theorem dX0_solve_144 : decode cX0_solve 144 = .ok (.invokevirtual 40, 3) := by decide +kernel
theorem dX0_solve_147 : decode cX0_solve 147 = .ok (.i2l, 1) := by decide +kernel
theorem dX0_solve_148 : decode cX0_solve 148 = .ok (.goto 4, 3) := by decide +kernel
theorem dX0_solve_151 : decode cX0_solve 151 = .ok (.lconst 0, 1) := by decide +kernel
theorem dX0_solve_152 : decode cX0_solve 152 = .ok (.lastore, 1) := by decide +kernel
theorem dX0_solve_153 : decode cX0_solve 153 = .ok (.iinc 5 1, 3) := by decide +kernel
theorem dX0_solve_156 : decode cX0_solve 156 = .ok (.goto (-127), 3) := by decide +kernel
theorem dX0_solve_159 : decode cX0_solve 159 = .ok (.aload_n 0, 1) := by decide +kernel
theorem dX0_solve_160 : decode cX0_solve 160 = .ok (.iload 4, 2) := by decide +kernel
theorem dX0_solve_162 : decode cX0_solve 162 = .ok (.invokevirtual 44, 3) := by decide +kernel
theorem dX0_solve_165 : decode cX0_solve 165 = .ok (.ifCond .eq 33, 3) := by decide +kernel
theorem dX0_solve_168 : decode cX0_solve 168 = .ok (.aload_n 0, 1) := by decide +kernel
theorem dX0_solve_169 : decode cX0_solve 169 = .ok (.aload_n 0, 1) := by decide +kernel
theorem dX0_solve_170 : decode cX0_solve 170 = .ok (.getfield 11, 3) := by decide +kernel
theorem dX0_solve_173 : decode cX0_solve 173 = .ok (.iload 4, 2) := by decide +kernel
theorem dX0_solve_175 : decode cX0_solve 175 = .ok (.iconst 1, 1) := by decide +kernel
theorem dX0_solve_176 : decode cX0_solve 176 = .ok (.isub, 1) := by decide +kernel
theorem dX0_solve_177 : decode cX0_solve 177 = .ok (.aaload, 1) := by decide +kernel
theorem dX0_solve_178 : decode cX0_solve 178 = .ok (.iload 4, 2) := by decide +kernel
theorem dX0_solve_180 : decode cX0_solve 180 = .ok (.laload, 1) := by decide +kernel
theorem dX0_solve_181 : decode cX0_solve 181 = .ok (.aload_n 0, 1) := by decide +kernel
theorem dX0_solve_182 : decode cX0_solve 182 = .ok (.getfield 11, 3) := by decide +kernel
theorem dX0_solve_185 : decode cX0_solve 185 = .ok (.iload 4, 2) := by decide +kernel
theorem dX0_solve_187 : decode cX0_solve 187 = .ok (.iconst 1, 1) := by decide +kernel
theorem dX0_solve_188 : decode cX0_solve 188 = .ok (.isub, 1) := by decide +kernel
theorem dX0_solve_189 : decode cX0_solve 189 = .ok (.aaload, 1) := by decide +kernel
theorem dX0_solve_190 : decode cX0_solve 190 = .ok (.iload 4, 2) := by decide +kernel
theorem dX0_solve_192 : decode cX0_solve 192 = .ok (.iconst 1, 1) := by decide +kernel
theorem dX0_solve_193 : decode cX0_solve 193 = .ok (.isub, 1) := by decide +kernel
theorem dX0_solve_194 : decode cX0_solve 194 = .ok (.laload, 1) := by decide +kernel
theorem dX0_solve_195 : decode cX0_solve 195 = .ok (.invokevirtual 52, 3) := by decide +kernel
theorem dX0_solve_198 : decode cX0_solve 198 = .ok (.return_, 1) := by decide +kernel
theorem dX0_place_0 : decode cX0_place 0 = .ok (.iload_n 0, 1) := by decide +kernel
theorem dX0_place_1 : decode cX0_place 1 = .ok (.iload_n 1, 1) := by decide +kernel
theorem dX0_place_2 : decode cX0_place 2 = .ok (.if_icmp .ne 7, 3) := by decide +kernel
theorem dX0_place_5 : decode cX0_place 5 = .ok (.iload_n 2, 1) := by decide +kernel
theorem dX0_place_6 : decode cX0_place 6 = .ok (.iconst 1, 1) := by decide +kernel
theorem dX0_place_7 : decode cX0_place 7 = .ok (.isub, 1) := by decide +kernel
theorem dX0_place_8 : decode cX0_place 8 = .ok (.ireturn, 1) := by decide +kernel
theorem dX0_place_9 : decode cX0_place 9 = .ok (.iload_n 0, 1) := by decide +kernel
theorem dX0_place_10 : decode cX0_place 10 = .ok (.iload_n 2, 1) := by decide +kernel
theorem dX0_place_11 : decode cX0_place 11 = .ok (.if_icmp .ne 7, 3) := by decide +kernel
theorem dX0_place_14 : decode cX0_place 14 = .ok (.iload_n 1, 1) := by decide +kernel
theorem dX0_place_15 : decode cX0_place 15 = .ok (.goto 4, 3) := by decide +kernel
theorem dX0_place_18 : decode cX0_place 18 = .ok (.iload_n 0, 1) := by decide +kernel
theorem dX0_place_19 : decode cX0_place 19 = .ok (.iconst 1, 1) := by decide +kernel
theorem dX0_place_20 : decode cX0_place 20 = .ok (.isub, 1) := by decide +kernel
theorem dX0_place_21 : decode cX0_place 21 = .ok (.ireturn, 1) := by decide +kernel
theorem dX0_eliminate_0 : decode cX0_eliminate 0 = .ok (.iload_n 1, 1) := by decide +kernel
theorem dX0_eliminate_1 : decode cX0_eliminate 1 = .ok (.iconst 1, 1) := by decide +kernel
theorem dX0_eliminate_2 : decode cX0_eliminate 2 = .ok (.if_icmp .lt 9, 3) := by decide +kernel
theorem dX0_eliminate_5 : decode cX0_eliminate 5 = .ok (.iload_n 1, 1) := by decide +kernel
theorem dX0_eliminate_6 : decode cX0_eliminate 6 = .ok (.bipush 8, 2) := by decide +kernel
theorem dX0_eliminate_8 : decode cX0_eliminate 8 = .ok (.if_icmp .lt 5, 3) := by decide +kernel
theorem dX0_eliminate_11 : decode cX0_eliminate 11 = .ok (.iconst 0, 1) := by decide +kernel
theorem dX0_eliminate_12 : decode cX0_eliminate 12 = .ok (.ireturn, 1) := by decide +kernel
theorem dX0_eliminate_13 : decode cX0_eliminate 13 = .ok (.lconst 1, 1) := by decide +kernel
theorem dX0_eliminate_14 : decode cX0_eliminate 14 = .ok (.lstore_n 2, 1) := by decide +kernel
theorem dX0_eliminate_15 : decode cX0_eliminate 15 = .ok (.iconst 0, 1) := by decide +kernel
theorem dX0_eliminate_16 : decode cX0_eliminate 16 = .ok (.istore 4, 2) := by decide +kernel
theorem dX0_eliminate_18 : decode cX0_eliminate 18 = .ok (.iload 4, 2) := by decide +kernel
theorem dX0_eliminate_20 : decode cX0_eliminate 20 = .ok (.iload_n 1, 1) := by decide +kernel
theorem dX0_eliminate_21 : decode cX0_eliminate 21 = .ok (.if_icmp .ge 116, 3) := by decide +kernel
theorem dX0_eliminate_24 : decode cX0_eliminate 24 = .ok (.aload_n 0, 1) := by decide +kernel
theorem dX0_eliminate_25 : decode cX0_eliminate 25 = .ok (.getfield 11, 3) := by decide +kernel
theorem dX0_eliminate_28 : decode cX0_eliminate 28 = .ok (.iload 4, 2) := by decide +kernel
theorem dX0_eliminate_30 : decode cX0_eliminate 30 = .ok (.aaload, 1) := by decide +kernel
theorem dX0_eliminate_31 : decode cX0_eliminate 31 = .ok (.iload 4, 2) := by decide +kernel
theorem dX0_eliminate_33 : decode cX0_eliminate 33 = .ok (.laload, 1) := by decide +kernel
theorem dX0_eliminate_34 : decode cX0_eliminate 34 = .ok (.lstore 5, 2) := by decide +kernel
theorem dX0_eliminate_36 : decode cX0_eliminate 36 = .ok (.lload 5, 2) := by decide +kernel
theorem dX0_eliminate_38 : decode cX0_eliminate 38 = .ok (.lconst 0, 1) := by decide +kernel
theorem dX0_eliminate_39 : decode cX0_eliminate 39 = .ok (.lcmp, 1) := by decide +kernel
theorem dX0_eliminate_40 : decode cX0_eliminate 40 = .ok (.ifCond .ne 5, 3) := by decide +kernel
theorem dX0_eliminate_43 : decode cX0_eliminate 43 = .ok (.iconst 0, 1) := by decide +kernel
theorem dX0_eliminate_44 : decode cX0_eliminate 44 = .ok (.ireturn, 1) := by decide +kernel
theorem dX0_eliminate_45 : decode cX0_eliminate 45 = .ok (.iload 4, 2) := by decide +kernel
theorem dX0_eliminate_47 : decode cX0_eliminate 47 = .ok (.iconst 1, 1) := by decide +kernel
theorem dX0_eliminate_48 : decode cX0_eliminate 48 = .ok (.iadd, 1) := by decide +kernel
theorem dX0_eliminate_49 : decode cX0_eliminate 49 = .ok (.istore 7, 2) := by decide +kernel
theorem dX0_eliminate_51 : decode cX0_eliminate 51 = .ok (.iload 7, 2) := by decide +kernel
theorem dX0_eliminate_53 : decode cX0_eliminate 53 = .ok (.iload_n 1, 1) := by decide +kernel
theorem dX0_eliminate_54 : decode cX0_eliminate 54 = .ok (.if_icmp .ge 74, 3) := by decide +kernel
theorem dX0_eliminate_57 : decode cX0_eliminate 57 = .ok (.iload 4, 2) := by decide +kernel
theorem dX0_eliminate_59 : decode cX0_eliminate 59 = .ok (.iconst 1, 1) := by decide +kernel
theorem dX0_eliminate_60 : decode cX0_eliminate 60 = .ok (.iadd, 1) := by decide +kernel
theorem dX0_eliminate_61 : decode cX0_eliminate 61 = .ok (.istore 8, 2) := by decide +kernel
theorem dX0_eliminate_63 : decode cX0_eliminate 63 = .ok (.iload 8, 2) := by decide +kernel
theorem dX0_eliminate_65 : decode cX0_eliminate 65 = .ok (.iload_n 1, 1) := by decide +kernel
theorem dX0_eliminate_66 : decode cX0_eliminate 66 = .ok (.if_icmp .gt 56, 3) := by decide +kernel
theorem dX0_eliminate_69 : decode cX0_eliminate 69 = .ok (.aload_n 0, 1) := by decide +kernel
theorem dX0_eliminate_70 : decode cX0_eliminate 70 = .ok (.getfield 11, 3) := by decide +kernel
theorem dX0_eliminate_73 : decode cX0_eliminate 73 = .ok (.iload 7, 2) := by decide +kernel
theorem dX0_eliminate_75 : decode cX0_eliminate 75 = .ok (.aaload, 1) := by decide +kernel
theorem dX0_eliminate_76 : decode cX0_eliminate 76 = .ok (.iload 8, 2) := by decide +kernel
theorem dX0_eliminate_78 : decode cX0_eliminate 78 = .ok (.lload 5, 2) := by decide +kernel
theorem dX0_eliminate_80 : decode cX0_eliminate 80 = .ok (.aload_n 0, 1) := by decide +kernel
theorem dX0_eliminate_81 : decode cX0_eliminate 81 = .ok (.getfield 11, 3) := by decide +kernel
theorem dX0_eliminate_84 : decode cX0_eliminate 84 = .ok (.iload 7, 2) := by decide +kernel
theorem dX0_eliminate_86 : decode cX0_eliminate 86 = .ok (.aaload, 1) := by decide +kernel
theorem dX0_eliminate_87 : decode cX0_eliminate 87 = .ok (.iload 8, 2) := by decide +kernel
theorem dX0_eliminate_89 : decode cX0_eliminate 89 = .ok (.laload, 1) := by decide +kernel
theorem dX0_eliminate_90 : decode cX0_eliminate 90 = .ok (.lmul, 1) := by decide +kernel
theorem dX0_eliminate_91 : decode cX0_eliminate 91 = .ok (.aload_n 0, 1) := by decide +kernel
theorem dX0_eliminate_92 : decode cX0_eliminate 92 = .ok (.getfield 11, 3) := by decide +kernel
theorem dX0_eliminate_95 : decode cX0_eliminate 95 = .ok (.iload 7, 2) := by decide +kernel
theorem dX0_eliminate_97 : decode cX0_eliminate 97 = .ok (.aaload, 1) := by decide +kernel
theorem dX0_eliminate_98 : decode cX0_eliminate 98 = .ok (.iload 4, 2) := by decide +kernel
theorem dX0_eliminate_100 : decode cX0_eliminate 100 = .ok (.laload, 1) := by decide +kernel
theorem dX0_eliminate_101 : decode cX0_eliminate 101 = .ok (.aload_n 0, 1) := by decide +kernel
theorem dX0_eliminate_102 : decode cX0_eliminate 102 = .ok (.getfield 11, 3) := by decide +kernel
theorem dX0_eliminate_105 : decode cX0_eliminate 105 = .ok (.iload 4, 2) := by decide +kernel
theorem dX0_eliminate_107 : decode cX0_eliminate 107 = .ok (.aaload, 1) := by decide +kernel
theorem dX0_eliminate_108 : decode cX0_eliminate 108 = .ok (.iload 8, 2) := by decide +kernel
theorem dX0_eliminate_110 : decode cX0_eliminate 110 = .ok (.laload, 1) := by decide +kernel
theorem dX0_eliminate_111 : decode cX0_eliminate 111 = .ok (.lmul, 1) := by decide +kernel
theorem dX0_eliminate_112 : decode cX0_eliminate 112 = .ok (.lsub, 1) := by decide +kernel
theorem dX0_eliminate_113 : decode cX0_eliminate 113 = .ok (.lload_n 2, 1) := by decide +kernel
theorem dX0_eliminate_114 : decode cX0_eliminate 114 = .ok (.ldiv, 1) := by decide +kernel
theorem dX0_eliminate_115 : decode cX0_eliminate 115 = .ok (.lastore, 1) := by decide +kernel
theorem dX0_eliminate_116 : decode cX0_eliminate 116 = .ok (.iinc 8 1, 3) := by decide +kernel
theorem dX0_eliminate_119 : decode cX0_eliminate 119 = .ok (.goto (-56), 3) := by decide +kernel
theorem dX0_eliminate_122 : decode cX0_eliminate 122 = .ok (.iinc 7 1, 3) := by decide +kernel
theorem dX0_eliminate_125 : decode cX0_eliminate 125 = .ok (.goto (-74), 3) := by decide +kernel
theorem dX0_eliminate_128 : decode cX0_eliminate 128 = .ok (.lload 5, 2) := by decide +kernel
theorem dX0_eliminate_130 : decode cX0_eliminate 130 = .ok (.lstore_n 2, 1) := by decide +kernel
theorem dX0_eliminate_131 : decode cX0_eliminate 131 = .ok (.iinc 4 1, 3) := by decide +kernel
theorem dX0_eliminate_134 : decode cX0_eliminate 134 = .ok (.goto (-116), 3) := by decide +kernel
theorem dX0_eliminate_137 : decode cX0_eliminate 137 = .ok (.iconst 1, 1) := by decide +kernel
theorem dX0_eliminate_138 : decode cX0_eliminate 138 = .ok (.ireturn, 1) := by decide +kernel
theorem dX0_tellFraction_0 : decode cX0_tellFraction 0 = .ok (.lload_n 1, 1) := by decide +kernel
theorem dX0_tellFraction_1 : decode cX0_tellFraction 1 = .ok (.lstore 5, 2) := by decide +kernel
theorem dX0_tellFraction_3 : decode cX0_tellFraction 3 = .ok (.lload_n 3, 1) := by decide +kernel
theorem dX0_tellFraction_4 : decode cX0_tellFraction 4 = .ok (.lstore 7, 2) := by decide +kernel
theorem dX0_tellFraction_6 : decode cX0_tellFraction 6 = .ok (.iconst 0, 1) := by decide +kernel
theorem dX0_tellFraction_7 : decode cX0_tellFraction 7 = .ok (.istore 9, 2) := by decide +kernel
theorem dX0_tellFraction_9 : decode cX0_tellFraction 9 = .ok (.iload 9, 2) := by decide +kernel
theorem dX0_tellFraction_11 : decode cX0_tellFraction 11 = .ok (.sipush 200, 3) := by decide +kernel
theorem dX0_tellFraction_14 : decode cX0_tellFraction 14 = .ok (.if_icmp .ge 31, 3) := by decide +kernel
theorem dX0_tellFraction_17 : decode cX0_tellFraction 17 = .ok (.lload 7, 2) := by decide +kernel
theorem dX0_tellFraction_19 : decode cX0_tellFraction 19 = .ok (.lconst 0, 1) := by decide +kernel
theorem dX0_tellFraction_20 : decode cX0_tellFraction 20 = .ok (.lcmp, 1) := by decide +kernel
theorem dX0_tellFraction_21 : decode cX0_tellFraction 21 = .ok (.ifCond .eq 24, 3) := by decide +kernel
theorem dX0_tellFraction_24 : decode cX0_tellFraction 24 = .ok (.lload 5, 2) := by decide +kernel
theorem dX0_tellFraction_26 : decode cX0_tellFraction 26 = .ok (.lload 7, 2) := by decide +kernel
theorem dX0_tellFraction_28 : decode cX0_tellFraction 28 = .ok (.lrem, 1) := by decide +kernel
theorem dX0_tellFraction_29 : decode cX0_tellFraction 29 = .ok (.lstore 10, 2) := by decide +kernel
theorem dX0_tellFraction_31 : decode cX0_tellFraction 31 = .ok (.lload 7, 2) := by decide +kernel
theorem dX0_tellFraction_33 : decode cX0_tellFraction 33 = .ok (.lstore 5, 2) := by decide +kernel
theorem dX0_tellFraction_35 : decode cX0_tellFraction 35 = .ok (.lload 10, 2) := by decide +kernel
theorem dX0_tellFraction_37 : decode cX0_tellFraction 37 = .ok (.lstore 7, 2) := by decide +kernel
theorem dX0_tellFraction_39 : decode cX0_tellFraction 39 = .ok (.iinc 9 1, 3) := by decide +kernel
theorem dX0_tellFraction_42 : decode cX0_tellFraction 42 = .ok (.goto (-33), 3) := by decide +kernel
theorem dX0_tellFraction_45 : decode cX0_tellFraction 45 = .ok (.aload_n 0, 1) := by decide +kernel
theorem dX0_tellFraction_46 : decode cX0_tellFraction 46 = .ok (.lload 5, 2) := by decide +kernel
theorem dX0_tellFraction_48 : decode cX0_tellFraction 48 = .ok (.lconst 0, 1) := by decide +kernel
theorem dX0_tellFraction_49 : decode cX0_tellFraction 49 = .ok (.lcmp, 1) := by decide +kernel
theorem dX0_tellFraction_50 : decode cX0_tellFraction 50 = .ok (.ifCond .ne 7, 3) := by decide +kernel
theorem dX0_tellFraction_53 : decode cX0_tellFraction 53 = .ok (.lconst 0, 1) := by decide +kernel
theorem dX0_tellFraction_54 : decode cX0_tellFraction 54 = .ok (.goto 7, 3) := by decide +kernel
theorem dX0_tellFraction_57 : decode cX0_tellFraction 57 = .ok (.lload_n 1, 1) := by decide +kernel
theorem dX0_tellFraction_58 : decode cX0_tellFraction 58 = .ok (.lload 5, 2) := by decide +kernel
theorem dX0_tellFraction_60 : decode cX0_tellFraction 60 = .ok (.ldiv, 1) := by decide +kernel
theorem dX0_tellFraction_61 : decode cX0_tellFraction 61 = .ok (.putfield 56, 3) := by decide +kernel
theorem dX0_tellFraction_64 : decode cX0_tellFraction 64 = .ok (.aload_n 0, 1) := by decide +kernel
theorem dX0_tellFraction_65 : decode cX0_tellFraction 65 = .ok (.lload 5, 2) := by decide +kernel
theorem dX0_tellFraction_67 : decode cX0_tellFraction 67 = .ok (.lconst 0, 1) := by decide +kernel
theorem dX0_tellFraction_68 : decode cX0_tellFraction 68 = .ok (.lcmp, 1) := by decide +kernel
theorem dX0_tellFraction_69 : decode cX0_tellFraction 69 = .ok (.ifCond .ne 7, 3) := by decide +kernel
theorem dX0_tellFraction_72 : decode cX0_tellFraction 72 = .ok (.lconst 1, 1) := by decide +kernel
theorem dX0_tellFraction_73 : decode cX0_tellFraction 73 = .ok (.goto 7, 3) := by decide +kernel
theorem dX0_tellFraction_76 : decode cX0_tellFraction 76 = .ok (.lload_n 3, 1) := by decide +kernel
theorem dX0_tellFraction_77 : decode cX0_tellFraction 77 = .ok (.lload 5, 2) := by decide +kernel
theorem dX0_tellFraction_79 : decode cX0_tellFraction 79 = .ok (.ldiv, 1) := by decide +kernel
theorem dX0_tellFraction_80 : decode cX0_tellFraction 80 = .ok (.putfield 60, 3) := by decide +kernel
theorem dX0_tellFraction_83 : decode cX0_tellFraction 83 = .ok (.return_, 1) := by decide +kernel
theorem dX0_spread_0 : decode cX0_spread 0 = .ok (.aload_n 1, 1) := by decide +kernel
theorem dX0_spread_1 : decode cX0_spread 1 = .ok (.iload_n 2, 1) := by decide +kernel
theorem dX0_spread_2 : decode cX0_spread 2 = .ok (.invokevirtual 63, 3) := by decide +kernel
theorem dX0_spread_5 : decode cX0_spread 5 = .ok (.ifCond .eq 12, 3) := by decide +kernel
theorem dX0_spread_8 : decode cX0_spread 8 = .ok (.aload_n 1, 1) := by decide +kernel
theorem dX0_spread_9 : decode cX0_spread 9 = .ok (.iload 4, 2) := by decide +kernel
theorem dX0_spread_11 : decode cX0_spread 11 = .ok (.invokevirtual 63, 3) := by decide +kernel
theorem dX0_spread_14 : decode cX0_spread 14 = .ok (.ifCond .ne 4, 3) := by decide +kernel
theorem dX0_spread_17 : decode cX0_spread 17 = .ok (.return_, 1) := by decide +kernel
theorem dX0_spread_18 : decode cX0_spread 18 = .ok (.iconst 0, 1) := by decide +kernel
theorem dX0_spread_19 : decode cX0_spread 19 = .ok (.istore 5, 2) := by decide +kernel
theorem dX0_spread_21 : decode cX0_spread 21 = .ok (.iload 5, 2) := by decide +kernel
theorem dX0_spread_23 : decode cX0_spread 23 = .ok (.bipush 8, 2) := by decide +kernel
theorem dX0_spread_25 : decode cX0_spread 25 = .ok (.if_icmp .ge 27, 3) := by decide +kernel
theorem dX0_spread_28 : decode cX0_spread 28 = .ok (.aload_n 0, 1) := by decide +kernel
theorem dX0_spread_29 : decode cX0_spread 29 = .ok (.getfield 16, 3) := by decide +kernel
theorem dX0_spread_32 : decode cX0_spread 32 = .ok (.iload 5, 2) := by decide +kernel
theorem dX0_spread_34 : decode cX0_spread 34 = .ok (.iload 5, 2) := by decide +kernel
theorem dX0_spread_36 : decode cX0_spread 36 = .ok (.iload_n 2, 1) := by decide +kernel
theorem dX0_spread_37 : decode cX0_spread 37 = .ok (.if_icmp .ne 7, 3) := by decide +kernel
theorem dX0_spread_40 : decode cX0_spread 40 = .ok (.lconst 1, 1) := by decide +kernel
theorem dX0_spread_41 : decode cX0_spread 41 = .ok (.goto 4, 3) := by decide +kernel
theorem dX0_spread_44 : decode cX0_spread 44 = .ok (.lconst 0, 1) := by decide +kernel
theorem dX0_spread_45 : decode cX0_spread 45 = .ok (.lastore, 1) := by decide +kernel
theorem dX0_spread_46 : decode cX0_spread 46 = .ok (.iinc 5 1, 3) := by decide +kernel
theorem dX0_spread_49 : decode cX0_spread 49 = .ok (.goto (-28), 3) := by decide +kernel
theorem dX0_spread_52 : decode cX0_spread 52 = .ok (.lconst 1, 1) := by decide +kernel
theorem dX0_spread_53 : decode cX0_spread 53 = .ok (.lstore 5, 2) := by decide +kernel
theorem dX0_spread_55 : decode cX0_spread 55 = .ok (.iconst 0, 1) := by decide +kernel
theorem dX0_spread_56 : decode cX0_spread 56 = .ok (.istore 7, 2) := by decide +kernel
theorem dX0_spread_58 : decode cX0_spread 58 = .ok (.iload 7, 2) := by decide +kernel
theorem dX0_spread_60 : decode cX0_spread 60 = .ok (.iload_n 3, 1) := by decide +kernel
theorem dX0_spread_61 : decode cX0_spread 61 = .ok (.if_icmp .ge 29, 3) := by decide +kernel
theorem dX0_spread_64 : decode cX0_spread 64 = .ok (.iload 7, 2) := by decide +kernel
theorem dX0_spread_66 : decode cX0_spread 66 = .ok (.bipush 8, 2) := by decide +kernel
theorem dX0_spread_68 : decode cX0_spread 68 = .ok (.if_icmp .ge 22, 3) := by decide +kernel
theorem dX0_spread_71 : decode cX0_spread 71 = .ok (.aload_n 0, 1) := by decide +kernel
theorem dX0_spread_72 : decode cX0_spread 72 = .ok (.aload_n 1, 1) := by decide +kernel
theorem dX0_spread_73 : decode cX0_spread 73 = .ok (.invokevirtual 66, 3) := by decide +kernel
theorem dX0_spread_76 : decode cX0_spread 76 = .ok (.lload 5, 2) := by decide +kernel
theorem dX0_spread_78 : decode cX0_spread 78 = .ok (.ldc2_w 70, 3) := by decide +kernel
theorem dX0_spread_81 : decode cX0_spread 81 = .ok (.lmul, 1) := by decide +kernel
theorem dX0_spread_82 : decode cX0_spread 82 = .ok (.lstore 5, 2) := by decide +kernel
theorem dX0_spread_84 : decode cX0_spread 84 = .ok (.iinc 7 1, 3) := by decide +kernel
theorem dX0_spread_87 : decode cX0_spread 87 = .ok (.goto (-29), 3) := by decide +kernel
theorem dX0_spread_90 : decode cX0_spread 90 = .ok (.aload_n 0, 1) := by decide +kernel
theorem dX0_spread_91 : decode cX0_spread 91 = .ok (.aload_n 0, 1) := by decide +kernel
theorem dX0_spread_92 : decode cX0_spread 92 = .ok (.getfield 16, 3) := by decide +kernel
theorem dX0_spread_95 : decode cX0_spread 95 = .ok (.iload 4, 2) := by decide +kernel
theorem dX0_spread_97 : decode cX0_spread 97 = .ok (.laload, 1) := by decide +kernel
theorem dX0_spread_98 : decode cX0_spread 98 = .ok (.lload 5, 2) := by decide +kernel
theorem dX0_spread_100 : decode cX0_spread 100 = .ok (.invokevirtual 52, 3) := by decide +kernel
theorem dX0_spread_103 : decode cX0_spread 103 = .ok (.return_, 1) := by decide +kernel
theorem dX0_spreadOnce_0 : decode cX0_spreadOnce 0 = .ok (.iconst 0, 1) := by decide +kernel
theorem dX0_spreadOnce_1 : decode cX0_spreadOnce 1 = .ok (.istore_n 2, 1) := by decide +kernel
theorem dX0_spreadOnce_2 : decode cX0_spreadOnce 2 = .ok (.iload_n 2, 1) := by decide +kernel
theorem dX0_spreadOnce_3 : decode cX0_spreadOnce 3 = .ok (.bipush 8, 2) := by decide +kernel
theorem dX0_spreadOnce_5 : decode cX0_spreadOnce 5 = .ok (.if_icmp .ge 16, 3) := by decide +kernel
theorem dX0_spreadOnce_8 : decode cX0_spreadOnce 8 = .ok (.aload_n 0, 1) := by decide +kernel
theorem dX0_spreadOnce_9 : decode cX0_spreadOnce 9 = .ok (.getfield 20, 3) := by decide +kernel
theorem dX0_spreadOnce_12 : decode cX0_spreadOnce 12 = .ok (.iload_n 2, 1) := by decide +kernel
theorem dX0_spreadOnce_13 : decode cX0_spreadOnce 13 = .ok (.lconst 0, 1) := by decide +kernel
theorem dX0_spreadOnce_14 : decode cX0_spreadOnce 14 = .ok (.lastore, 1) := by decide +kernel
theorem dX0_spreadOnce_15 : decode cX0_spreadOnce 15 = .ok (.iinc 2 1, 3) := by decide +kernel
theorem dX0_spreadOnce_18 : decode cX0_spreadOnce 18 = .ok (.goto (-16), 3) := by decide +kernel
theorem dX0_spreadOnce_21 : decode cX0_spreadOnce 21 = .ok (.aload_n 0, 1) := by decide +kernel
theorem dX0_spreadOnce_22 : decode cX0_spreadOnce 22 = .ok (.getfield 20, 3) := by decide +kernel
theorem dX0_spreadOnce_25 : decode cX0_spreadOnce 25 = .ok (.iconst 0, 1) := by decide +kernel
theorem dX0_spreadOnce_26 : decode cX0_spreadOnce 26 = .ok (.aload_n 0, 1) := by decide +kernel
theorem dX0_spreadOnce_27 : decode cX0_spreadOnce 27 = .ok (.getfield 16, 3) := by decide +kernel
theorem dX0_spreadOnce_30 : decode cX0_spreadOnce 30 = .ok (.iconst 0, 1) := by decide +kernel
theorem dX0_spreadOnce_31 : decode cX0_spreadOnce 31 = .ok (.laload, 1) := by decide +kernel
theorem dX0_spreadOnce_32 : decode cX0_spreadOnce 32 = .ok (.ldc2_w 70, 3) := by decide +kernel
theorem dX0_spreadOnce_35 : decode cX0_spreadOnce 35 = .ok (.lmul, 1) := by decide +kernel
theorem dX0_spreadOnce_36 : decode cX0_spreadOnce 36 = .ok (.lastore, 1) := by decide +kernel
theorem dX0_spreadOnce_37 : decode cX0_spreadOnce 37 = .ok (.iconst 1, 1) := by decide +kernel
theorem dX0_spreadOnce_38 : decode cX0_spreadOnce 38 = .ok (.istore_n 2, 1) := by decide +kernel
theorem dX0_spreadOnce_39 : decode cX0_spreadOnce 39 = .ok (.iload_n 2, 1) := by decide +kernel
theorem dX0_spreadOnce_40 : decode cX0_spreadOnce 40 = .ok (.aload_n 1, 1) := by decide +kernel
theorem dX0_spreadOnce_41 : decode cX0_spreadOnce 41 = .ok (.invokevirtual 23, 3) := by decide +kernel
theorem dX0_spreadOnce_44 : decode cX0_spreadOnce 44 = .ok (.if_icmp .ge 82, 3) := by decide +kernel
theorem dX0_spreadOnce_47 : decode cX0_spreadOnce 47 = .ok (.aload_n 1, 1) := by decide +kernel
theorem dX0_spreadOnce_48 : decode cX0_spreadOnce 48 = .ok (.iload_n 2, 1) := by decide +kernel
theorem dX0_spreadOnce_49 : decode cX0_spreadOnce 49 = .ok (.invokevirtual 40, 3) := by decide +kernel
theorem dX0_spreadOnce_52 : decode cX0_spreadOnce 52 = .ok (.istore_n 3, 1) := by decide +kernel
theorem dX0_spreadOnce_53 : decode cX0_spreadOnce 53 = .ok (.iload_n 3, 1) := by decide +kernel
theorem dX0_spreadOnce_54 : decode cX0_spreadOnce 54 = .ok (.iconst 1, 1) := by decide +kernel
theorem dX0_spreadOnce_55 : decode cX0_spreadOnce 55 = .ok (.if_icmp .ge 6, 3) := by decide +kernel
theorem dX0_spreadOnce_58 : decode cX0_spreadOnce 58 = .ok (.goto 62, 3) := by decide +kernel
theorem dX0_spreadOnce_61 : decode cX0_spreadOnce 61 = .ok (.aload_n 0, 1) := by decide +kernel
theorem dX0_spreadOnce_62 : decode cX0_spreadOnce 62 = .ok (.getfield 16, 3) := by decide +kernel
theorem dX0_spreadOnce_65 : decode cX0_spreadOnce 65 = .ok (.iload_n 2, 1) := by decide +kernel
theorem dX0_spreadOnce_66 : decode cX0_spreadOnce 66 = .ok (.laload, 1) := by decide +kernel
theorem dX0_spreadOnce_67 : decode cX0_spreadOnce 67 = .ok (.bipush 12, 2) := by decide +kernel
theorem dX0_spreadOnce_69 : decode cX0_spreadOnce 69 = .ok (.iload_n 3, 1) := by decide +kernel
theorem dX0_spreadOnce_70 : decode cX0_spreadOnce 70 = .ok (.idiv, 1) := by decide +kernel
theorem dX0_spreadOnce_71 : decode cX0_spreadOnce 71 = .ok (.i2l, 1) := by decide +kernel
theorem dX0_spreadOnce_72 : decode cX0_spreadOnce 72 = .ok (.lmul, 1) := by decide +kernel
theorem dX0_spreadOnce_73 : decode cX0_spreadOnce 73 = .ok (.lstore 4, 2) := by decide +kernel
theorem dX0_spreadOnce_75 : decode cX0_spreadOnce 75 = .ok (.iconst 0, 1) := by decide +kernel
theorem dX0_spreadOnce_76 : decode cX0_spreadOnce 76 = .ok (.istore 6, 2) := by decide +kernel
theorem dX0_spreadOnce_78 : decode cX0_spreadOnce 78 = .ok (.iload 6, 2) := by decide +kernel
theorem dX0_spreadOnce_80 : decode cX0_spreadOnce 80 = .ok (.iload_n 3, 1) := by decide +kernel
theorem dX0_spreadOnce_81 : decode cX0_spreadOnce 81 = .ok (.if_icmp .ge 39, 3) := by decide +kernel
theorem dX0_spreadOnce_84 : decode cX0_spreadOnce 84 = .ok (.aload_n 1, 1) := by decide +kernel
theorem dX0_spreadOnce_85 : decode cX0_spreadOnce 85 = .ok (.iload_n 2, 1) := by decide +kernel
theorem dX0_spreadOnce_86 : decode cX0_spreadOnce 86 = .ok (.iload 6, 2) := by decide +kernel
theorem dX0_spreadOnce_88 : decode cX0_spreadOnce 88 = .ok (.invokevirtual 32, 3) := by decide +kernel
theorem dX0_spreadOnce_91 : decode cX0_spreadOnce 91 = .ok (.istore 7, 2) := by decide +kernel
theorem dX0_spreadOnce_93 : decode cX0_spreadOnce 93 = .ok (.aload_n 1, 1) := by decide +kernel
theorem dX0_spreadOnce_94 : decode cX0_spreadOnce 94 = .ok (.iload 7, 2) := by decide +kernel
theorem dX0_spreadOnce_96 : decode cX0_spreadOnce 96 = .ok (.invokevirtual 63, 3) := by decide +kernel
theorem dX0_spreadOnce_99 : decode cX0_spreadOnce 99 = .ok (.ifCond .eq 15, 3) := by decide +kernel
theorem dX0_spreadOnce_102 : decode cX0_spreadOnce 102 = .ok (.aload_n 0, 1) := by decide +kernel
theorem dX0_spreadOnce_103 : decode cX0_spreadOnce 103 = .ok (.getfield 20, 3) := by decide +kernel
theorem dX0_spreadOnce_106 : decode cX0_spreadOnce 106 = .ok (.iload 7, 2) := by decide +kernel
theorem dX0_spreadOnce_108 : decode cX0_spreadOnce 108 = .ok (.dup2, 1) := by decide +kernel
theorem dX0_spreadOnce_109 : decode cX0_spreadOnce 109 = .ok (.laload, 1) := by decide +kernel
theorem dX0_spreadOnce_110 : decode cX0_spreadOnce 110 = .ok (.lload 4, 2) := by decide +kernel
theorem dX0_spreadOnce_112 : decode cX0_spreadOnce 112 = .ok (.ladd, 1) := by decide +kernel
theorem dX0_spreadOnce_113 : decode cX0_spreadOnce 113 = .ok (.lastore, 1) := by decide +kernel
theorem dX0_spreadOnce_114 : decode cX0_spreadOnce 114 = .ok (.iinc 6 1, 3) := by decide +kernel
theorem dX0_spreadOnce_117 : decode cX0_spreadOnce 117 = .ok (.goto (-39), 3) := by decide +kernel
theorem dX0_spreadOnce_120 : decode cX0_spreadOnce 120 = .ok (.iinc 2 1, 3) := by decide +kernel
theorem dX0_spreadOnce_123 : decode cX0_spreadOnce 123 = .ok (.goto (-84), 3) := by decide +kernel
theorem dX0_spreadOnce_126 : decode cX0_spreadOnce 126 = .ok (.iconst 0, 1) := by decide +kernel
theorem dX0_spreadOnce_127 : decode cX0_spreadOnce 127 = .ok (.istore_n 2, 1) := by decide +kernel
theorem dX0_spreadOnce_128 : decode cX0_spreadOnce 128 = .ok (.iload_n 2, 1) := by decide +kernel
theorem dX0_spreadOnce_129 : decode cX0_spreadOnce 129 = .ok (.bipush 8, 2) := by decide +kernel
theorem dX0_spreadOnce_131 : decode cX0_spreadOnce 131 = .ok (.if_icmp .ge 21, 3) := by decide +kernel
theorem dX0_spreadOnce_134 : decode cX0_spreadOnce 134 = .ok (.aload_n 0, 1) := by decide +kernel
theorem dX0_spreadOnce_135 : decode cX0_spreadOnce 135 = .ok (.getfield 16, 3) := by decide +kernel
theorem dX0_spreadOnce_138 : decode cX0_spreadOnce 138 = .ok (.iload_n 2, 1) := by decide +kernel
theorem dX0_spreadOnce_139 : decode cX0_spreadOnce 139 = .ok (.aload_n 0, 1) := by decide +kernel
theorem dX0_spreadOnce_140 : decode cX0_spreadOnce 140 = .ok (.getfield 20, 3) := by decide +kernel
theorem dX0_spreadOnce_143 : decode cX0_spreadOnce 143 = .ok (.iload_n 2, 1) := by decide +kernel
theorem dX0_spreadOnce_144 : decode cX0_spreadOnce 144 = .ok (.laload, 1) := by decide +kernel
theorem dX0_spreadOnce_145 : decode cX0_spreadOnce 145 = .ok (.lastore, 1) := by decide +kernel
theorem dX0_spreadOnce_146 : decode cX0_spreadOnce 146 = .ok (.iinc 2 1, 3) := by decide +kernel
theorem dX0_spreadOnce_149 : decode cX0_spreadOnce 149 = .ok (.goto (-21), 3) := by decide +kernel
theorem dX0_spreadOnce_152 : decode cX0_spreadOnce 152 = .ok (.return_, 1) := by decide +kernel
theorem dX1_init_0 : decode cX1_init 0 = .ok (.aload_n 0, 1) := by decide +kernel
theorem dX1_init_1 : decode cX1_init 1 = .ok (.invokespecial 3, 3) := by decide +kernel
theorem dX1_init_4 : decode cX1_init 4 = .ok (.aload_n 0, 1) := by decide +kernel
theorem dX1_init_5 : decode cX1_init 5 = .ok (.bipush 12, 2) := by decide +kernel
theorem dX1_init_7 : decode cX1_init 7 = .ok (.newarray .int, 2) := by decide +kernel
theorem dX1_init_9 : decode cX1_init 9 = .ok (.putfield 11, 3) := by decide +kernel
theorem dX1_init_12 : decode cX1_init 12 = .ok (.aload_n 0, 1) := by decide +kernel
theorem dX1_init_13 : decode cX1_init 13 = .ok (.bipush 12, 2) := by decide +kernel
theorem dX1_init_15 : decode cX1_init 15 = .ok (.newarray .int, 2) := by decide +kernel
theorem dX1_init_17 : decode cX1_init 17 = .ok (.putfield 15, 3) := by decide +kernel
theorem dX1_init_20 : decode cX1_init 20 = .ok (.return_, 1) := by decide +kernel
theorem dX1_canBeHeard_0 : decode cX1_canBeHeard 0 = .ok (.iload_n 0, 1) := by decide +kernel
theorem dX1_canBeHeard_1 : decode cX1_canBeHeard 1 = .ok (.tableswitch 96 0 3 #[31, 47, 63, 79], 31) := by decide +kernel
theorem dX1_canBeHeard_32 : decode cX1_canBeHeard 32 = .ok (.iload_n 1, 1) := by decide +kernel
theorem dX1_canBeHeard_33 : decode cX1_canBeHeard 33 = .ok (.iconst 1, 1) := by decide +kernel
theorem dX1_canBeHeard_34 : decode cX1_canBeHeard 34 = .ok (.if_icmp .lt 12, 3) := by decide +kernel
theorem dX1_canBeHeard_37 : decode cX1_canBeHeard 37 = .ok (.iload_n 1, 1) := by decide +kernel
theorem dX1_canBeHeard_38 : decode cX1_canBeHeard 38 = .ok (.iconst 4, 1) := by decide +kernel
theorem dX1_canBeHeard_39 : decode cX1_canBeHeard 39 = .ok (.if_icmp .gt 7, 3) := by decide +kernel
theorem dX1_canBeHeard_42 : decode cX1_canBeHeard 42 = .ok (.iconst 1, 1) := by decide +kernel
theorem dX1_canBeHeard_43 : decode cX1_canBeHeard 43 = .ok (.goto 4, 3) := by decide +kernel
theorem dX1_canBeHeard_46 : decode cX1_canBeHeard 46 = .ok (.iconst 0, 1) := by decide +kernel
theorem dX1_canBeHeard_47 : decode cX1_canBeHeard 47 = .ok (.ireturn, 1) := by decide +kernel
theorem dX1_canBeHeard_48 : decode cX1_canBeHeard 48 = .ok (.iload_n 1, 1) := by decide +kernel
theorem dX1_canBeHeard_49 : decode cX1_canBeHeard 49 = .ok (.ifCond .lt 13, 3) := by decide +kernel
theorem dX1_canBeHeard_52 : decode cX1_canBeHeard 52 = .ok (.iload_n 1, 1) := by decide +kernel
theorem dX1_canBeHeard_53 : decode cX1_canBeHeard 53 = .ok (.bipush 9, 2) := by decide +kernel
theorem dX1_canBeHeard_55 : decode cX1_canBeHeard 55 = .ok (.if_icmp .gt 7, 3) := by decide +kernel
theorem dX1_canBeHeard_58 : decode cX1_canBeHeard 58 = .ok (.iconst 1, 1) := by decide +kernel
theorem dX1_canBeHeard_59 : decode cX1_canBeHeard 59 = .ok (.goto 4, 3) := by decide +kernel
theorem dX1_canBeHeard_62 : decode cX1_canBeHeard 62 = .ok (.iconst 0, 1) := by decide +kernel
theorem dX1_canBeHeard_63 : decode cX1_canBeHeard 63 = .ok (.ireturn, 1) := by decide +kernel
theorem dX1_canBeHeard_64 : decode cX1_canBeHeard 64 = .ok (.iload_n 1, 1) := by decide +kernel
theorem dX1_canBeHeard_65 : decode cX1_canBeHeard 65 = .ok (.ifCond .lt 13, 3) := by decide +kernel
theorem dX1_canBeHeard_68 : decode cX1_canBeHeard 68 = .ok (.iload_n 1, 1) := by decide +kernel
theorem dX1_canBeHeard_69 : decode cX1_canBeHeard 69 = .ok (.bipush 8, 2) := by decide +kernel
theorem dX1_canBeHeard_71 : decode cX1_canBeHeard 71 = .ok (.if_icmp .ge 7, 3) := by decide +kernel
theorem dX1_canBeHeard_74 : decode cX1_canBeHeard 74 = .ok (.iconst 1, 1) := by decide +kernel
theorem dX1_canBeHeard_75 : decode cX1_canBeHeard 75 = .ok (.goto 4, 3) := by decide +kernel
theorem dX1_canBeHeard_78 : decode cX1_canBeHeard 78 = .ok (.iconst 0, 1) := by decide +kernel
theorem dX1_canBeHeard_79 : decode cX1_canBeHeard 79 = .ok (.ireturn, 1) := by decide +kernel
theorem dX1_canBeHeard_80 : decode cX1_canBeHeard 80 = .ok (.iload_n 1, 1) := by decide +kernel
theorem dX1_canBeHeard_81 : decode cX1_canBeHeard 81 = .ok (.iconst 1, 1) := by decide +kernel
theorem dX1_canBeHeard_82 : decode cX1_canBeHeard 82 = .ok (.if_icmp .lt 13, 3) := by decide +kernel
theorem dX1_canBeHeard_85 : decode cX1_canBeHeard 85 = .ok (.iload_n 1, 1) := by decide +kernel
theorem dX1_canBeHeard_86 : decode cX1_canBeHeard 86 = .ok (.bipush 8, 2) := by decide +kernel
theorem dX1_canBeHeard_88 : decode cX1_canBeHeard 88 = .ok (.if_icmp .ge 7, 3) := by decide +kernel
theorem dX1_canBeHeard_91 : decode cX1_canBeHeard 91 = .ok (.iconst 1, 1) := by decide +kernel
theorem dX1_canBeHeard_92 : decode cX1_canBeHeard 92 = .ok (.goto 4, 3) := by decide +kernel
theorem dX1_canBeHeard_95 : decode cX1_canBeHeard 95 = .ok (.iconst 0, 1) := by decide +kernel
theorem dX1_canBeHeard_96 : decode cX1_canBeHeard 96 = .ok (.ireturn, 1) := by decide +kernel
theorem dX1_canBeHeard_97 : decode cX1_canBeHeard 97 = .ok (.iconst 0, 1) := by decide +kernel
theorem dX1_canBeHeard_98 : decode cX1_canBeHeard 98 = .ok (.ireturn, 1) := by decide +kernel
theorem dX1_size_0 : decode cX1_size 0 = .ok (.aload_n 0, 1) := by decide +kernel
theorem dX1_size_1 : decode cX1_size 1 = .ok (.getfield 18, 3) := by decide +kernel
theorem dX1_size_4 : decode cX1_size 4 = .ok (.ireturn, 1) := by decide +kernel
theorem dX1_clear_0 : decode cX1_clear 0 = .ok (.aload_n 0, 1) := by decide +kernel
theorem dX1_clear_1 : decode cX1_clear 1 = .ok (.iconst 0, 1) := by decide +kernel
theorem dX1_clear_2 : decode cX1_clear 2 = .ok (.putfield 18, 3) := by decide +kernel
theorem dX1_clear_5 : decode cX1_clear 5 = .ok (.return_, 1) := by decide +kernel
theorem dX1_add_0 : decode cX1_add 0 = .ok (.aload_n 0, 1) := by decide +kernel
theorem dX1_add_1 : decode cX1_add 1 = .ok (.getfield 18, 3) := by decide +kernel
theorem dX1_add_4 : decode cX1_add 4 = .ok (.bipush 12, 2) := by decide +kernel
theorem dX1_add_6 : decode cX1_add 6 = .ok (.if_icmp .lt 5, 3) := by decide +kernel
theorem dX1_add_9 : decode cX1_add 9 = .ok (.iconst 0, 1) := by decide +kernel
theorem dX1_add_10 : decode cX1_add 10 = .ok (.ireturn, 1) := by decide +kernel
theorem dX1_add_11 : decode cX1_add 11 = .ok (.aload_n 0, 1) := by decide +kernel
theorem dX1_add_12 : decode cX1_add 12 = .ok (.getfield 11, 3) := by decide +kernel
theorem dX1_add_15 : decode cX1_add 15 = .ok (.aload_n 0, 1) := by decide +kernel
theorem dX1_add_16 : decode cX1_add 16 = .ok (.getfield 18, 3) := by decide +kernel
theorem dX1_add_19 : decode cX1_add 19 = .ok (.iload_n 1, 1) := by decide +kernel
theorem dX1_add_20 : decode cX1_add 20 = .ok (.iastore, 1) := by decide +kernel
theorem dX1_add_21 : decode cX1_add 21 = .ok (.aload_n 0, 1) := by decide +kernel
theorem dX1_add_22 : decode cX1_add 22 = .ok (.getfield 15, 3) := by decide +kernel
theorem dX1_add_25 : decode cX1_add 25 = .ok (.aload_n 0, 1) := by decide +kernel
theorem dX1_add_26 : decode cX1_add 26 = .ok (.getfield 18, 3) := by decide +kernel
theorem dX1_add_29 : decode cX1_add 29 = .ok (.iload_n 2, 1) := by decide +kernel
theorem dX1_add_30 : decode cX1_add 30 = .ok (.iastore, 1) := by decide +kernel
theorem dX1_add_31 : decode cX1_add 31 = .ok (.aload_n 0, 1) := by decide +kernel
theorem dX1_add_32 : decode cX1_add 32 = .ok (.dup, 1) := by decide +kernel
theorem dX1_add_33 : decode cX1_add 33 = .ok (.getfield 18, 3) := by decide +kernel
theorem dX1_add_36 : decode cX1_add 36 = .ok (.iconst 1, 1) := by decide +kernel
theorem dX1_add_37 : decode cX1_add 37 = .ok (.iadd, 1) := by decide +kernel
theorem dX1_add_38 : decode cX1_add 38 = .ok (.putfield 18, 3) := by decide +kernel
theorem dX1_add_41 : decode cX1_add 41 = .ok (.iconst 1, 1) := by decide +kernel
theorem dX1_add_42 : decode cX1_add 42 = .ok (.ireturn, 1) := by decide +kernel
theorem dX1_what_0 : decode cX1_what 0 = .ok (.iload_n 1, 1) := by decide +kernel
theorem dX1_what_1 : decode cX1_what 1 = .ok (.ifCond .lt 20, 3) := by decide +kernel
theorem dX1_what_4 : decode cX1_what 4 = .ok (.iload_n 1, 1) := by decide +kernel
theorem dX1_what_5 : decode cX1_what 5 = .ok (.aload_n 0, 1) := by decide +kernel
theorem dX1_what_6 : decode cX1_what 6 = .ok (.getfield 18, 3) := by decide +kernel
theorem dX1_what_9 : decode cX1_what 9 = .ok (.if_icmp .ge 12, 3) := by decide +kernel
theorem dX1_what_12 : decode cX1_what 12 = .ok (.aload_n 0, 1) := by decide +kernel
theorem dX1_what_13 : decode cX1_what 13 = .ok (.getfield 11, 3) := by decide +kernel
theorem dX1_what_16 : decode cX1_what 16 = .ok (.iload_n 1, 1) := by decide +kernel
theorem dX1_what_17 : decode cX1_what 17 = .ok (.iaload, 1) := by decide +kernel
theorem dX1_what_18 : decode cX1_what 18 = .ok (.goto 4, 3) := by decide +kernel
theorem dX1_what_21 : decode cX1_what 21 = .ok (.iconst (-1), 1) := by decide +kernel
theorem dX1_what_22 : decode cX1_what 22 = .ok (.ireturn, 1) := by decide +kernel
theorem dX1_value_0 : decode cX1_value 0 = .ok (.iload_n 1, 1) := by decide +kernel
theorem dX1_value_1 : decode cX1_value 1 = .ok (.ifCond .lt 20, 3) := by decide +kernel
theorem dX1_value_4 : decode cX1_value 4 = .ok (.iload_n 1, 1) := by decide +kernel
theorem dX1_value_5 : decode cX1_value 5 = .ok (.aload_n 0, 1) := by decide +kernel
theorem dX1_value_6 : decode cX1_value 6 = .ok (.getfield 18, 3) := by decide +kernel
theorem dX1_value_9 : decode cX1_value 9 = .ok (.if_icmp .ge 12, 3) := by decide +kernel
theorem dX1_value_12 : decode cX1_value 12 = .ok (.aload_n 0, 1) := by decide +kernel
theorem dX1_value_13 : decode cX1_value 13 = .ok (.getfield 15, 3) := by decide +kernel
theorem dX1_value_16 : decode cX1_value 16 = .ok (.iload_n 1, 1) := by decide +kernel
theorem dX1_value_17 : decode cX1_value 17 = .ok (.iaload, 1) := by decide +kernel
theorem dX1_value_18 : decode cX1_value 18 = .ok (.goto 4, 3) := by decide +kernel
theorem dX1_value_21 : decode cX1_value 21 = .ok (.iconst (-1), 1) := by decide +kernel
theorem dX1_value_22 : decode cX1_value 22 = .ok (.ireturn, 1) := by decide +kernel
theorem dX2_init_0 : decode cX2_init 0 = .ok (.aload_n 0, 1) := by decide +kernel
theorem dX2_init_1 : decode cX2_init 1 = .ok (.invokespecial 3, 3) := by decide +kernel
theorem dX2_init_4 : decode cX2_init 4 = .ok (.aload_n 0, 1) := by decide +kernel
theorem dX2_init_5 : decode cX2_init 5 = .ok (.bipush 8, 2) := by decide +kernel
theorem dX2_init_7 : decode cX2_init 7 = .ok (.newarray .int, 2) := by decide +kernel
theorem dX2_init_9 : decode cX2_init 9 = .ok (.putfield 9, 3) := by decide +kernel
theorem dX2_init_12 : decode cX2_init 12 = .ok (.aload_n 0, 1) := by decide +kernel
theorem dX2_init_13 : decode cX2_init 13 = .ok (.bipush 8, 2) := by decide +kernel
theorem dX2_init_15 : decode cX2_init 15 = .ok (.newarray .int, 2) := by decide +kernel
theorem dX2_init_17 : decode cX2_init 17 = .ok (.putfield 15, 3) := by decide +kernel
theorem dX2_init_20 : decode cX2_init 20 = .ok (.return_, 1) := by decide +kernel
theorem dX2_clear_0 : decode cX2_clear 0 = .ok (.aload_n 0, 1) := by decide +kernel
theorem dX2_clear_1 : decode cX2_clear 1 = .ok (.iconst 0, 1) := by decide +kernel
theorem dX2_clear_2 : decode cX2_clear 2 = .ok (.putfield 18, 3) := by decide +kernel
theorem dX2_clear_5 : decode cX2_clear 5 = .ok (.aload_n 0, 1) := by decide +kernel
theorem dX2_clear_6 : decode cX2_clear 6 = .ok (.iconst 0, 1) := by decide +kernel
theorem dX2_clear_7 : decode cX2_clear 7 = .ok (.putfield 22, 3) := by decide +kernel
theorem dX2_clear_10 : decode cX2_clear 10 = .ok (.iconst 0, 1) := by decide +kernel
theorem dX2_clear_11 : decode cX2_clear 11 = .ok (.istore_n 1, 1) := by decide +kernel
theorem dX2_clear_12 : decode cX2_clear 12 = .ok (.iload_n 1, 1) := by decide +kernel
theorem dX2_clear_13 : decode cX2_clear 13 = .ok (.bipush 8, 2) := by decide +kernel
theorem dX2_clear_15 : decode cX2_clear 15 = .ok (.if_icmp .ge 23, 3) := by decide +kernel
theorem dX2_clear_18 : decode cX2_clear 18 = .ok (.aload_n 0, 1) := by decide +kernel
theorem dX2_clear_19 : decode cX2_clear 19 = .ok (.getfield 9, 3) := by decide +kernel
theorem dX2_clear_22 : decode cX2_clear 22 = .ok (.iload_n 1, 1) := by decide +kernel
theorem dX2_clear_23 : decode cX2_clear 23 = .ok (.iconst 0, 1) := by decide +kernel
theorem dX2_clear_24 : decode cX2_clear 24 = .ok (.iastore, 1) := by decide +kernel
theorem dX2_clear_25 : decode cX2_clear 25 = .ok (.aload_n 0, 1) := by decide +kernel
theorem dX2_clear_26 : decode cX2_clear 26 = .ok (.getfield 15, 3) := by decide +kernel
theorem dX2_clear_29 : decode cX2_clear 29 = .ok (.iload_n 1, 1) := by decide +kernel
theorem dX2_clear_30 : decode cX2_clear 30 = .ok (.iconst 0, 1) := by decide +kernel
theorem dX2_clear_31 : decode cX2_clear 31 = .ok (.iastore, 1) := by decide +kernel
theorem dX2_clear_32 : decode cX2_clear 32 = .ok (.iinc 1 1, 3) := by decide +kernel
theorem dX2_clear_35 : decode cX2_clear 35 = .ok (.goto (-23), 3) := by decide +kernel
theorem dX2_clear_38 : decode cX2_clear 38 = .ok (.return_, 1) := by decide +kernel
theorem dX2_copyFrom_0 : decode cX2_copyFrom 0 = .ok (.aload_n 0, 1) := by decide +kernel
theorem dX2_copyFrom_1 : decode cX2_copyFrom 1 = .ok (.aload_n 1, 1) := by decide +kernel
theorem dX2_copyFrom_2 : decode cX2_copyFrom 2 = .ok (.getfield 18, 3) := by decide +kernel
theorem dX2_copyFrom_5 : decode cX2_copyFrom 5 = .ok (.putfield 18, 3) := by decide +kernel
theorem dX2_copyFrom_8 : decode cX2_copyFrom 8 = .ok (.aload_n 0, 1) := by decide +kernel
theorem dX2_copyFrom_9 : decode cX2_copyFrom 9 = .ok (.aload_n 1, 1) := by decide +kernel
theorem dX2_copyFrom_10 : decode cX2_copyFrom 10 = .ok (.getfield 22, 3) := by decide +kernel
theorem dX2_copyFrom_13 : decode cX2_copyFrom 13 = .ok (.putfield 22, 3) := by decide +kernel
theorem dX2_copyFrom_16 : decode cX2_copyFrom 16 = .ok (.aload_n 1, 1) := by decide +kernel
theorem dX2_copyFrom_17 : decode cX2_copyFrom 17 = .ok (.getfield 9, 3) := by decide +kernel
theorem dX2_copyFrom_20 : decode cX2_copyFrom 20 = .ok (.iconst 0, 1) := by decide +kernel
theorem dX2_copyFrom_21 : decode cX2_copyFrom 21 = .ok (.aload_n 0, 1) := by decide +kernel
theorem dX2_copyFrom_22 : decode cX2_copyFrom 22 = .ok (.getfield 9, 3) := by decide +kernel
theorem dX2_copyFrom_25 : decode cX2_copyFrom 25 = .ok (.iconst 0, 1) := by decide +kernel
theorem dX2_copyFrom_26 : decode cX2_copyFrom 26 = .ok (.bipush 8, 2) := by decide +kernel
theorem dX2_copyFrom_28 : decode cX2_copyFrom 28 = .ok (.invokestatic 25, 3) := by decide +kernel
theorem dX2_copyFrom_31 : decode cX2_copyFrom 31 = .ok (.aload_n 1, 1) := by decide +kernel
theorem dX2_copyFrom_32 : decode cX2_copyFrom 32 = .ok (.getfield 15, 3) := by decide +kernel
theorem dX2_copyFrom_35 : decode cX2_copyFrom 35 = .ok (.iconst 0, 1) := by decide +kernel
theorem dX2_copyFrom_36 : decode cX2_copyFrom 36 = .ok (.aload_n 0, 1) := by decide +kernel
theorem dX2_copyFrom_37 : decode cX2_copyFrom 37 = .ok (.getfield 15, 3) := by decide +kernel
theorem dX2_copyFrom_40 : decode cX2_copyFrom 40 = .ok (.iconst 0, 1) := by decide +kernel
theorem dX2_copyFrom_41 : decode cX2_copyFrom 41 = .ok (.bipush 8, 2) := by decide +kernel
theorem dX2_copyFrom_43 : decode cX2_copyFrom 43 = .ok (.invokestatic 25, 3) := by decide +kernel
theorem dX2_copyFrom_46 : decode cX2_copyFrom 46 = .ok (.return_, 1) := by decide +kernel
theorem dX2_house_0 : decode cX2_house 0 = .ok (.aload_n 0, 1) := by decide +kernel
theorem dX2_house_1 : decode cX2_house 1 = .ok (.sipush 9999, 3) := by decide +kernel
theorem dX2_house_4 : decode cX2_house 4 = .ok (.aload_n 0, 1) := by decide +kernel
theorem dX2_house_5 : decode cX2_house 5 = .ok (.getfield 18, 3) := by decide +kernel
theorem dX2_house_8 : decode cX2_house 8 = .ok (.iload_n 1, 1) := by decide +kernel
theorem dX2_house_9 : decode cX2_house 9 = .ok (.iadd, 1) := by decide +kernel
theorem dX2_house_10 : decode cX2_house 10 = .ok (.invokestatic 31, 3) := by decide +kernel
theorem dX2_house_13 : decode cX2_house 13 = .ok (.putfield 18, 3) := by decide +kernel
theorem dX2_house_16 : decode cX2_house 16 = .ok (.return_, 1) := by decide +kernel
theorem dX2_walkers_0 : decode cX2_walkers 0 = .ok (.iconst 0, 1) := by decide +kernel
theorem dX2_walkers_1 : decode cX2_walkers 1 = .ok (.istore_n 1, 1) := by decide +kernel
theorem dX2_walkers_2 : decode cX2_walkers 2 = .ok (.iconst 1, 1) := by decide +kernel
theorem dX2_walkers_3 : decode cX2_walkers 3 = .ok (.istore_n 2, 1) := by decide +kernel
theorem dX2_walkers_4 : decode cX2_walkers 4 = .ok (.iload_n 2, 1) := by decide +kernel
theorem dX2_walkers_5 : decode cX2_walkers 5 = .ok (.bipush 8, 2) := by decide +kernel
theorem dX2_walkers_7 : decode cX2_walkers 7 = .ok (.if_icmp .ge 18, 3) := by decide +kernel
theorem dX2_walkers_10 : decode cX2_walkers 10 = .ok (.iload_n 1, 1) := by decide +kernel
theorem dX2_walkers_11 : decode cX2_walkers 11 = .ok (.aload_n 0, 1) := by decide +kernel
theorem dX2_walkers_12 : decode cX2_walkers 12 = .ok (.getfield 15, 3) := by decide +kernel
theorem dX2_walkers_15 : decode cX2_walkers 15 = .ok (.iload_n 2, 1) := by decide +kernel
theorem dX2_walkers_16 : decode cX2_walkers 16 = .ok (.iaload, 1) := by decide +kernel
theorem dX2_walkers_17 : decode cX2_walkers 17 = .ok (.iadd, 1) := by decide +kernel
theorem dX2_walkers_18 : decode cX2_walkers 18 = .ok (.istore_n 1, 1) := by decide +kernel
theorem dX2_walkers_19 : decode cX2_walkers 19 = .ok (.iinc 2 1, 3) := by decide +kernel
theorem dX2_walkers_22 : decode cX2_walkers 22 = .ok (.goto (-18), 3) := by decide +kernel
theorem dX2_walkers_25 : decode cX2_walkers 25 = .ok (.iload_n 1, 1) := by decide +kernel
theorem dX2_walkers_26 : decode cX2_walkers 26 = .ok (.ireturn, 1) := by decide +kernel
theorem dX2_peopled_0 : decode cX2_peopled 0 = .ok (.iconst 0, 1) := by decide +kernel
theorem dX2_peopled_1 : decode cX2_peopled 1 = .ok (.istore_n 1, 1) := by decide +kernel
theorem dX2_peopled_2 : decode cX2_peopled 2 = .ok (.iconst 1, 1) := by decide +kernel
theorem dX2_peopled_3 : decode cX2_peopled 3 = .ok (.istore_n 2, 1) := by decide +kernel
theorem dX2_peopled_4 : decode cX2_peopled 4 = .ok (.iload_n 2, 1) := by decide +kernel
theorem dX2_peopled_5 : decode cX2_peopled 5 = .ok (.bipush 8, 2) := by decide +kernel
theorem dX2_peopled_7 : decode cX2_peopled 7 = .ok (.if_icmp .ge 24, 3) := by decide +kernel
theorem dX2_peopled_10 : decode cX2_peopled 10 = .ok (.aload_n 0, 1) := by decide +kernel
theorem dX2_peopled_11 : decode cX2_peopled 11 = .ok (.getfield 15, 3) := by decide +kernel
theorem dX2_peopled_14 : decode cX2_peopled 14 = .ok (.iload_n 2, 1) := by decide +kernel
theorem dX2_peopled_15 : decode cX2_peopled 15 = .ok (.iaload, 1) := by decide +kernel
theorem dX2_peopled_16 : decode cX2_peopled 16 = .ok (.ifCond .le 9, 3) := by decide +kernel
theorem dX2_peopled_19 : decode cX2_peopled 19 = .ok (.iload_n 1, 1) := by decide +kernel
theorem dX2_peopled_20 : decode cX2_peopled 20 = .ok (.iconst 1, 1) := by decide +kernel
theorem dX2_peopled_21 : decode cX2_peopled 21 = .ok (.iload_n 2, 1) := by decide +kernel
theorem dX2_peopled_22 : decode cX2_peopled 22 = .ok (.ishl, 1) := by decide +kernel
theorem dX2_peopled_23 : decode cX2_peopled 23 = .ok (.ior, 1) := by decide +kernel
theorem dX2_peopled_24 : decode cX2_peopled 24 = .ok (.istore_n 1, 1) := by decide +kernel
theorem dX2_peopled_25 : decode cX2_peopled 25 = .ok (.iinc 2 1, 3) := by decide +kernel
theorem dX2_peopled_28 : decode cX2_peopled 28 = .ok (.goto (-24), 3) := by decide +kernel
theorem dX2_peopled_31 : decode cX2_peopled 31 = .ok (.iload_n 1, 1) := by decide +kernel
theorem dX2_peopled_32 : decode cX2_peopled 32 = .ok (.ireturn, 1) := by decide +kernel
theorem dX2_hasPostsOf_0 : decode cX2_hasPostsOf 0 = .ok (.iconst 1, 1) := by decide +kernel
theorem dX2_hasPostsOf_1 : decode cX2_hasPostsOf 1 = .ok (.istore_n 2, 1) := by decide +kernel
theorem dX2_hasPostsOf_2 : decode cX2_hasPostsOf 2 = .ok (.iload_n 2, 1) := by decide +kernel
theorem dX2_hasPostsOf_3 : decode cX2_hasPostsOf 3 = .ok (.bipush 8, 2) := by decide +kernel
theorem dX2_hasPostsOf_5 : decode cX2_hasPostsOf 5 = .ok (.if_icmp .ge 26, 3) := by decide +kernel
theorem dX2_hasPostsOf_8 : decode cX2_hasPostsOf 8 = .ok (.aload_n 0, 1) := by decide +kernel
theorem dX2_hasPostsOf_9 : decode cX2_hasPostsOf 9 = .ok (.getfield 9, 3) := by decide +kernel
theorem dX2_hasPostsOf_12 : decode cX2_hasPostsOf 12 = .ok (.iload_n 2, 1) := by decide +kernel
theorem dX2_hasPostsOf_13 : decode cX2_hasPostsOf 13 = .ok (.iaload, 1) := by decide +kernel
theorem dX2_hasPostsOf_14 : decode cX2_hasPostsOf 14 = .ok (.aload_n 1, 1) := by decide +kernel
theorem dX2_hasPostsOf_15 : decode cX2_hasPostsOf 15 = .ok (.getfield 9, 3) := by decide +kernel
theorem dX2_hasPostsOf_18 : decode cX2_hasPostsOf 18 = .ok (.iload_n 2, 1) := by decide +kernel
theorem dX2_hasPostsOf_19 : decode cX2_hasPostsOf 19 = .ok (.iaload, 1) := by decide +kernel
theorem dX2_hasPostsOf_20 : decode cX2_hasPostsOf 20 = .ok (.if_icmp .eq 5, 3) := by decide +kernel
theorem dX2_hasPostsOf_23 : decode cX2_hasPostsOf 23 = .ok (.iconst 0, 1) := by decide +kernel
theorem dX2_hasPostsOf_24 : decode cX2_hasPostsOf 24 = .ok (.ireturn, 1) := by decide +kernel
theorem dX2_hasPostsOf_25 : decode cX2_hasPostsOf 25 = .ok (.iinc 2 1, 3) := by decide +kernel
theorem dX2_hasPostsOf_28 : decode cX2_hasPostsOf 28 = .ok (.goto (-26), 3) := by decide +kernel
theorem dX2_hasPostsOf_31 : decode cX2_hasPostsOf 31 = .ok (.iconst 1, 1) := by decide +kernel
theorem dX2_hasPostsOf_32 : decode cX2_hasPostsOf 32 = .ok (.ireturn, 1) := by decide +kernel
theorem dX3_init_0 : decode cX3_init 0 = .ok (.aload_n 0, 1) := by decide +kernel
theorem dX3_init_1 : decode cX3_init 1 = .ok (.invokespecial 3, 3) := by decide +kernel
theorem dX3_init_4 : decode cX3_init 4 = .ok (.aload_n 0, 1) := by decide +kernel
theorem dX3_init_5 : decode cX3_init 5 = .ok (.sipush 324, 3) := by decide +kernel
theorem dX3_init_8 : decode cX3_init 8 = .ok (.newarray .int, 2) := by decide +kernel
theorem dX3_init_10 : decode cX3_init 10 = .ok (.putfield 11, 3) := by decide +kernel
theorem dX3_init_13 : decode cX3_init 13 = .ok (.return_, 1) := by decide +kernel
theorem dX3_size_0 : decode cX3_size 0 = .ok (.aload_n 0, 1) := by decide +kernel
theorem dX3_size_1 : decode cX3_size 1 = .ok (.getfield 15, 3) := by decide +kernel
theorem dX3_size_4 : decode cX3_size 4 = .ok (.ireturn, 1) := by decide +kernel
theorem dX3_forgetActs_0 : decode cX3_forgetActs 0 = .ok (.aload_n 0, 1) := by decide +kernel
theorem dX3_forgetActs_1 : decode cX3_forgetActs 1 = .ok (.iconst 0, 1) := by decide +kernel
theorem dX3_forgetActs_2 : decode cX3_forgetActs 2 = .ok (.putfield 15, 3) := by decide +kernel
theorem dX3_forgetActs_5 : decode cX3_forgetActs 5 = .ok (.return_, 1) := by decide +kernel
theorem dX3_forgetAll_0 : decode cX3_forgetAll 0 = .ok (.aload_n 0, 1) := by decide +kernel
theorem dX3_forgetAll_1 : decode cX3_forgetAll 1 = .ok (.iconst 0, 1) := by decide +kernel
theorem dX3_forgetAll_2 : decode cX3_forgetAll 2 = .ok (.putfield 15, 3) := by decide +kernel
theorem dX3_forgetAll_5 : decode cX3_forgetAll 5 = .ok (.aload_n 0, 1) := by decide +kernel
theorem dX3_forgetAll_6 : decode cX3_forgetAll 6 = .ok (.iconst 0, 1) := by decide +kernel
theorem dX3_forgetAll_7 : decode cX3_forgetAll 7 = .ok (.putfield 19, 3) := by decide +kernel
theorem dX3_forgetAll_10 : decode cX3_forgetAll 10 = .ok (.return_, 1) := by decide +kernel
theorem dX3_push_0 : decode cX3_push 0 = .ok (.aload_n 0, 1) := by decide +kernel
theorem dX3_push_1 : decode cX3_push 1 = .ok (.aload_n 0, 1) := by decide +kernel
theorem dX3_push_2 : decode cX3_push 2 = .ok (.getfield 22, 3) := by decide +kernel
theorem dX3_push_5 : decode cX3_push 5 = .ok (.aload_n 1, 1) := by decide +kernel
theorem dX3_push_6 : decode cX3_push 6 = .ok (.invokevirtual 25, 3) := by decide +kernel
theorem dX3_push_9 : decode cX3_push 9 = .ok (.aload_n 0, 1) := by decide +kernel
theorem dX3_push_10 : decode cX3_push 10 = .ok (.aload_n 0, 1) := by decide +kernel
theorem dX3_push_11 : decode cX3_push 11 = .ok (.getfield 22, 3) := by decide +kernel
theorem dX3_push_14 : decode cX3_push 14 = .ok (.iconst 1, 1) := by decide +kernel
theorem dX3_push_15 : decode cX3_push 15 = .ok (.iadd, 1) := by decide +kernel
theorem dX3_push_16 : decode cX3_push 16 = .ok (.bipush 15, 2) := by decide +kernel
theorem dX3_push_18 : decode cX3_push 18 = .ok (.irem, 1) := by decide +kernel
theorem dX3_push_19 : decode cX3_push 19 = .ok (.putfield 22, 3) := by decide +kernel
theorem dX3_push_22 : decode cX3_push 22 = .ok (.aload_n 0, 1) := by decide +kernel
theorem dX3_push_23 : decode cX3_push 23 = .ok (.getfield 15, 3) := by decide +kernel
theorem dX3_push_26 : decode cX3_push 26 = .ok (.bipush 15, 2) := by decide +kernel
theorem dX3_push_28 : decode cX3_push 28 = .ok (.if_icmp .ge 13, 3) := by decide +kernel
theorem dX3_push_31 : decode cX3_push 31 = .ok (.aload_n 0, 1) := by decide +kernel
theorem dX3_push_32 : decode cX3_push 32 = .ok (.dup, 1) := by decide +kernel
theorem dX3_push_33 : decode cX3_push 33 = .ok (.getfield 15, 3) := by decide +kernel
theorem dX3_push_36 : decode cX3_push 36 = .ok (.iconst 1, 1) := by decide +kernel
theorem dX3_push_37 : decode cX3_push 37 = .ok (.iadd, 1) := by decide +kernel
theorem dX3_push_38 : decode cX3_push 38 = .ok (.putfield 15, 3) := by decide +kernel
theorem dX3_push_41 : decode cX3_push 41 = .ok (.return_, 1) := by decide +kernel
theorem dX3_takeBack_0 : decode cX3_takeBack 0 = .ok (.aload_n 0, 1) := by decide +kernel
theorem dX3_takeBack_1 : decode cX3_takeBack 1 = .ok (.getfield 15, 3) := by decide +kernel
theorem dX3_takeBack_4 : decode cX3_takeBack 4 = .ok (.iconst 1, 1) := by decide +kernel
theorem dX3_takeBack_5 : decode cX3_takeBack 5 = .ok (.if_icmp .ge 5, 3) := by decide +kernel
theorem dX3_takeBack_8 : decode cX3_takeBack 8 = .ok (.iconst 0, 1) := by decide +kernel
theorem dX3_takeBack_9 : decode cX3_takeBack 9 = .ok (.ireturn, 1) := by decide +kernel
theorem dX3_takeBack_10 : decode cX3_takeBack 10 = .ok (.aload_n 0, 1) := by decide +kernel
theorem dX3_takeBack_11 : decode cX3_takeBack 11 = .ok (.dup, 1) := by decide +kernel
theorem dX3_takeBack_12 : decode cX3_takeBack 12 = .ok (.getfield 15, 3) := by decide +kernel
theorem dX3_takeBack_15 : decode cX3_takeBack 15 = .ok (.iconst 1, 1) := by decide +kernel
theorem dX3_takeBack_16 : decode cX3_takeBack 16 = .ok (.isub, 1) := by decide +kernel
theorem dX3_takeBack_17 : decode cX3_takeBack 17 = .ok (.putfield 15, 3) := by decide +kernel
theorem dX3_takeBack_20 : decode cX3_takeBack 20 = .ok (.aload_n 0, 1) := by decide +kernel
theorem dX3_takeBack_21 : decode cX3_takeBack 21 = .ok (.aload_n 0, 1) := by decide +kernel
theorem dX3_takeBack_22 : decode cX3_takeBack 22 = .ok (.getfield 22, 3) := by decide +kernel
theorem dX3_takeBack_25 : decode cX3_takeBack 25 = .ok (.bipush 15, 2) := by decide +kernel
theorem dX3_takeBack_27 : decode cX3_takeBack 27 = .ok (.iadd, 1) := by decide +kernel
theorem dX3_takeBack_28 : decode cX3_takeBack 28 = .ok (.iconst 1, 1) := by decide +kernel
theorem dX3_takeBack_29 : decode cX3_takeBack 29 = .ok (.isub, 1) := by decide +kernel
theorem dX3_takeBack_30 : decode cX3_takeBack 30 = .ok (.bipush 15, 2) := by decide +kernel
theorem dX3_takeBack_32 : decode cX3_takeBack 32 = .ok (.irem, 1) := by decide +kernel
theorem dX3_takeBack_33 : decode cX3_takeBack 33 = .ok (.putfield 22, 3) := by decide +kernel
theorem dX3_takeBack_36 : decode cX3_takeBack 36 = .ok (.aload_n 0, 1) := by decide +kernel
theorem dX3_takeBack_37 : decode cX3_takeBack 37 = .ok (.aload_n 0, 1) := by decide +kernel
theorem dX3_takeBack_38 : decode cX3_takeBack 38 = .ok (.getfield 22, 3) := by decide +kernel
theorem dX3_takeBack_41 : decode cX3_takeBack 41 = .ok (.aload_n 1, 1) := by decide +kernel
theorem dX3_takeBack_42 : decode cX3_takeBack 42 = .ok (.invokevirtual 29, 3) := by decide +kernel
theorem dX3_takeBack_45 : decode cX3_takeBack 45 = .ok (.iconst 1, 1) := by decide +kernel
theorem dX3_takeBack_46 : decode cX3_takeBack 46 = .ok (.ireturn, 1) := by decide +kernel
theorem dX3_isNumber_0 : decode cX3_isNumber 0 = .ok (.iload_n 1, 1) := by decide +kernel
theorem dX3_isNumber_1 : decode cX3_isNumber 1 = .ok (.ifCond .lt 12, 3) := by decide +kernel
theorem dX3_isNumber_4 : decode cX3_isNumber 4 = .ok (.iload_n 1, 1) := by decide +kernel
theorem dX3_isNumber_5 : decode cX3_isNumber 5 = .ok (.iconst 3, 1) := by decide +kernel
theorem dX3_isNumber_6 : decode cX3_isNumber 6 = .ok (.if_icmp .ge 7, 3) := by decide +kernel
theorem dX3_isNumber_9 : decode cX3_isNumber 9 = .ok (.iconst 1, 1) := by decide +kernel
theorem dX3_isNumber_10 : decode cX3_isNumber 10 = .ok (.goto 4, 3) := by decide +kernel
theorem dX3_isNumber_13 : decode cX3_isNumber 13 = .ok (.iconst 0, 1) := by decide +kernel
theorem dX3_isNumber_14 : decode cX3_isNumber 14 = .ok (.ireturn, 1) := by decide +kernel
theorem dX3_store_0 : decode cX3_store 0 = .ok (.aload_n 0, 1) := by decide +kernel
theorem dX3_store_1 : decode cX3_store 1 = .ok (.iload_n 1, 1) := by decide +kernel
theorem dX3_store_2 : decode cX3_store 2 = .ok (.invokevirtual 32, 3) := by decide +kernel
theorem dX3_store_5 : decode cX3_store 5 = .ok (.ifCond .ne 4, 3) := by decide +kernel
theorem dX3_store_8 : decode cX3_store 8 = .ok (.return_, 1) := by decide +kernel
theorem dX3_store_9 : decode cX3_store 9 = .ok (.aload_n 0, 1) := by decide +kernel
theorem dX3_store_10 : decode cX3_store 10 = .ok (.bipush 15, 2) := by decide +kernel
theorem dX3_store_12 : decode cX3_store 12 = .ok (.iload_n 1, 1) := by decide +kernel
theorem dX3_store_13 : decode cX3_store 13 = .ok (.iadd, 1) := by decide +kernel
theorem dX3_store_14 : decode cX3_store 14 = .ok (.aload_n 2, 1) := by decide +kernel
theorem dX3_store_15 : decode cX3_store 15 = .ok (.invokevirtual 25, 3) := by decide +kernel
theorem dX3_store_18 : decode cX3_store 18 = .ok (.aload_n 0, 1) := by decide +kernel
theorem dX3_store_19 : decode cX3_store 19 = .ok (.dup, 1) := by decide +kernel
theorem dX3_store_20 : decode cX3_store 20 = .ok (.getfield 19, 3) := by decide +kernel
theorem dX3_store_23 : decode cX3_store 23 = .ok (.iconst 1, 1) := by decide +kernel
theorem dX3_store_24 : decode cX3_store 24 = .ok (.iload_n 1, 1) := by decide +kernel
theorem dX3_store_25 : decode cX3_store 25 = .ok (.ishl, 1) := by decide +kernel
theorem dX3_store_26 : decode cX3_store 26 = .ok (.ior, 1) := by decide +kernel
theorem dX3_store_27 : decode cX3_store 27 = .ok (.putfield 19, 3) := by decide +kernel
theorem dX3_store_30 : decode cX3_store 30 = .ok (.return_, 1) := by decide +kernel
theorem dX3_bring_0 : decode cX3_bring 0 = .ok (.aload_n 0, 1) := by decide +kernel
theorem dX3_bring_1 : decode cX3_bring 1 = .ok (.iload_n 1, 1) := by decide +kernel
theorem dX3_bring_2 : decode cX3_bring 2 = .ok (.invokevirtual 32, 3) := by decide +kernel
theorem dX3_bring_5 : decode cX3_bring 5 = .ok (.ifCond .eq 14, 3) := by decide +kernel
theorem dX3_bring_8 : decode cX3_bring 8 = .ok (.aload_n 0, 1) := by decide +kernel
theorem dX3_bring_9 : decode cX3_bring 9 = .ok (.getfield 19, 3) := by decide +kernel
theorem dX3_bring_12 : decode cX3_bring 12 = .ok (.iload_n 1, 1) := by decide +kernel
theorem dX3_bring_13 : decode cX3_bring 13 = .ok (.ishr, 1) := by decide +kernel
theorem dX3_bring_14 : decode cX3_bring 14 = .ok (.iconst 1, 1) := by decide +kernel
theorem dX3_bring_15 : decode cX3_bring 15 = .ok (.iand, 1) := by decide +kernel
theorem dX3_bring_16 : decode cX3_bring 16 = .ok (.ifCond .ne 5, 3) := by decide +kernel
theorem dX3_bring_19 : decode cX3_bring 19 = .ok (.iconst 0, 1) := by decide +kernel
theorem dX3_bring_20 : decode cX3_bring 20 = .ok (.ireturn, 1) := by decide +kernel
theorem dX3_bring_21 : decode cX3_bring 21 = .ok (.aload_n 0, 1) := by decide +kernel
theorem dX3_bring_22 : decode cX3_bring 22 = .ok (.bipush 15, 2) := by decide +kernel
theorem dX3_bring_24 : decode cX3_bring 24 = .ok (.iload_n 1, 1) := by decide +kernel
theorem dX3_bring_25 : decode cX3_bring 25 = .ok (.iadd, 1) := by decide +kernel
theorem dX3_bring_26 : decode cX3_bring 26 = .ok (.aload_n 2, 1) := by decide +kernel
theorem dX3_bring_27 : decode cX3_bring 27 = .ok (.invokevirtual 29, 3) := by decide +kernel
theorem dX3_bring_30 : decode cX3_bring 30 = .ok (.iconst 1, 1) := by decide +kernel
theorem dX3_bring_31 : decode cX3_bring 31 = .ok (.ireturn, 1) := by decide +kernel
theorem dX3_write_0 : decode cX3_write 0 = .ok (.iload_n 1, 1) := by decide +kernel
theorem dX3_write_1 : decode cX3_write 1 = .ok (.ifCond .lt 9, 3) := by decide +kernel
theorem dX3_write_4 : decode cX3_write 4 = .ok (.iload_n 1, 1) := by decide +kernel
theorem dX3_write_5 : decode cX3_write 5 = .ok (.bipush 18, 2) := by decide +kernel
theorem dX3_write_7 : decode cX3_write 7 = .ok (.if_icmp .lt 4, 3) := by decide +kernel
theorem dX3_write_10 : decode cX3_write 10 = .ok (.return_, 1) := by decide +kernel
theorem dX3_write_11 : decode cX3_write 11 = .ok (.iload_n 1, 1) := by decide +kernel
theorem dX3_write_12 : decode cX3_write 12 = .ok (.bipush 18, 2) := by decide +kernel
theorem dX3_write_14 : decode cX3_write 14 = .ok (.imul, 1) := by decide +kernel
theorem dX3_write_15 : decode cX3_write 15 = .ok (.istore_n 3, 1) := by decide +kernel
theorem dX3_write_16 : decode cX3_write 16 = .ok (.aload_n 2, 1) := by decide +kernel
theorem dX3_write_17 : decode cX3_write 17 = .ok (.getfield 36, 3) := by decide +kernel
theorem dX3_write_20 : decode cX3_write 20 = .ok (.iconst 0, 1) := by decide +kernel
theorem dX3_write_21 : decode cX3_write 21 = .ok (.aload_n 0, 1) := by decide +kernel
theorem dX3_write_22 : decode cX3_write 22 = .ok (.getfield 11, 3) := by decide +kernel
theorem dX3_write_25 : decode cX3_write 25 = .ok (.iload_n 3, 1) := by decide +kernel
theorem dX3_write_26 : decode cX3_write 26 = .ok (.bipush 8, 2) := by decide +kernel
theorem dX3_write_28 : decode cX3_write 28 = .ok (.invokestatic 41, 3) := by decide +kernel
theorem dX3_write_31 : decode cX3_write 31 = .ok (.aload_n 2, 1) := by decide +kernel
theorem dX3_write_32 : decode cX3_write 32 = .ok (.getfield 47, 3) := by decide +kernel
theorem dX3_write_35 : decode cX3_write 35 = .ok (.iconst 0, 1) := by decide +kernel
theorem dX3_write_36 : decode cX3_write 36 = .ok (.aload_n 0, 1) := by decide +kernel
theorem dX3_write_37 : decode cX3_write 37 = .ok (.getfield 11, 3) := by decide +kernel
theorem dX3_write_40 : decode cX3_write 40 = .ok (.iload_n 3, 1) := by decide +kernel
theorem dX3_write_41 : decode cX3_write 41 = .ok (.bipush 8, 2) := by decide +kernel
theorem dX3_write_43 : decode cX3_write 43 = .ok (.iadd, 1) := by decide +kernel
theorem dX3_write_44 : decode cX3_write 44 = .ok (.bipush 8, 2) := by decide +kernel
theorem dX3_write_46 : decode cX3_write 46 = .ok (.invokestatic 41, 3) := by decide +kernel
theorem dX3_write_49 : decode cX3_write 49 = .ok (.aload_n 0, 1) := by decide +kernel
theorem dX3_write_50 : decode cX3_write 50 = .ok (.getfield 11, 3) := by decide +kernel
theorem dX3_write_53 : decode cX3_write 53 = .ok (.iload_n 3, 1) := by decide +kernel
theorem dX3_write_54 : decode cX3_write 54 = .ok (.bipush 18, 2) := by decide +kernel
theorem dX3_write_56 : decode cX3_write 56 = .ok (.iadd, 1) := by decide +kernel
theorem dX3_write_57 : decode cX3_write 57 = .ok (.iconst 2, 1) := by decide +kernel
theorem dX3_write_58 : decode cX3_write 58 = .ok (.isub, 1) := by decide +kernel
theorem dX3_write_59 : decode cX3_write 59 = .ok (.aload_n 2, 1) := by decide +kernel
theorem dX3_write_60 : decode cX3_write 60 = .ok (.getfield 50, 3) := by decide +kernel
theorem dX3_write_63 : decode cX3_write 63 = .ok (.iastore, 1) := by decide +kernel
theorem dX3_write_64 : decode cX3_write 64 = .ok (.aload_n 0, 1) := by decide +kernel
theorem dX3_write_65 : decode cX3_write 65 = .ok (.getfield 11, 3) := by decide +kernel
theorem dX3_write_68 : decode cX3_write 68 = .ok (.iload_n 3, 1) := by decide +kernel
theorem dX3_write_69 : decode cX3_write 69 = .ok (.bipush 18, 2) := by decide +kernel
theorem dX3_write_71 : decode cX3_write 71 = .ok (.iadd, 1) := by decide +kernel
theorem dX3_write_72 : decode cX3_write 72 = .ok (.iconst 1, 1) := by decide +kernel
theorem dX3_write_73 : decode cX3_write 73 = .ok (.isub, 1) := by decide +kernel
theorem dX3_write_74 : decode cX3_write 74 = .ok (.aload_n 2, 1) := by decide +kernel
theorem dX3_write_75 : decode cX3_write 75 = .ok (.getfield 53, 3) := by decide +kernel
theorem dX3_write_78 : decode cX3_write 78 = .ok (.iastore, 1) := by decide +kernel
theorem dX3_write_79 : decode cX3_write 79 = .ok (.return_, 1) := by decide +kernel
theorem dX3_read_0 : decode cX3_read 0 = .ok (.iload_n 1, 1) := by decide +kernel
theorem dX3_read_1 : decode cX3_read 1 = .ok (.ifCond .lt 9, 3) := by decide +kernel
theorem dX3_read_4 : decode cX3_read 4 = .ok (.iload_n 1, 1) := by decide +kernel
theorem dX3_read_5 : decode cX3_read 5 = .ok (.bipush 18, 2) := by decide +kernel
theorem dX3_read_7 : decode cX3_read 7 = .ok (.if_icmp .lt 4, 3) := by decide +kernel
theorem dX3_read_10 : decode cX3_read 10 = .ok (.return_, 1) := by decide +kernel
theorem dX3_read_11 : decode cX3_read 11 = .ok (.iload_n 1, 1) := by decide +kernel
theorem dX3_read_12 : decode cX3_read 12 = .ok (.bipush 18, 2) := by decide +kernel
theorem dX3_read_14 : decode cX3_read 14 = .ok (.imul, 1) := by decide +kernel
theorem dX3_read_15 : decode cX3_read 15 = .ok (.istore_n 3, 1) := by decide +kernel
theorem dX3_read_16 : decode cX3_read 16 = .ok (.aload_n 0, 1) := by decide +kernel
theorem dX3_read_17 : decode cX3_read 17 = .ok (.getfield 11, 3) := by decide +kernel
theorem dX3_read_20 : decode cX3_read 20 = .ok (.iload_n 3, 1) := by decide +kernel
theorem dX3_read_21 : decode cX3_read 21 = .ok (.aload_n 2, 1) := by decide +kernel
theorem dX3_read_22 : decode cX3_read 22 = .ok (.getfield 36, 3) := by decide +kernel
theorem dX3_read_25 : decode cX3_read 25 = .ok (.iconst 0, 1) := by decide +kernel
theorem dX3_read_26 : decode cX3_read 26 = .ok (.bipush 8, 2) := by decide +kernel
theorem dX3_read_28 : decode cX3_read 28 = .ok (.invokestatic 41, 3) := by decide +kernel
theorem dX3_read_31 : decode cX3_read 31 = .ok (.aload_n 0, 1) := by decide +kernel
theorem dX3_read_32 : decode cX3_read 32 = .ok (.getfield 11, 3) := by decide +kernel
theorem dX3_read_35 : decode cX3_read 35 = .ok (.iload_n 3, 1) := by decide +kernel
theorem dX3_read_36 : decode cX3_read 36 = .ok (.bipush 8, 2) := by decide +kernel
theorem dX3_read_38 : decode cX3_read 38 = .ok (.iadd, 1) := by decide +kernel
theorem dX3_read_39 : decode cX3_read 39 = .ok (.aload_n 2, 1) := by decide +kernel
theorem dX3_read_40 : decode cX3_read 40 = .ok (.getfield 47, 3) := by decide +kernel
theorem dX3_read_43 : decode cX3_read 43 = .ok (.iconst 0, 1) := by decide +kernel
theorem dX3_read_44 : decode cX3_read 44 = .ok (.bipush 8, 2) := by decide +kernel
theorem dX3_read_46 : decode cX3_read 46 = .ok (.invokestatic 41, 3) := by decide +kernel
theorem dX3_read_49 : decode cX3_read 49 = .ok (.aload_n 2, 1) := by decide +kernel
theorem dX3_read_50 : decode cX3_read 50 = .ok (.aload_n 0, 1) := by decide +kernel
theorem dX3_read_51 : decode cX3_read 51 = .ok (.getfield 11, 3) := by decide +kernel
theorem dX3_read_54 : decode cX3_read 54 = .ok (.iload_n 3, 1) := by decide +kernel
theorem dX3_read_55 : decode cX3_read 55 = .ok (.bipush 18, 2) := by decide +kernel
theorem dX3_read_57 : decode cX3_read 57 = .ok (.iadd, 1) := by decide +kernel
theorem dX3_read_58 : decode cX3_read 58 = .ok (.iconst 2, 1) := by decide +kernel
theorem dX3_read_59 : decode cX3_read 59 = .ok (.isub, 1) := by decide +kernel
theorem dX3_read_60 : decode cX3_read 60 = .ok (.iaload, 1) := by decide +kernel
theorem dX3_read_61 : decode cX3_read 61 = .ok (.putfield 50, 3) := by decide +kernel
theorem dX3_read_64 : decode cX3_read 64 = .ok (.aload_n 2, 1) := by decide +kernel
theorem dX3_read_65 : decode cX3_read 65 = .ok (.aload_n 0, 1) := by decide +kernel
theorem dX3_read_66 : decode cX3_read 66 = .ok (.getfield 11, 3) := by decide +kernel
theorem dX3_read_69 : decode cX3_read 69 = .ok (.iload_n 3, 1) := by decide +kernel
theorem dX3_read_70 : decode cX3_read 70 = .ok (.bipush 18, 2) := by decide +kernel
theorem dX3_read_72 : decode cX3_read 72 = .ok (.iadd, 1) := by decide +kernel
theorem dX3_read_73 : decode cX3_read 73 = .ok (.iconst 1, 1) := by decide +kernel
theorem dX3_read_74 : decode cX3_read 74 = .ok (.isub, 1) := by decide +kernel
theorem dX3_read_75 : decode cX3_read 75 = .ok (.iaload, 1) := by decide +kernel
theorem dX3_read_76 : decode cX3_read 76 = .ok (.putfield 53, 3) := by decide +kernel
theorem dX3_read_79 : decode cX3_read 79 = .ok (.return_, 1) := by decide +kernel
theorem dX4_init_0 : decode cX4_init 0 = .ok (.aload_n 0, 1) := by decide +kernel
theorem dX4_init_1 : decode cX4_init 1 = .ok (.invokespecial 3, 3) := by decide +kernel
theorem dX4_init_4 : decode cX4_init 4 = .ok (.aload_n 0, 1) := by decide +kernel
theorem dX4_init_5 : decode cX4_init 5 = .ok (.bipush 8, 2) := by decide +kernel
theorem dX4_init_7 : decode cX4_init 7 = .ok (.newarray .int, 2) := by decide +kernel
theorem dX4_init_9 : decode cX4_init 9 = .ok (.putfield 9, 3) := by decide +kernel
theorem dX4_init_12 : decode cX4_init 12 = .ok (.aload_n 0, 1) := by decide +kernel
theorem dX4_init_13 : decode cX4_init 13 = .ok (.bipush 32, 2) := by decide +kernel
theorem dX4_init_15 : decode cX4_init 15 = .ok (.newarray .int, 2) := by decide +kernel
theorem dX4_init_17 : decode cX4_init 17 = .ok (.putfield 15, 3) := by decide +kernel
theorem dX4_init_20 : decode cX4_init 20 = .ok (.aload_n 0, 1) := by decide +kernel
theorem dX4_init_21 : decode cX4_init 21 = .ok (.bipush 8, 2) := by decide +kernel
theorem dX4_init_23 : decode cX4_init 23 = .ok (.newarray .int, 2) := by decide +kernel
theorem dX4_init_25 : decode cX4_init 25 = .ok (.putfield 18, 3) := by decide +kernel
theorem dX4_init_28 : decode cX4_init 28 = .ok (.aload_n 0, 1) := by decide +kernel
theorem dX4_init_29 : decode cX4_init 29 = .ok (.bipush 8, 2) := by decide +kernel
theorem dX4_init_31 : decode cX4_init 31 = .ok (.newarray .int, 2) := by decide +kernel
theorem dX4_init_33 : decode cX4_init 33 = .ok (.putfield 21, 3) := by decide +kernel
theorem dX4_init_36 : decode cX4_init 36 = .ok (.return_, 1) := by decide +kernel
theorem dX4_startAnew_0 : decode cX4_startAnew 0 = .ok (.aload_n 0, 1) := by decide +kernel
theorem dX4_startAnew_1 : decode cX4_startAnew 1 = .ok (.invokevirtual 24, 3) := by decide +kernel
theorem dX4_startAnew_4 : decode cX4_startAnew 4 = .ok (.aload_n 0, 1) := by decide +kernel
theorem dX4_startAnew_5 : decode cX4_startAnew 5 = .ok (.iconst 2, 1) := by decide +kernel
theorem dX4_startAnew_6 : decode cX4_startAnew 6 = .ok (.putfield 27, 3) := by decide +kernel
theorem dX4_startAnew_9 : decode cX4_startAnew 9 = .ok (.aload_n 0, 1) := by decide +kernel
theorem dX4_startAnew_10 : decode cX4_startAnew 10 = .ok (.iconst 1, 1) := by decide +kernel
theorem dX4_startAnew_11 : decode cX4_startAnew 11 = .ok (.iconst 0, 1) := by decide +kernel
theorem dX4_startAnew_12 : decode cX4_startAnew 12 = .ok (.invokevirtual 31, 3) := by decide +kernel
theorem dX4_startAnew_15 : decode cX4_startAnew 15 = .ok (.pop, 1) := by decide +kernel
theorem dX4_startAnew_16 : decode cX4_startAnew 16 = .ok (.aload_n 0, 1) := by decide +kernel
theorem dX4_startAnew_17 : decode cX4_startAnew 17 = .ok (.iconst 0, 1) := by decide +kernel
theorem dX4_startAnew_18 : decode cX4_startAnew 18 = .ok (.aload_n 0, 1) := by decide +kernel
theorem dX4_startAnew_19 : decode cX4_startAnew 19 = .ok (.getfield 21, 3) := by decide +kernel
theorem dX4_startAnew_22 : decode cX4_startAnew 22 = .ok (.invokevirtual 35, 3) := by decide +kernel
theorem dX4_startAnew_25 : decode cX4_startAnew 25 = .ok (.return_, 1) := by decide +kernel
theorem dX4_clear_0 : decode cX4_clear 0 = .ok (.aload_n 0, 1) := by decide +kernel
theorem dX4_clear_1 : decode cX4_clear 1 = .ok (.iconst 0, 1) := by decide +kernel
theorem dX4_clear_2 : decode cX4_clear 2 = .ok (.putfield 39, 3) := by decide +kernel
theorem dX4_clear_5 : decode cX4_clear 5 = .ok (.aload_n 0, 1) := by decide +kernel
theorem dX4_clear_6 : decode cX4_clear 6 = .ok (.iconst 1, 1) := by decide +kernel
theorem dX4_clear_7 : decode cX4_clear 7 = .ok (.putfield 27, 3) := by decide +kernel
theorem dX4_clear_10 : decode cX4_clear 10 = .ok (.iconst 0, 1) := by decide +kernel
theorem dX4_clear_11 : decode cX4_clear 11 = .ok (.istore_n 1, 1) := by decide +kernel
theorem dX4_clear_12 : decode cX4_clear 12 = .ok (.iload_n 1, 1) := by decide +kernel
theorem dX4_clear_13 : decode cX4_clear 13 = .ok (.bipush 8, 2) := by decide +kernel
theorem dX4_clear_15 : decode cX4_clear 15 = .ok (.if_icmp .ge 30, 3) := by decide +kernel
theorem dX4_clear_18 : decode cX4_clear 18 = .ok (.aload_n 0, 1) := by decide +kernel
theorem dX4_clear_19 : decode cX4_clear 19 = .ok (.getfield 9, 3) := by decide +kernel
theorem dX4_clear_22 : decode cX4_clear 22 = .ok (.iload_n 1, 1) := by decide +kernel
theorem dX4_clear_23 : decode cX4_clear 23 = .ok (.iconst 0, 1) := by decide +kernel
theorem dX4_clear_24 : decode cX4_clear 24 = .ok (.iastore, 1) := by decide +kernel
theorem dX4_clear_25 : decode cX4_clear 25 = .ok (.aload_n 0, 1) := by decide +kernel
theorem dX4_clear_26 : decode cX4_clear 26 = .ok (.getfield 18, 3) := by decide +kernel
theorem dX4_clear_29 : decode cX4_clear 29 = .ok (.iload_n 1, 1) := by decide +kernel
theorem dX4_clear_30 : decode cX4_clear 30 = .ok (.iconst 0, 1) := by decide +kernel
theorem dX4_clear_31 : decode cX4_clear 31 = .ok (.iastore, 1) := by decide +kernel
theorem dX4_clear_32 : decode cX4_clear 32 = .ok (.aload_n 0, 1) := by decide +kernel
theorem dX4_clear_33 : decode cX4_clear 33 = .ok (.getfield 21, 3) := by decide +kernel
theorem dX4_clear_36 : decode cX4_clear 36 = .ok (.iload_n 1, 1) := by decide +kernel
theorem dX4_clear_37 : decode cX4_clear 37 = .ok (.iconst (-1), 1) := by decide +kernel
theorem dX4_clear_38 : decode cX4_clear 38 = .ok (.iastore, 1) := by decide +kernel
theorem dX4_clear_39 : decode cX4_clear 39 = .ok (.iinc 1 1, 3) := by decide +kernel
theorem dX4_clear_42 : decode cX4_clear 42 = .ok (.goto (-30), 3) := by decide +kernel
theorem dX4_clear_45 : decode cX4_clear 45 = .ok (.return_, 1) := by decide +kernel
theorem dX4_copyFrom_0 : decode cX4_copyFrom 0 = .ok (.aload_n 0, 1) := by decide +kernel
theorem dX4_copyFrom_1 : decode cX4_copyFrom 1 = .ok (.aload_n 1, 1) := by decide +kernel
theorem dX4_copyFrom_2 : decode cX4_copyFrom 2 = .ok (.getfield 27, 3) := by decide +kernel
theorem dX4_copyFrom_5 : decode cX4_copyFrom 5 = .ok (.putfield 27, 3) := by decide +kernel
theorem dX4_copyFrom_8 : decode cX4_copyFrom 8 = .ok (.aload_n 0, 1) := by decide +kernel
theorem dX4_copyFrom_9 : decode cX4_copyFrom 9 = .ok (.aload_n 1, 1) := by decide +kernel
theorem dX4_copyFrom_10 : decode cX4_copyFrom 10 = .ok (.getfield 39, 3) := by decide +kernel
theorem dX4_copyFrom_13 : decode cX4_copyFrom 13 = .ok (.putfield 39, 3) := by decide +kernel
theorem dX4_copyFrom_16 : decode cX4_copyFrom 16 = .ok (.aload_n 1, 1) := by decide +kernel
theorem dX4_copyFrom_17 : decode cX4_copyFrom 17 = .ok (.getfield 9, 3) := by decide +kernel
theorem dX4_copyFrom_20 : decode cX4_copyFrom 20 = .ok (.iconst 0, 1) := by decide +kernel
theorem dX4_copyFrom_21 : decode cX4_copyFrom 21 = .ok (.aload_n 0, 1) := by decide +kernel
theorem dX4_copyFrom_22 : decode cX4_copyFrom 22 = .ok (.getfield 9, 3) := by decide +kernel
theorem dX4_copyFrom_25 : decode cX4_copyFrom 25 = .ok (.iconst 0, 1) := by decide +kernel
theorem dX4_copyFrom_26 : decode cX4_copyFrom 26 = .ok (.bipush 8, 2) := by decide +kernel
theorem dX4_copyFrom_28 : decode cX4_copyFrom 28 = .ok (.invokestatic 42, 3) := by decide +kernel
theorem dX4_copyFrom_31 : decode cX4_copyFrom 31 = .ok (.aload_n 1, 1) := by decide +kernel
theorem dX4_copyFrom_32 : decode cX4_copyFrom 32 = .ok (.getfield 15, 3) := by decide +kernel
theorem dX4_copyFrom_35 : decode cX4_copyFrom 35 = .ok (.iconst 0, 1) := by decide +kernel
theorem dX4_copyFrom_36 : decode cX4_copyFrom 36 = .ok (.aload_n 0, 1) := by decide +kernel
theorem dX4_copyFrom_37 : decode cX4_copyFrom 37 = .ok (.getfield 15, 3) := by decide +kernel
theorem dX4_copyFrom_40 : decode cX4_copyFrom 40 = .ok (.iconst 0, 1) := by decide +kernel
theorem dX4_copyFrom_41 : decode cX4_copyFrom 41 = .ok (.bipush 32, 2) := by decide +kernel
theorem dX4_copyFrom_43 : decode cX4_copyFrom 43 = .ok (.invokestatic 42, 3) := by decide +kernel
theorem dX4_copyFrom_46 : decode cX4_copyFrom 46 = .ok (.aload_n 1, 1) := by decide +kernel
theorem dX4_copyFrom_47 : decode cX4_copyFrom 47 = .ok (.getfield 18, 3) := by decide +kernel
theorem dX4_copyFrom_50 : decode cX4_copyFrom 50 = .ok (.iconst 0, 1) := by decide +kernel
theorem dX4_copyFrom_51 : decode cX4_copyFrom 51 = .ok (.aload_n 0, 1) := by decide +kernel
theorem dX4_copyFrom_52 : decode cX4_copyFrom 52 = .ok (.getfield 18, 3) := by decide +kernel
theorem dX4_copyFrom_55 : decode cX4_copyFrom 55 = .ok (.iconst 0, 1) := by decide +kernel
theorem dX4_copyFrom_56 : decode cX4_copyFrom 56 = .ok (.bipush 8, 2) := by decide +kernel
theorem dX4_copyFrom_58 : decode cX4_copyFrom 58 = .ok (.invokestatic 42, 3) := by decide +kernel
theorem dX4_copyFrom_61 : decode cX4_copyFrom 61 = .ok (.aload_n 1, 1) := by decide +kernel
theorem dX4_copyFrom_62 : decode cX4_copyFrom 62 = .ok (.getfield 21, 3) := by decide +kernel
theorem dX4_copyFrom_65 : decode cX4_copyFrom 65 = .ok (.iconst 0, 1) := by decide +kernel
theorem dX4_copyFrom_66 : decode cX4_copyFrom 66 = .ok (.aload_n 0, 1) := by decide +kernel
theorem dX4_copyFrom_67 : decode cX4_copyFrom 67 = .ok (.getfield 21, 3) := by decide +kernel
theorem dX4_copyFrom_70 : decode cX4_copyFrom 70 = .ok (.iconst 0, 1) := by decide +kernel
theorem dX4_copyFrom_71 : decode cX4_copyFrom 71 = .ok (.bipush 8, 2) := by decide +kernel
theorem dX4_copyFrom_73 : decode cX4_copyFrom 73 = .ok (.invokestatic 42, 3) := by decide +kernel
theorem dX4_copyFrom_76 : decode cX4_copyFrom 76 = .ok (.return_, 1) := by decide +kernel
theorem dX4_read_0 : decode cX4_read 0 = .ok (.aload_n 0, 1) := by decide +kernel
theorem dX4_read_1 : decode cX4_read 1 = .ok (.invokevirtual 24, 3) := by decide +kernel
theorem dX4_read_4 : decode cX4_read 4 = .ok (.iconst 1, 1) := by decide +kernel
theorem dX4_read_5 : decode cX4_read 5 = .ok (.istore_n 2, 1) := by decide +kernel
theorem dX4_read_6 : decode cX4_read 6 = .ok (.iconst 0, 1) := by decide +kernel
theorem dX4_read_7 : decode cX4_read 7 = .ok (.istore_n 3, 1) := by decide +kernel
theorem dX4_read_8 : decode cX4_read 8 = .ok (.iload_n 3, 1) := by decide +kernel
theorem dX4_read_9 : decode cX4_read 9 = .ok (.aload_n 1, 1) := by decide +kernel
theorem dX4_read_10 : decode cX4_read 10 = .ok (.invokevirtual 48, 3) := by decide +kernel
theorem dX4_read_13 : decode cX4_read 13 = .ok (.if_icmp .ge 75, 3) := by decide +kernel
theorem dX4_read_16 : decode cX4_read 16 = .ok (.aload_n 1, 1) := by decide +kernel
theorem dX4_read_17 : decode cX4_read 17 = .ok (.iload_n 3, 1) := by decide +kernel
theorem dX4_read_18 : decode cX4_read 18 = .ok (.invokevirtual 54, 3) := by decide +kernel
theorem dX4_read_21 : decode cX4_read 21 = .ok (.istore 4, 2) := by decide +kernel
theorem dX4_read_23 : decode cX4_read 23 = .ok (.iload 4, 2) := by decide +kernel
theorem dX4_read_25 : decode cX4_read 25 = .ok (.bipush 59, 2) := by decide +kernel
theorem dX4_read_27 : decode cX4_read 27 = .ok (.if_icmp .ne 24, 3) := by decide +kernel
theorem dX4_read_30 : decode cX4_read 30 = .ok (.iload_n 2, 1) := by decide +kernel
theorem dX4_read_31 : decode cX4_read 31 = .ok (.bipush 8, 2) := by decide +kernel
theorem dX4_read_33 : decode cX4_read 33 = .ok (.if_icmp .ge 18, 3) := by decide +kernel
theorem dX4_read_36 : decode cX4_read 36 = .ok (.aload_n 0, 1) := by decide +kernel
theorem dX4_read_37 : decode cX4_read 37 = .ok (.getfield 9, 3) := by decide +kernel
theorem dX4_read_40 : decode cX4_read 40 = .ok (.iload_n 2, 1) := by decide +kernel
theorem dX4_read_41 : decode cX4_read 41 = .ok (.iaload, 1) := by decide +kernel
theorem dX4_read_42 : decode cX4_read 42 = .ok (.ifCond .le 9, 3) := by decide +kernel
theorem dX4_read_45 : decode cX4_read 45 = .ok (.iinc 2 1, 3) := by decide +kernel
theorem dX4_read_48 : decode cX4_read 48 = .ok (.goto 34, 3) := by decide +kernel
theorem dX4_read_51 : decode cX4_read 51 = .ok (.iload 4, 2) := by decide +kernel
theorem dX4_read_53 : decode cX4_read 53 = .ok (.bipush 48, 2) := by decide +kernel
theorem dX4_read_55 : decode cX4_read 55 = .ok (.if_icmp .lt 23, 3) := by decide +kernel
theorem dX4_read_58 : decode cX4_read 58 = .ok (.iload 4, 2) := by decide +kernel
theorem dX4_read_60 : decode cX4_read 60 = .ok (.bipush 55, 2) := by decide +kernel
theorem dX4_read_62 : decode cX4_read 62 = .ok (.if_icmp .gt 16, 3) := by decide +kernel
theorem dX4_read_65 : decode cX4_read 65 = .ok (.aload_n 0, 1) := by decide +kernel
theorem dX4_read_66 : decode cX4_read 66 = .ok (.iload_n 2, 1) := by decide +kernel
theorem dX4_read_67 : decode cX4_read 67 = .ok (.iload 4, 2) := by decide +kernel
theorem dX4_read_69 : decode cX4_read 69 = .ok (.bipush 48, 2) := by decide +kernel
theorem dX4_read_71 : decode cX4_read 71 = .ok (.isub, 1) := by decide +kernel
theorem dX4_read_72 : decode cX4_read 72 = .ok (.invokevirtual 31, 3) := by decide +kernel
theorem dX4_read_75 : decode cX4_read 75 = .ok (.ifCond .ne 7, 3) := by decide +kernel
theorem dX4_read_78 : decode cX4_read 78 = .ok (.iconst (-1), 1) := by decide +kernel
theorem dX4_read_79 : decode cX4_read 79 = .ok (.iload_n 3, 1) := by decide +kernel
theorem dX4_read_80 : decode cX4_read 80 = .ok (.isub, 1) := by decide +kernel
theorem dX4_read_81 : decode cX4_read 81 = .ok (.ireturn, 1) := by decide +kernel
theorem dX4_read_82 : decode cX4_read 82 = .ok (.iinc 3 1, 3) := by decide +kernel
theorem dX4_read_85 : decode cX4_read 85 = .ok (.goto (-77), 3) := by decide +kernel
theorem dX4_read_88 : decode cX4_read 88 = .ok (.iload_n 2, 1) := by decide +kernel
theorem dX4_read_89 : decode cX4_read 89 = .ok (.bipush 8, 2) := by decide +kernel
theorem dX4_read_91 : decode cX4_read 91 = .ok (.if_icmp .ge 12, 3) := by decide +kernel
theorem dX4_read_94 : decode cX4_read 94 = .ok (.aload_n 0, 1) := by decide +kernel
theorem dX4_read_95 : decode cX4_read 95 = .ok (.getfield 9, 3) := by decide +kernel
theorem dX4_read_98 : decode cX4_read 98 = .ok (.iload_n 2, 1) := by decide +kernel
theorem dX4_read_99 : decode cX4_read 99 = .ok (.iaload, 1) := by decide +kernel
theorem dX4_read_100 : decode cX4_read 100 = .ok (.ifCond .ne 10, 3) := by decide +kernel
theorem dX4_read_103 : decode cX4_read 103 = .ok (.iconst (-1), 1) := by decide +kernel
theorem dX4_read_104 : decode cX4_read 104 = .ok (.aload_n 1, 1) := by decide +kernel
theorem dX4_read_105 : decode cX4_read 105 = .ok (.invokevirtual 48, 3) := by decide +kernel
theorem dX4_read_108 : decode cX4_read 108 = .ok (.isub, 1) := by decide +kernel
theorem dX4_read_109 : decode cX4_read 109 = .ok (.ireturn, 1) := by decide +kernel
theorem dX4_read_110 : decode cX4_read 110 = .ok (.aload_n 0, 1) := by decide +kernel
theorem dX4_read_111 : decode cX4_read 111 = .ok (.iload_n 2, 1) := by decide +kernel
theorem dX4_read_112 : decode cX4_read 112 = .ok (.iconst 1, 1) := by decide +kernel
theorem dX4_read_113 : decode cX4_read 113 = .ok (.iadd, 1) := by decide +kernel
theorem dX4_read_114 : decode cX4_read 114 = .ok (.putfield 27, 3) := by decide +kernel
theorem dX4_read_117 : decode cX4_read 117 = .ok (.aload_n 0, 1) := by decide +kernel
theorem dX4_read_118 : decode cX4_read 118 = .ok (.invokevirtual 58, 3) := by decide +kernel
theorem dX4_read_121 : decode cX4_read 121 = .ok (.ireturn, 1) := by decide +kernel
theorem dX4_addWay_0 : decode cX4_addWay 0 = .ok (.iload_n 1, 1) := by decide +kernel
theorem dX4_addWay_1 : decode cX4_addWay 1 = .ok (.iconst 1, 1) := by decide +kernel
theorem dX4_addWay_2 : decode cX4_addWay 2 = .ok (.if_icmp .lt 24, 3) := by decide +kernel
theorem dX4_addWay_5 : decode cX4_addWay 5 = .ok (.iload_n 1, 1) := by decide +kernel
theorem dX4_addWay_6 : decode cX4_addWay 6 = .ok (.bipush 8, 2) := by decide +kernel
theorem dX4_addWay_8 : decode cX4_addWay 8 = .ok (.if_icmp .ge 18, 3) := by decide +kernel
theorem dX4_addWay_11 : decode cX4_addWay 11 = .ok (.iload_n 1, 1) := by decide +kernel
theorem dX4_addWay_12 : decode cX4_addWay 12 = .ok (.iload_n 2, 1) := by decide +kernel
theorem dX4_addWay_13 : decode cX4_addWay 13 = .ok (.if_icmp .eq 13, 3) := by decide +kernel
theorem dX4_addWay_16 : decode cX4_addWay 16 = .ok (.aload_n 0, 1) := by decide +kernel
theorem dX4_addWay_17 : decode cX4_addWay 17 = .ok (.getfield 9, 3) := by decide +kernel
theorem dX4_addWay_20 : decode cX4_addWay 20 = .ok (.iload_n 1, 1) := by decide +kernel
theorem dX4_addWay_21 : decode cX4_addWay 21 = .ok (.iaload, 1) := by decide +kernel
theorem dX4_addWay_22 : decode cX4_addWay 22 = .ok (.iconst 4, 1) := by decide +kernel
theorem dX4_addWay_23 : decode cX4_addWay 23 = .ok (.if_icmp .lt 5, 3) := by decide +kernel
theorem dX4_addWay_26 : decode cX4_addWay 26 = .ok (.iconst 0, 1) := by decide +kernel
theorem dX4_addWay_27 : decode cX4_addWay 27 = .ok (.ireturn, 1) := by decide +kernel
theorem dX4_addWay_28 : decode cX4_addWay 28 = .ok (.aload_n 0, 1) := by decide +kernel
theorem dX4_addWay_29 : decode cX4_addWay 29 = .ok (.getfield 15, 3) := by decide +kernel
theorem dX4_addWay_32 : decode cX4_addWay 32 = .ok (.iload_n 1, 1) := by decide +kernel
theorem dX4_addWay_33 : decode cX4_addWay 33 = .ok (.iconst 4, 1) := by decide +kernel
theorem dX4_addWay_34 : decode cX4_addWay 34 = .ok (.imul, 1) := by decide +kernel
theorem dX4_addWay_35 : decode cX4_addWay 35 = .ok (.aload_n 0, 1) := by decide +kernel
theorem dX4_addWay_36 : decode cX4_addWay 36 = .ok (.getfield 9, 3) := by decide +kernel
theorem dX4_addWay_39 : decode cX4_addWay 39 = .ok (.iload_n 1, 1) := by decide +kernel
theorem dX4_addWay_40 : decode cX4_addWay 40 = .ok (.iaload, 1) := by decide +kernel
theorem dX4_addWay_41 : decode cX4_addWay 41 = .ok (.iadd, 1) := by decide +kernel
theorem dX4_addWay_42 : decode cX4_addWay 42 = .ok (.iload_n 2, 1) := by decide +kernel
theorem dX4_addWay_43 : decode cX4_addWay 43 = .ok (.iastore, 1) := by decide +kernel
theorem dX4_addWay_44 : decode cX4_addWay 44 = .ok (.aload_n 0, 1) := by decide +kernel
theorem dX4_addWay_45 : decode cX4_addWay 45 = .ok (.getfield 9, 3) := by decide +kernel
theorem dX4_addWay_48 : decode cX4_addWay 48 = .ok (.iload_n 1, 1) := by decide +kernel
theorem dX4_addWay_49 : decode cX4_addWay 49 = .ok (.dup2, 1) := by decide +kernel
theorem dX4_addWay_50 : decode cX4_addWay 50 = .ok (.iaload, 1) := by decide +kernel
theorem dX4_addWay_51 : decode cX4_addWay 51 = .ok (.iconst 1, 1) := by decide +kernel
theorem dX4_addWay_52 : decode cX4_addWay 52 = .ok (.iadd, 1) := by decide +kernel
theorem dX4_addWay_53 : decode cX4_addWay 53 = .ok (.iastore, 1) := by decide +kernel
theorem dX4_addWay_54 : decode cX4_addWay 54 = .ok (.aload_n 0, 1) := by decide +kernel
theorem dX4_addWay_55 : decode cX4_addWay 55 = .ok (.getfield 18, 3) := by decide +kernel
theorem dX4_addWay_58 : decode cX4_addWay 58 = .ok (.iload_n 1, 1) := by decide +kernel
theorem dX4_addWay_59 : decode cX4_addWay 59 = .ok (.dup2, 1) := by decide +kernel
theorem dX4_addWay_60 : decode cX4_addWay 60 = .ok (.iaload, 1) := by decide +kernel
theorem dX4_addWay_61 : decode cX4_addWay 61 = .ok (.iconst 1, 1) := by decide +kernel
theorem dX4_addWay_62 : decode cX4_addWay 62 = .ok (.iload_n 2, 1) := by decide +kernel
theorem dX4_addWay_63 : decode cX4_addWay 63 = .ok (.ishl, 1) := by decide +kernel
theorem dX4_addWay_64 : decode cX4_addWay 64 = .ok (.ior, 1) := by decide +kernel
theorem dX4_addWay_65 : decode cX4_addWay 65 = .ok (.iastore, 1) := by decide +kernel
theorem dX4_addWay_66 : decode cX4_addWay 66 = .ok (.aload_n 0, 1) := by decide +kernel
theorem dX4_addWay_67 : decode cX4_addWay 67 = .ok (.dup, 1) := by decide +kernel
theorem dX4_addWay_68 : decode cX4_addWay 68 = .ok (.getfield 39, 3) := by decide +kernel
theorem dX4_addWay_71 : decode cX4_addWay 71 = .ok (.iconst 1, 1) := by decide +kernel
theorem dX4_addWay_72 : decode cX4_addWay 72 = .ok (.iadd, 1) := by decide +kernel
theorem dX4_addWay_73 : decode cX4_addWay 73 = .ok (.putfield 39, 3) := by decide +kernel
theorem dX4_addWay_76 : decode cX4_addWay 76 = .ok (.iconst 1, 1) := by decide +kernel
theorem dX4_addWay_77 : decode cX4_addWay 77 = .ok (.ireturn, 1) := by decide +kernel
theorem dX4_check_0 : decode cX4_check 0 = .ok (.iconst 1, 1) := by decide +kernel
theorem dX4_check_1 : decode cX4_check 1 = .ok (.istore_n 1, 1) := by decide +kernel
theorem dX4_check_2 : decode cX4_check 2 = .ok (.iload_n 1, 1) := by decide +kernel
theorem dX4_check_3 : decode cX4_check 3 = .ok (.aload_n 0, 1) := by decide +kernel
theorem dX4_check_4 : decode cX4_check 4 = .ok (.getfield 27, 3) := by decide +kernel
theorem dX4_check_7 : decode cX4_check 7 = .ok (.if_icmp .ge 26, 3) := by decide +kernel
theorem dX4_check_10 : decode cX4_check 10 = .ok (.aload_n 0, 1) := by decide +kernel
theorem dX4_check_11 : decode cX4_check 11 = .ok (.getfield 18, 3) := by decide +kernel
theorem dX4_check_14 : decode cX4_check 14 = .ok (.iload_n 1, 1) := by decide +kernel
theorem dX4_check_15 : decode cX4_check 15 = .ok (.iaload, 1) := by decide +kernel
theorem dX4_check_16 : decode cX4_check 16 = .ok (.aload_n 0, 1) := by decide +kernel
theorem dX4_check_17 : decode cX4_check 17 = .ok (.getfield 27, 3) := by decide +kernel
theorem dX4_check_20 : decode cX4_check 20 = .ok (.ishr, 1) := by decide +kernel
theorem dX4_check_21 : decode cX4_check 21 = .ok (.ifCond .eq 6, 3) := by decide +kernel
theorem dX4_check_24 : decode cX4_check 24 = .ok (.bipush (-100), 2) := by decide +kernel
theorem dX4_check_26 : decode cX4_check 26 = .ok (.ireturn, 1) := by decide +kernel
theorem dX4_check_27 : decode cX4_check 27 = .ok (.iinc 1 1, 3) := by decide +kernel
theorem dX4_check_30 : decode cX4_check 30 = .ok (.goto (-28), 3) := by decide +kernel
theorem dX4_check_33 : decode cX4_check 33 = .ok (.aload_n 0, 1) := by decide +kernel
theorem dX4_check_34 : decode cX4_check 34 = .ok (.iconst 0, 1) := by decide +kernel
theorem dX4_check_35 : decode cX4_check 35 = .ok (.aload_n 0, 1) := by decide +kernel
theorem dX4_check_36 : decode cX4_check 36 = .ok (.getfield 21, 3) := by decide +kernel
theorem dX4_check_39 : decode cX4_check 39 = .ok (.invokevirtual 35, 3) := by decide +kernel
theorem dX4_check_42 : decode cX4_check 42 = .ok (.iconst 1, 1) := by decide +kernel
theorem dX4_check_43 : decode cX4_check 43 = .ok (.istore_n 1, 1) := by decide +kernel
theorem dX4_check_44 : decode cX4_check 44 = .ok (.iload_n 1, 1) := by decide +kernel
theorem dX4_check_45 : decode cX4_check 45 = .ok (.aload_n 0, 1) := by decide +kernel
theorem dX4_check_46 : decode cX4_check 46 = .ok (.getfield 27, 3) := by decide +kernel
theorem dX4_check_49 : decode cX4_check 49 = .ok (.if_icmp .ge 21, 3) := by decide +kernel
theorem dX4_check_52 : decode cX4_check 52 = .ok (.aload_n 0, 1) := by decide +kernel
theorem dX4_check_53 : decode cX4_check 53 = .ok (.getfield 21, 3) := by decide +kernel
theorem dX4_check_56 : decode cX4_check 56 = .ok (.iload_n 1, 1) := by decide +kernel
theorem dX4_check_57 : decode cX4_check 57 = .ok (.iaload, 1) := by decide +kernel
theorem dX4_check_58 : decode cX4_check 58 = .ok (.ifCond .ge 6, 3) := by decide +kernel
theorem dX4_check_61 : decode cX4_check 61 = .ok (.bipush (-101), 2) := by decide +kernel
theorem dX4_check_63 : decode cX4_check 63 = .ok (.ireturn, 1) := by decide +kernel
theorem dX4_check_64 : decode cX4_check 64 = .ok (.iinc 1 1, 3) := by decide +kernel
theorem dX4_check_67 : decode cX4_check 67 = .ok (.goto (-23), 3) := by decide +kernel
theorem dX4_check_70 : decode cX4_check 70 = .ok (.aload_n 0, 1) := by decide +kernel
theorem dX4_check_71 : decode cX4_check 71 = .ok (.getfield 27, 3) := by decide +kernel
theorem dX4_check_74 : decode cX4_check 74 = .ok (.ireturn, 1) := by decide +kernel
theorem dX4_measure_0 : decode cX4_measure 0 = .ok (.iconst 0, 1) := by decide +kernel
theorem dX4_measure_1 : decode cX4_measure 1 = .ok (.istore_n 3, 1) := by decide +kernel
theorem dX4_measure_2 : decode cX4_measure 2 = .ok (.iload_n 3, 1) := by decide +kernel
theorem dX4_measure_3 : decode cX4_measure 3 = .ok (.bipush 8, 2) := by decide +kernel
theorem dX4_measure_5 : decode cX4_measure 5 = .ok (.if_icmp .ge 28, 3) := by decide +kernel
theorem dX4_measure_8 : decode cX4_measure 8 = .ok (.iload_n 3, 1) := by decide +kernel
theorem dX4_measure_9 : decode cX4_measure 9 = .ok (.aload_n 2, 1) := by decide +kernel
theorem dX4_measure_10 : decode cX4_measure 10 = .ok (.arraylength, 1) := by decide +kernel
theorem dX4_measure_11 : decode cX4_measure 11 = .ok (.if_icmp .ge 22, 3) := by decide +kernel
theorem dX4_measure_14 : decode cX4_measure 14 = .ok (.aload_n 2, 1) := by decide +kernel
theorem dX4_measure_15 : decode cX4_measure 15 = .ok (.iload_n 3, 1) := by decide +kernel
theorem dX4_measure_16 : decode cX4_measure 16 = .ok (.iload_n 3, 1) := by decide +kernel
theorem dX4_measure_17 : decode cX4_measure 17 = .ok (.iload_n 1, 1) := by decide +kernel
theorem dX4_measure_18 : decode cX4_measure 18 = .ok (.if_icmp .ne 7, 3) := by decide +kernel
theorem dX4_measure_21 : decode cX4_measure 21 = .ok (.iconst 0, 1) := by decide +kernel
theorem dX4_measure_22 : decode cX4_measure 22 = .ok (.goto 4, 3) := by decide +kernel
theorem dX4_measure_25 : decode cX4_measure 25 = .ok (.iconst (-1), 1) := by decide +kernel
theorem dX4_measure_26 : decode cX4_measure 26 = .ok (.iastore, 1) := by decide +kernel
theorem dX4_measure_27 : decode cX4_measure 27 = .ok (.iinc 3 1, 3) := by decide +kernel
theorem dX4_measure_30 : decode cX4_measure 30 = .ok (.goto (-28), 3) := by decide +kernel
theorem dX4_measure_33 : decode cX4_measure 33 = .ok (.iconst 1, 1) := by decide +kernel
theorem dX4_measure_34 : decode cX4_measure 34 = .ok (.iload_n 1, 1) := by decide +kernel
theorem dX4_measure_35 : decode cX4_measure 35 = .ok (.ishl, 1) := by decide +kernel
theorem dX4_measure_36 : decode cX4_measure 36 = .ok (.istore_n 3, 1) := by decide +kernel
theorem dX4_measure_37 : decode cX4_measure 37 = .ok (.iconst 1, 1) := by decide +kernel
theorem dX4_measure_38 : decode cX4_measure 38 = .ok (.istore 4, 2) := by decide +kernel
theorem dX4_measure_40 : decode cX4_measure 40 = .ok (.iload 4, 2) := by decide +kernel
theorem dX4_measure_42 : decode cX4_measure 42 = .ok (.aload_n 0, 1) := by decide +kernel
theorem dX4_measure_43 : decode cX4_measure 43 = .ok (.getfield 27, 3) := by decide +kernel
theorem dX4_measure_46 : decode cX4_measure 46 = .ok (.if_icmp .ge 74, 3) := by decide +kernel
theorem dX4_measure_49 : decode cX4_measure 49 = .ok (.iload_n 3, 1) := by decide +kernel
theorem dX4_measure_50 : decode cX4_measure 50 = .ok (.istore 5, 2) := by decide +kernel
theorem dX4_measure_52 : decode cX4_measure 52 = .ok (.iconst 1, 1) := by decide +kernel
theorem dX4_measure_53 : decode cX4_measure 53 = .ok (.istore 6, 2) := by decide +kernel
theorem dX4_measure_55 : decode cX4_measure 55 = .ok (.iload 6, 2) := by decide +kernel
theorem dX4_measure_57 : decode cX4_measure 57 = .ok (.aload_n 0, 1) := by decide +kernel
theorem dX4_measure_58 : decode cX4_measure 58 = .ok (.getfield 27, 3) := by decide +kernel
theorem dX4_measure_61 : decode cX4_measure 61 = .ok (.if_icmp .ge 50, 3) := by decide +kernel
theorem dX4_measure_64 : decode cX4_measure 64 = .ok (.iload 6, 2) := by decide +kernel
theorem dX4_measure_66 : decode cX4_measure 66 = .ok (.aload_n 2, 1) := by decide +kernel
theorem dX4_measure_67 : decode cX4_measure 67 = .ok (.arraylength, 1) := by decide +kernel
theorem dX4_measure_68 : decode cX4_measure 68 = .ok (.if_icmp .ge 43, 3) := by decide +kernel
theorem dX4_measure_71 : decode cX4_measure 71 = .ok (.aload_n 2, 1) := by decide +kernel
theorem dX4_measure_72 : decode cX4_measure 72 = .ok (.iload 6, 2) := by decide +kernel
theorem dX4_measure_74 : decode cX4_measure 74 = .ok (.iaload, 1) := by decide +kernel
theorem dX4_measure_75 : decode cX4_measure 75 = .ok (.ifCond .ge 30, 3) := by decide +kernel
theorem dX4_measure_78 : decode cX4_measure 78 = .ok (.aload_n 0, 1) := by decide +kernel
theorem dX4_measure_79 : decode cX4_measure 79 = .ok (.getfield 18, 3) := by decide +kernel
theorem dX4_measure_82 : decode cX4_measure 82 = .ok (.iload 6, 2) := by decide +kernel
theorem dX4_measure_84 : decode cX4_measure 84 = .ok (.iaload, 1) := by decide +kernel
theorem dX4_measure_85 : decode cX4_measure 85 = .ok (.iload_n 3, 1) := by decide +kernel
theorem dX4_measure_86 : decode cX4_measure 86 = .ok (.iand, 1) := by decide +kernel
theorem dX4_measure_87 : decode cX4_measure 87 = .ok (.ifCond .eq 18, 3) := by decide +kernel
theorem dX4_measure_90 : decode cX4_measure 90 = .ok (.aload_n 2, 1) := by decide +kernel
theorem dX4_measure_91 : decode cX4_measure 91 = .ok (.iload 6, 2) := by decide +kernel
theorem dX4_measure_93 : decode cX4_measure 93 = .ok (.iload 4, 2) := by decide +kernel
theorem dX4_measure_95 : decode cX4_measure 95 = .ok (.iastore, 1) := by decide +kernel
theorem dX4_measure_96 : decode cX4_measure 96 = .ok (.iload 5, 2) := by decide +kernel
theorem dX4_measure_98 : decode cX4_measure 98 = .ok (.iconst 1, 1) := by decide +kernel
theorem dX4_measure_99 : decode cX4_measure 99 = .ok (.iload 6, 2) := by decide +kernel
theorem dX4_measure_101 : decode cX4_measure 101 = .ok (.ishl, 1) := by decide +kernel
theorem dX4_measure_102 : decode cX4_measure 102 = .ok (.ior, 1) := by decide +kernel
theorem dX4_measure_103 : decode cX4_measure 103 = .ok (.istore 5, 2) := by decide +kernel
theorem dX4_measure_105 : decode cX4_measure 105 = .ok (.iinc 6 1, 3) := by decide +kernel
theorem dX4_measure_108 : decode cX4_measure 108 = .ok (.goto (-53), 3) := by decide +kernel
theorem dX4_measure_111 : decode cX4_measure 111 = .ok (.iload 5, 2) := by decide +kernel
theorem dX4_measure_113 : decode cX4_measure 113 = .ok (.istore_n 3, 1) := by decide +kernel
theorem dX4_measure_114 : decode cX4_measure 114 = .ok (.iinc 4 1, 3) := by decide +kernel
theorem dX4_measure_117 : decode cX4_measure 117 = .ok (.goto (-77), 3) := by decide +kernel
theorem dX4_measure_120 : decode cX4_measure 120 = .ok (.return_, 1) := by decide +kernel
theorem dX4_crossings_0 : decode cX4_crossings 0 = .ok (.aload_n 0, 1) := by decide +kernel
theorem dX4_crossings_1 : decode cX4_crossings 1 = .ok (.getfield 27, 3) := by decide +kernel
theorem dX4_crossings_4 : decode cX4_crossings 4 = .ok (.ireturn, 1) := by decide +kernel
theorem dX4_waysInAll_0 : decode cX4_waysInAll 0 = .ok (.aload_n 0, 1) := by decide +kernel
theorem dX4_waysInAll_1 : decode cX4_waysInAll 1 = .ok (.getfield 39, 3) := by decide +kernel
theorem dX4_waysInAll_4 : decode cX4_waysInAll 4 = .ok (.ireturn, 1) := by decide +kernel
theorem dX4_has_0 : decode cX4_has 0 = .ok (.iload_n 1, 1) := by decide +kernel
theorem dX4_has_1 : decode cX4_has 1 = .ok (.ifCond .lt 15, 3) := by decide +kernel
theorem dX4_has_4 : decode cX4_has 4 = .ok (.iload_n 1, 1) := by decide +kernel
theorem dX4_has_5 : decode cX4_has 5 = .ok (.aload_n 0, 1) := by decide +kernel
theorem dX4_has_6 : decode cX4_has 6 = .ok (.getfield 27, 3) := by decide +kernel
theorem dX4_has_9 : decode cX4_has 9 = .ok (.if_icmp .ge 7, 3) := by decide +kernel
theorem dX4_has_12 : decode cX4_has 12 = .ok (.iconst 1, 1) := by decide +kernel
theorem dX4_has_13 : decode cX4_has 13 = .ok (.goto 4, 3) := by decide +kernel
theorem dX4_has_16 : decode cX4_has 16 = .ok (.iconst 0, 1) := by decide +kernel
theorem dX4_has_17 : decode cX4_has 17 = .ok (.ireturn, 1) := by decide +kernel
theorem dX4_hasPost_0 : decode cX4_hasPost 0 = .ok (.iload_n 1, 1) := by decide +kernel
theorem dX4_hasPost_1 : decode cX4_hasPost 1 = .ok (.iconst 1, 1) := by decide +kernel
theorem dX4_hasPost_2 : decode cX4_hasPost 2 = .ok (.if_icmp .lt 15, 3) := by decide +kernel
theorem dX4_hasPost_5 : decode cX4_hasPost 5 = .ok (.iload_n 1, 1) := by decide +kernel
theorem dX4_hasPost_6 : decode cX4_hasPost 6 = .ok (.aload_n 0, 1) := by decide +kernel
theorem dX4_hasPost_7 : decode cX4_hasPost 7 = .ok (.getfield 27, 3) := by decide +kernel
theorem dX4_hasPost_10 : decode cX4_hasPost 10 = .ok (.if_icmp .ge 7, 3) := by decide +kernel
theorem dX4_hasPost_13 : decode cX4_hasPost 13 = .ok (.iconst 1, 1) := by decide +kernel
theorem dX4_hasPost_14 : decode cX4_hasPost 14 = .ok (.goto 4, 3) := by decide +kernel
theorem dX4_hasPost_17 : decode cX4_hasPost 17 = .ok (.iconst 0, 1) := by decide +kernel
theorem dX4_hasPost_18 : decode cX4_hasPost 18 = .ok (.ireturn, 1) := by decide +kernel
theorem dX4_hasWay_0 : decode cX4_hasWay 0 = .ok (.iload_n 1, 1) := by decide +kernel
theorem dX4_hasWay_1 : decode cX4_hasWay 1 = .ok (.iconst 1, 1) := by decide +kernel
theorem dX4_hasWay_2 : decode cX4_hasWay 2 = .ok (.if_icmp .lt 29, 3) := by decide +kernel
theorem dX4_hasWay_5 : decode cX4_hasWay 5 = .ok (.iload_n 1, 1) := by decide +kernel
theorem dX4_hasWay_6 : decode cX4_hasWay 6 = .ok (.aload_n 0, 1) := by decide +kernel
theorem dX4_hasWay_7 : decode cX4_hasWay 7 = .ok (.getfield 27, 3) := by decide +kernel
theorem dX4_hasWay_10 : decode cX4_hasWay 10 = .ok (.if_icmp .ge 21, 3) := by decide +kernel
theorem dX4_hasWay_13 : decode cX4_hasWay 13 = .ok (.iload_n 2, 1) := by decide +kernel
theorem dX4_hasWay_14 : decode cX4_hasWay 14 = .ok (.ifCond .lt 17, 3) := by decide +kernel
theorem dX4_hasWay_17 : decode cX4_hasWay 17 = .ok (.iload_n 2, 1) := by decide +kernel
theorem dX4_hasWay_18 : decode cX4_hasWay 18 = .ok (.aload_n 0, 1) := by decide +kernel
theorem dX4_hasWay_19 : decode cX4_hasWay 19 = .ok (.getfield 9, 3) := by decide +kernel
theorem dX4_hasWay_22 : decode cX4_hasWay 22 = .ok (.iload_n 1, 1) := by decide +kernel
theorem dX4_hasWay_23 : decode cX4_hasWay 23 = .ok (.iaload, 1) := by decide +kernel
theorem dX4_hasWay_24 : decode cX4_hasWay 24 = .ok (.if_icmp .ge 7, 3) := by decide +kernel
theorem dX4_hasWay_27 : decode cX4_hasWay 27 = .ok (.iconst 1, 1) := by decide +kernel
theorem dX4_hasWay_28 : decode cX4_hasWay 28 = .ok (.goto 4, 3) := by decide +kernel
theorem dX4_hasWay_31 : decode cX4_hasWay 31 = .ok (.iconst 0, 1) := by decide +kernel
theorem dX4_hasWay_32 : decode cX4_hasWay 32 = .ok (.ireturn, 1) := by decide +kernel
theorem dX4_degree_0 : decode cX4_degree 0 = .ok (.aload_n 0, 1) := by decide +kernel
theorem dX4_degree_1 : decode cX4_degree 1 = .ok (.iload_n 1, 1) := by decide +kernel
theorem dX4_degree_2 : decode cX4_degree 2 = .ok (.invokevirtual 61, 3) := by decide +kernel
theorem dX4_degree_5 : decode cX4_degree 5 = .ok (.ifCond .eq 12, 3) := by decide +kernel
theorem dX4_degree_8 : decode cX4_degree 8 = .ok (.aload_n 0, 1) := by decide +kernel
theorem dX4_degree_9 : decode cX4_degree 9 = .ok (.getfield 9, 3) := by decide +kernel
theorem dX4_degree_12 : decode cX4_degree 12 = .ok (.iload_n 1, 1) := by decide +kernel
theorem dX4_degree_13 : decode cX4_degree 13 = .ok (.iaload, 1) := by decide +kernel
theorem dX4_degree_14 : decode cX4_degree 14 = .ok (.goto 4, 3) := by decide +kernel
theorem dX4_degree_17 : decode cX4_degree 17 = .ok (.iconst 0, 1) := by decide +kernel
theorem dX4_degree_18 : decode cX4_degree 18 = .ok (.ireturn, 1) := by decide +kernel
theorem dX4_goal_0 : decode cX4_goal 0 = .ok (.aload_n 0, 1) := by decide +kernel
theorem dX4_goal_1 : decode cX4_goal 1 = .ok (.iload_n 1, 1) := by decide +kernel
theorem dX4_goal_2 : decode cX4_goal 2 = .ok (.iload_n 2, 1) := by decide +kernel
theorem dX4_goal_3 : decode cX4_goal 3 = .ok (.invokevirtual 65, 3) := by decide +kernel
theorem dX4_goal_6 : decode cX4_goal 6 = .ok (.ifCond .eq 16, 3) := by decide +kernel
theorem dX4_goal_9 : decode cX4_goal 9 = .ok (.aload_n 0, 1) := by decide +kernel
theorem dX4_goal_10 : decode cX4_goal 10 = .ok (.getfield 15, 3) := by decide +kernel
theorem dX4_goal_13 : decode cX4_goal 13 = .ok (.iload_n 1, 1) := by decide +kernel
theorem dX4_goal_14 : decode cX4_goal 14 = .ok (.iconst 4, 1) := by decide +kernel
theorem dX4_goal_15 : decode cX4_goal 15 = .ok (.imul, 1) := by decide +kernel
theorem dX4_goal_16 : decode cX4_goal 16 = .ok (.iload_n 2, 1) := by decide +kernel
theorem dX4_goal_17 : decode cX4_goal 17 = .ok (.iadd, 1) := by decide +kernel
theorem dX4_goal_18 : decode cX4_goal 18 = .ok (.iaload, 1) := by decide +kernel
theorem dX4_goal_19 : decode cX4_goal 19 = .ok (.goto 4, 3) := by decide +kernel
theorem dX4_goal_22 : decode cX4_goal 22 = .ok (.iconst 0, 1) := by decide +kernel
theorem dX4_goal_23 : decode cX4_goal 23 = .ok (.ireturn, 1) := by decide +kernel
theorem dX4_far_0 : decode cX4_far 0 = .ok (.aload_n 0, 1) := by decide +kernel
theorem dX4_far_1 : decode cX4_far 1 = .ok (.iload_n 1, 1) := by decide +kernel
theorem dX4_far_2 : decode cX4_far 2 = .ok (.invokevirtual 68, 3) := by decide +kernel
theorem dX4_far_5 : decode cX4_far 5 = .ok (.ifCond .eq 12, 3) := by decide +kernel
theorem dX4_far_8 : decode cX4_far 8 = .ok (.aload_n 0, 1) := by decide +kernel
theorem dX4_far_9 : decode cX4_far 9 = .ok (.getfield 21, 3) := by decide +kernel
theorem dX4_far_12 : decode cX4_far 12 = .ok (.iload_n 1, 1) := by decide +kernel
theorem dX4_far_13 : decode cX4_far 13 = .ok (.iaload, 1) := by decide +kernel
theorem dX4_far_14 : decode cX4_far 14 = .ok (.goto 4, 3) := by decide +kernel
theorem dX4_far_17 : decode cX4_far 17 = .ok (.iconst (-1), 1) := by decide +kernel
theorem dX4_far_18 : decode cX4_far 18 = .ok (.ireturn, 1) := by decide +kernel
theorem dX4_waysTo_0 : decode cX4_waysTo 0 = .ok (.iconst 0, 1) := by decide +kernel
theorem dX4_waysTo_1 : decode cX4_waysTo 1 = .ok (.istore_n 3, 1) := by decide +kernel
theorem dX4_waysTo_2 : decode cX4_waysTo 2 = .ok (.iconst 0, 1) := by decide +kernel
theorem dX4_waysTo_3 : decode cX4_waysTo 3 = .ok (.istore 4, 2) := by decide +kernel
theorem dX4_waysTo_5 : decode cX4_waysTo 5 = .ok (.iload 4, 2) := by decide +kernel
theorem dX4_waysTo_7 : decode cX4_waysTo 7 = .ok (.aload_n 0, 1) := by decide +kernel
theorem dX4_waysTo_8 : decode cX4_waysTo 8 = .ok (.iload_n 1, 1) := by decide +kernel
theorem dX4_waysTo_9 : decode cX4_waysTo 9 = .ok (.invokevirtual 71, 3) := by decide +kernel
theorem dX4_waysTo_12 : decode cX4_waysTo 12 = .ok (.if_icmp .ge 23, 3) := by decide +kernel
theorem dX4_waysTo_15 : decode cX4_waysTo 15 = .ok (.aload_n 0, 1) := by decide +kernel
theorem dX4_waysTo_16 : decode cX4_waysTo 16 = .ok (.iload_n 1, 1) := by decide +kernel
theorem dX4_waysTo_17 : decode cX4_waysTo 17 = .ok (.iload 4, 2) := by decide +kernel
theorem dX4_waysTo_19 : decode cX4_waysTo 19 = .ok (.invokevirtual 74, 3) := by decide +kernel
theorem dX4_waysTo_22 : decode cX4_waysTo 22 = .ok (.iload_n 2, 1) := by decide +kernel
theorem dX4_waysTo_23 : decode cX4_waysTo 23 = .ok (.if_icmp .ne 6, 3) := by decide +kernel
theorem dX4_waysTo_26 : decode cX4_waysTo 26 = .ok (.iinc 3 1, 3) := by decide +kernel
theorem dX4_waysTo_29 : decode cX4_waysTo 29 = .ok (.iinc 4 1, 3) := by decide +kernel
theorem dX4_waysTo_32 : decode cX4_waysTo 32 = .ok (.goto (-27), 3) := by decide +kernel
theorem dX4_waysTo_35 : decode cX4_waysTo 35 = .ok (.iload_n 3, 1) := by decide +kernel
theorem dX4_waysTo_36 : decode cX4_waysTo 36 = .ok (.ireturn, 1) := by decide +kernel
theorem dX4_reach_0 : decode cX4_reach 0 = .ok (.iconst 1, 1) := by decide +kernel
theorem dX4_reach_1 : decode cX4_reach 1 = .ok (.iload_n 1, 1) := by decide +kernel
theorem dX4_reach_2 : decode cX4_reach 2 = .ok (.ishl, 1) := by decide +kernel
theorem dX4_reach_3 : decode cX4_reach 3 = .ok (.istore_n 3, 1) := by decide +kernel
theorem dX4_reach_4 : decode cX4_reach 4 = .ok (.iconst 1, 1) := by decide +kernel
theorem dX4_reach_5 : decode cX4_reach 5 = .ok (.iload_n 2, 1) := by decide +kernel
theorem dX4_reach_6 : decode cX4_reach 6 = .ok (.ishl, 1) := by decide +kernel
theorem dX4_reach_7 : decode cX4_reach 7 = .ok (.iconst (-1), 1) := by decide +kernel
theorem dX4_reach_8 : decode cX4_reach 8 = .ok (.ixor, 1) := by decide +kernel
theorem dX4_reach_9 : decode cX4_reach 9 = .ok (.istore 4, 2) := by decide +kernel
theorem dX4_reach_11 : decode cX4_reach 11 = .ok (.iconst 1, 1) := by decide +kernel
theorem dX4_reach_12 : decode cX4_reach 12 = .ok (.istore 5, 2) := by decide +kernel
theorem dX4_reach_14 : decode cX4_reach 14 = .ok (.iload 5, 2) := by decide +kernel
theorem dX4_reach_16 : decode cX4_reach 16 = .ok (.aload_n 0, 1) := by decide +kernel
theorem dX4_reach_17 : decode cX4_reach 17 = .ok (.getfield 27, 3) := by decide +kernel
theorem dX4_reach_20 : decode cX4_reach 20 = .ok (.if_icmp .ge 50, 3) := by decide +kernel
theorem dX4_reach_23 : decode cX4_reach 23 = .ok (.iconst 1, 1) := by decide +kernel
theorem dX4_reach_24 : decode cX4_reach 24 = .ok (.istore 6, 2) := by decide +kernel
theorem dX4_reach_26 : decode cX4_reach 26 = .ok (.iload 6, 2) := by decide +kernel
theorem dX4_reach_28 : decode cX4_reach 28 = .ok (.aload_n 0, 1) := by decide +kernel
theorem dX4_reach_29 : decode cX4_reach 29 = .ok (.getfield 27, 3) := by decide +kernel
theorem dX4_reach_32 : decode cX4_reach 32 = .ok (.if_icmp .ge 32, 3) := by decide +kernel
theorem dX4_reach_35 : decode cX4_reach 35 = .ok (.iload_n 3, 1) := by decide +kernel
theorem dX4_reach_36 : decode cX4_reach 36 = .ok (.iload 6, 2) := by decide +kernel
theorem dX4_reach_38 : decode cX4_reach 38 = .ok (.ishr, 1) := by decide +kernel
theorem dX4_reach_39 : decode cX4_reach 39 = .ok (.iconst 1, 1) := by decide +kernel
theorem dX4_reach_40 : decode cX4_reach 40 = .ok (.iand, 1) := by decide +kernel
theorem dX4_reach_41 : decode cX4_reach 41 = .ok (.iconst 1, 1) := by decide +kernel
theorem dX4_reach_42 : decode cX4_reach 42 = .ok (.if_icmp .ne 16, 3) := by decide +kernel
theorem dX4_reach_45 : decode cX4_reach 45 = .ok (.iload_n 3, 1) := by decide +kernel
theorem dX4_reach_46 : decode cX4_reach 46 = .ok (.aload_n 0, 1) := by decide +kernel
theorem dX4_reach_47 : decode cX4_reach 47 = .ok (.getfield 18, 3) := by decide +kernel
theorem dX4_reach_50 : decode cX4_reach 50 = .ok (.iload 6, 2) := by decide +kernel
theorem dX4_reach_52 : decode cX4_reach 52 = .ok (.iaload, 1) := by decide +kernel
theorem dX4_reach_53 : decode cX4_reach 53 = .ok (.iload 4, 2) := by decide +kernel
theorem dX4_reach_55 : decode cX4_reach 55 = .ok (.iand, 1) := by decide +kernel
theorem dX4_reach_56 : decode cX4_reach 56 = .ok (.ior, 1) := by decide +kernel
theorem dX4_reach_57 : decode cX4_reach 57 = .ok (.istore_n 3, 1) := by decide +kernel
theorem dX4_reach_58 : decode cX4_reach 58 = .ok (.iinc 6 1, 3) := by decide +kernel
theorem dX4_reach_61 : decode cX4_reach 61 = .ok (.goto (-35), 3) := by decide +kernel
theorem dX4_reach_64 : decode cX4_reach 64 = .ok (.iinc 5 1, 3) := by decide +kernel
theorem dX4_reach_67 : decode cX4_reach 67 = .ok (.goto (-53), 3) := by decide +kernel
theorem dX4_reach_70 : decode cX4_reach 70 = .ok (.iload_n 3, 1) := by decide +kernel
theorem dX4_reach_71 : decode cX4_reach 71 = .ok (.ireturn, 1) := by decide +kernel
theorem dX4_parishOf_0 : decode cX4_parishOf 0 = .ok (.iconst 0, 1) := by decide +kernel
theorem dX4_parishOf_1 : decode cX4_parishOf 1 = .ok (.istore_n 2, 1) := by decide +kernel
theorem dX4_parishOf_2 : decode cX4_parishOf 2 = .ok (.aload_n 0, 1) := by decide +kernel
theorem dX4_parishOf_3 : decode cX4_parishOf 3 = .ok (.iload_n 1, 1) := by decide +kernel
theorem dX4_parishOf_4 : decode cX4_parishOf 4 = .ok (.bipush 8, 2) := by decide +kernel
theorem dX4_parishOf_6 : decode cX4_parishOf 6 = .ok (.invokevirtual 78, 3) := by decide +kernel
theorem dX4_parishOf_9 : decode cX4_parishOf 9 = .ok (.istore_n 3, 1) := by decide +kernel
theorem dX4_parishOf_10 : decode cX4_parishOf 10 = .ok (.iconst 0, 1) := by decide +kernel
theorem dX4_parishOf_11 : decode cX4_parishOf 11 = .ok (.istore 4, 2) := by decide +kernel
theorem dX4_parishOf_13 : decode cX4_parishOf 13 = .ok (.iload 4, 2) := by decide +kernel
theorem dX4_parishOf_15 : decode cX4_parishOf 15 = .ok (.aload_n 0, 1) := by decide +kernel
theorem dX4_parishOf_16 : decode cX4_parishOf 16 = .ok (.getfield 27, 3) := by decide +kernel
theorem dX4_parishOf_19 : decode cX4_parishOf 19 = .ok (.if_icmp .ge 54, 3) := by decide +kernel
theorem dX4_parishOf_22 : decode cX4_parishOf 22 = .ok (.iload_n 3, 1) := by decide +kernel
theorem dX4_parishOf_23 : decode cX4_parishOf 23 = .ok (.iload 4, 2) := by decide +kernel
theorem dX4_parishOf_25 : decode cX4_parishOf 25 = .ok (.ishr, 1) := by decide +kernel
theorem dX4_parishOf_26 : decode cX4_parishOf 26 = .ok (.iconst 1, 1) := by decide +kernel
theorem dX4_parishOf_27 : decode cX4_parishOf 27 = .ok (.iand, 1) := by decide +kernel
theorem dX4_parishOf_28 : decode cX4_parishOf 28 = .ok (.iconst 1, 1) := by decide +kernel
theorem dX4_parishOf_29 : decode cX4_parishOf 29 = .ok (.if_icmp .ne 23, 3) := by decide +kernel
theorem dX4_parishOf_32 : decode cX4_parishOf 32 = .ok (.aload_n 0, 1) := by decide +kernel
theorem dX4_parishOf_33 : decode cX4_parishOf 33 = .ok (.iload 4, 2) := by decide +kernel
theorem dX4_parishOf_35 : decode cX4_parishOf 35 = .ok (.bipush 8, 2) := by decide +kernel
theorem dX4_parishOf_37 : decode cX4_parishOf 37 = .ok (.invokevirtual 78, 3) := by decide +kernel
theorem dX4_parishOf_40 : decode cX4_parishOf 40 = .ok (.iload_n 1, 1) := by decide +kernel
theorem dX4_parishOf_41 : decode cX4_parishOf 41 = .ok (.ishr, 1) := by decide +kernel
theorem dX4_parishOf_42 : decode cX4_parishOf 42 = .ok (.iconst 1, 1) := by decide +kernel
theorem dX4_parishOf_43 : decode cX4_parishOf 43 = .ok (.iand, 1) := by decide +kernel
theorem dX4_parishOf_44 : decode cX4_parishOf 44 = .ok (.iconst 1, 1) := by decide +kernel
theorem dX4_parishOf_45 : decode cX4_parishOf 45 = .ok (.if_icmp .ne 7, 3) := by decide +kernel
theorem dX4_parishOf_48 : decode cX4_parishOf 48 = .ok (.iconst 1, 1) := by decide +kernel
theorem dX4_parishOf_49 : decode cX4_parishOf 49 = .ok (.goto 4, 3) := by decide +kernel
theorem dX4_parishOf_52 : decode cX4_parishOf 52 = .ok (.iconst 0, 1) := by decide +kernel
theorem dX4_parishOf_53 : decode cX4_parishOf 53 = .ok (.istore 5, 2) := by decide +kernel
theorem dX4_parishOf_55 : decode cX4_parishOf 55 = .ok (.iload 5, 2) := by decide +kernel
theorem dX4_parishOf_57 : decode cX4_parishOf 57 = .ok (.ifCond .eq 10, 3) := by decide +kernel
theorem dX4_parishOf_60 : decode cX4_parishOf 60 = .ok (.iload_n 2, 1) := by decide +kernel
theorem dX4_parishOf_61 : decode cX4_parishOf 61 = .ok (.iconst 1, 1) := by decide +kernel
theorem dX4_parishOf_62 : decode cX4_parishOf 62 = .ok (.iload 4, 2) := by decide +kernel
theorem dX4_parishOf_64 : decode cX4_parishOf 64 = .ok (.ishl, 1) := by decide +kernel
theorem dX4_parishOf_65 : decode cX4_parishOf 65 = .ok (.ior, 1) := by decide +kernel
theorem dX4_parishOf_66 : decode cX4_parishOf 66 = .ok (.istore_n 2, 1) := by decide +kernel
theorem dX4_parishOf_67 : decode cX4_parishOf 67 = .ok (.iinc 4 1, 3) := by decide +kernel
theorem dX4_parishOf_70 : decode cX4_parishOf 70 = .ok (.goto (-57), 3) := by decide +kernel
theorem dX4_parishOf_73 : decode cX4_parishOf 73 = .ok (.iload_n 2, 1) := by decide +kernel
theorem dX4_parishOf_74 : decode cX4_parishOf 74 = .ok (.ireturn, 1) := by decide +kernel
theorem dX5_init_0 : decode cX5_init 0 = .ok (.aload_n 0, 1) := by decide +kernel
theorem dX5_init_1 : decode cX5_init 1 = .ok (.invokespecial 3, 3) := by decide +kernel
theorem dX5_init_4 : decode cX5_init 4 = .ok (.aload_n 0, 1) := by decide +kernel
theorem dX5_init_5 : decode cX5_init 5 = .ok (.bipush 8, 2) := by decide +kernel
theorem dX5_init_7 : decode cX5_init 7 = .ok (.newarray .int, 2) := by decide +kernel
theorem dX5_init_9 : decode cX5_init 9 = .ok (.putfield 9, 3) := by decide +kernel
theorem dX5_init_12 : decode cX5_init 12 = .ok (.aload_n 0, 1) := by decide +kernel
theorem dX5_init_13 : decode cX5_init 13 = .ok (.bipush 8, 2) := by decide +kernel
theorem dX5_init_15 : decode cX5_init 15 = .ok (.newarray .int, 2) := by decide +kernel
theorem dX5_init_17 : decode cX5_init 17 = .ok (.putfield 15, 3) := by decide +kernel
theorem dX5_init_20 : decode cX5_init 20 = .ok (.aload_n 0, 1) := by decide +kernel
theorem dX5_init_21 : decode cX5_init 21 = .ok (.bipush 8, 2) := by decide +kernel
theorem dX5_init_23 : decode cX5_init 23 = .ok (.newarray .int, 2) := by decide +kernel
theorem dX5_init_25 : decode cX5_init 25 = .ok (.putfield 18, 3) := by decide +kernel
theorem dX5_init_28 : decode cX5_init 28 = .ok (.return_, 1) := by decide +kernel
theorem dX5_load_0 : decode cX5_load 0 = .ok (.iconst 0, 1) := by decide +kernel
theorem dX5_load_1 : decode cX5_load 1 = .ok (.istore_n 2, 1) := by decide +kernel
theorem dX5_load_2 : decode cX5_load 2 = .ok (.iload_n 2, 1) := by decide +kernel
theorem dX5_load_3 : decode cX5_load 3 = .ok (.bipush 8, 2) := by decide +kernel
theorem dX5_load_5 : decode cX5_load 5 = .ok (.if_icmp .ge 24, 3) := by decide +kernel
theorem dX5_load_8 : decode cX5_load 8 = .ok (.iload_n 2, 1) := by decide +kernel
theorem dX5_load_9 : decode cX5_load 9 = .ok (.aload_n 1, 1) := by decide +kernel
theorem dX5_load_10 : decode cX5_load 10 = .ok (.arraylength, 1) := by decide +kernel
theorem dX5_load_11 : decode cX5_load 11 = .ok (.if_icmp .ge 18, 3) := by decide +kernel
theorem dX5_load_14 : decode cX5_load 14 = .ok (.aload_n 0, 1) := by decide +kernel
theorem dX5_load_15 : decode cX5_load 15 = .ok (.getfield 9, 3) := by decide +kernel
theorem dX5_load_18 : decode cX5_load 18 = .ok (.iload_n 2, 1) := by decide +kernel
theorem dX5_load_19 : decode cX5_load 19 = .ok (.aload_n 1, 1) := by decide +kernel
theorem dX5_load_20 : decode cX5_load 20 = .ok (.iload_n 2, 1) := by decide +kernel
theorem dX5_load_21 : decode cX5_load 21 = .ok (.iaload, 1) := by decide +kernel
theorem dX5_load_22 : decode cX5_load 22 = .ok (.iastore, 1) := by decide +kernel
theorem dX5_load_23 : decode cX5_load 23 = .ok (.iinc 2 1, 3) := by decide +kernel
theorem dX5_load_26 : decode cX5_load 26 = .ok (.goto (-24), 3) := by decide +kernel
theorem dX5_load_29 : decode cX5_load 29 = .ok (.return_, 1) := by decide +kernel
theorem dX5_pour_0 : decode cX5_pour 0 = .ok (.iconst 0, 1) := by decide +kernel
theorem dX5_pour_1 : decode cX5_pour 1 = .ok (.istore_n 2, 1) := by decide +kernel
theorem dX5_pour_2 : decode cX5_pour 2 = .ok (.iload_n 2, 1) := by decide +kernel
theorem dX5_pour_3 : decode cX5_pour 3 = .ok (.bipush 8, 2) := by decide +kernel
theorem dX5_pour_5 : decode cX5_pour 5 = .ok (.if_icmp .ge 27, 3) := by decide +kernel
theorem dX5_pour_8 : decode cX5_pour 8 = .ok (.iload_n 2, 1) := by decide +kernel
theorem dX5_pour_9 : decode cX5_pour 9 = .ok (.aload_n 1, 1) := by decide +kernel
theorem dX5_pour_10 : decode cX5_pour 10 = .ok (.arraylength, 1) := by decide +kernel
theorem dX5_pour_11 : decode cX5_pour 11 = .ok (.if_icmp .ge 21, 3) := by decide +kernel
theorem dX5_pour_14 : decode cX5_pour 14 = .ok (.aload_n 0, 1) := by decide +kernel
theorem dX5_pour_15 : decode cX5_pour 15 = .ok (.getfield 9, 3) := by decide +kernel
theorem dX5_pour_18 : decode cX5_pour 18 = .ok (.iload_n 2, 1) := by decide +kernel
theorem dX5_pour_19 : decode cX5_pour 19 = .ok (.dup2, 1) := by decide +kernel
theorem dX5_pour_20 : decode cX5_pour 20 = .ok (.iaload, 1) := by decide +kernel
theorem dX5_pour_21 : decode cX5_pour 21 = .ok (.aload_n 1, 1) := by decide +kernel
theorem dX5_pour_22 : decode cX5_pour 22 = .ok (.iload_n 2, 1) := by decide +kernel
theorem dX5_pour_23 : decode cX5_pour 23 = .ok (.iaload, 1) := by decide +kernel
theorem dX5_pour_24 : decode cX5_pour 24 = .ok (.iadd, 1) := by decide +kernel
theorem dX5_pour_25 : decode cX5_pour 25 = .ok (.iastore, 1) := by decide +kernel
theorem dX5_pour_26 : decode cX5_pour 26 = .ok (.iinc 2 1, 3) := by decide +kernel
theorem dX5_pour_29 : decode cX5_pour 29 = .ok (.goto (-27), 3) := by decide +kernel
theorem dX5_pour_32 : decode cX5_pour 32 = .ok (.return_, 1) := by decide +kernel
theorem dX5_holds_0 : decode cX5_holds 0 = .ok (.iconst 1, 1) := by decide +kernel
theorem dX5_holds_1 : decode cX5_holds 1 = .ok (.istore_n 2, 1) := by decide +kernel
theorem dX5_holds_2 : decode cX5_holds 2 = .ok (.iload_n 2, 1) := by decide +kernel
theorem dX5_holds_3 : decode cX5_holds 3 = .ok (.bipush 8, 2) := by decide +kernel
theorem dX5_holds_5 : decode cX5_holds 5 = .ok (.if_icmp .ge 29, 3) := by decide +kernel
theorem dX5_holds_8 : decode cX5_holds 8 = .ok (.iload_n 2, 1) := by decide +kernel
theorem dX5_holds_9 : decode cX5_holds 9 = .ok (.aload_n 1, 1) := by decide +kernel
theorem dX5_holds_10 : decode cX5_holds 10 = .ok (.arraylength, 1) := by decide +kernel
theorem dX5_holds_11 : decode cX5_holds 11 = .ok (.if_icmp .ge 23, 3) := by decide +kernel
theorem dX5_holds_14 : decode cX5_holds 14 = .ok (.aload_n 0, 1) := by decide +kernel
theorem dX5_holds_15 : decode cX5_holds 15 = .ok (.getfield 9, 3) := by decide +kernel
theorem dX5_holds_18 : decode cX5_holds 18 = .ok (.iload_n 2, 1) := by decide +kernel
theorem dX5_holds_19 : decode cX5_holds 19 = .ok (.iaload, 1) := by decide +kernel
theorem dX5_holds_20 : decode cX5_holds 20 = .ok (.aload_n 1, 1) := by decide +kernel
theorem dX5_holds_21 : decode cX5_holds 21 = .ok (.iload_n 2, 1) := by decide +kernel
theorem dX5_holds_22 : decode cX5_holds 22 = .ok (.iaload, 1) := by decide +kernel
theorem dX5_holds_23 : decode cX5_holds 23 = .ok (.if_icmp .eq 5, 3) := by decide +kernel
theorem dX5_holds_26 : decode cX5_holds 26 = .ok (.iconst 0, 1) := by decide +kernel
theorem dX5_holds_27 : decode cX5_holds 27 = .ok (.ireturn, 1) := by decide +kernel
theorem dX5_holds_28 : decode cX5_holds 28 = .ok (.iinc 2 1, 3) := by decide +kernel
theorem dX5_holds_31 : decode cX5_holds 31 = .ok (.goto (-29), 3) := by decide +kernel
theorem dX5_holds_34 : decode cX5_holds 34 = .ok (.iconst 1, 1) := by decide +kernel
theorem dX5_holds_35 : decode cX5_holds 35 = .ok (.ireturn, 1) := by decide +kernel
theorem dX5_calm_0 : decode cX5_calm 0 = .ok (.iconst 0, 1) := by decide +kernel
theorem dX5_calm_1 : decode cX5_calm 1 = .ok (.istore_n 2, 1) := by decide +kernel
theorem dX5_calm_2 : decode cX5_calm 2 = .ok (.iload_n 2, 1) := by decide +kernel
theorem dX5_calm_3 : decode cX5_calm 3 = .ok (.bipush 8, 2) := by decide +kernel
theorem dX5_calm_5 : decode cX5_calm 5 = .ok (.if_icmp .ge 16, 3) := by decide +kernel
theorem dX5_calm_8 : decode cX5_calm 8 = .ok (.aload_n 0, 1) := by decide +kernel
theorem dX5_calm_9 : decode cX5_calm 9 = .ok (.getfield 15, 3) := by decide +kernel
theorem dX5_calm_12 : decode cX5_calm 12 = .ok (.iload_n 2, 1) := by decide +kernel
theorem dX5_calm_13 : decode cX5_calm 13 = .ok (.iconst 0, 1) := by decide +kernel
theorem dX5_calm_14 : decode cX5_calm 14 = .ok (.iastore, 1) := by decide +kernel
theorem dX5_calm_15 : decode cX5_calm 15 = .ok (.iinc 2 1, 3) := by decide +kernel
theorem dX5_calm_18 : decode cX5_calm 18 = .ok (.goto (-16), 3) := by decide +kernel
theorem dX5_calm_21 : decode cX5_calm 21 = .ok (.iconst 0, 1) := by decide +kernel
theorem dX5_calm_22 : decode cX5_calm 22 = .ok (.istore_n 2, 1) := by decide +kernel
theorem dX5_calm_23 : decode cX5_calm 23 = .ok (.iconst (-1), 1) := by decide +kernel
theorem dX5_calm_24 : decode cX5_calm 24 = .ok (.istore_n 3, 1) := by decide +kernel
theorem dX5_calm_25 : decode cX5_calm 25 = .ok (.iconst 0, 1) := by decide +kernel
theorem dX5_calm_26 : decode cX5_calm 26 = .ok (.istore 4, 2) := by decide +kernel
theorem dX5_calm_28 : decode cX5_calm 28 = .ok (.iload 4, 2) := by decide +kernel
theorem dX5_calm_30 : decode cX5_calm 30 = .ok (.sipush 9999, 3) := by decide +kernel
theorem dX5_calm_33 : decode cX5_calm 33 = .ok (.if_icmp .gt 51, 3) := by decide +kernel
theorem dX5_calm_36 : decode cX5_calm 36 = .ok (.iload_n 2, 1) := by decide +kernel
theorem dX5_calm_37 : decode cX5_calm 37 = .ok (.iload_n 3, 1) := by decide +kernel
theorem dX5_calm_38 : decode cX5_calm 38 = .ok (.if_icmp .le 46, 3) := by decide +kernel
theorem dX5_calm_41 : decode cX5_calm 41 = .ok (.iload_n 2, 1) := by decide +kernel
theorem dX5_calm_42 : decode cX5_calm 42 = .ok (.sipush 9999, 3) := by decide +kernel
theorem dX5_calm_45 : decode cX5_calm 45 = .ok (.if_icmp .gt 39, 3) := by decide +kernel
theorem dX5_calm_48 : decode cX5_calm 48 = .ok (.iload_n 2, 1) := by decide +kernel
theorem dX5_calm_49 : decode cX5_calm 49 = .ok (.istore_n 3, 1) := by decide +kernel
theorem dX5_calm_50 : decode cX5_calm 50 = .ok (.iconst 1, 1) := by decide +kernel
theorem dX5_calm_51 : decode cX5_calm 51 = .ok (.istore 5, 2) := by decide +kernel
theorem dX5_calm_53 : decode cX5_calm 53 = .ok (.iload 5, 2) := by decide +kernel
theorem dX5_calm_55 : decode cX5_calm 55 = .ok (.aload_n 1, 1) := by decide +kernel
theorem dX5_calm_56 : decode cX5_calm 56 = .ok (.invokevirtual 21, 3) := by decide +kernel
theorem dX5_calm_59 : decode cX5_calm 59 = .ok (.if_icmp .ge 19, 3) := by decide +kernel
theorem dX5_calm_62 : decode cX5_calm 62 = .ok (.iload_n 2, 1) := by decide +kernel
theorem dX5_calm_63 : decode cX5_calm 63 = .ok (.aload_n 0, 1) := by decide +kernel
theorem dX5_calm_64 : decode cX5_calm 64 = .ok (.aload_n 1, 1) := by decide +kernel
theorem dX5_calm_65 : decode cX5_calm 65 = .ok (.iload 5, 2) := by decide +kernel
theorem dX5_calm_67 : decode cX5_calm 67 = .ok (.invokevirtual 27, 3) := by decide +kernel
theorem dX5_calm_70 : decode cX5_calm 70 = .ok (.iadd, 1) := by decide +kernel
theorem dX5_calm_71 : decode cX5_calm 71 = .ok (.istore_n 2, 1) := by decide +kernel
theorem dX5_calm_72 : decode cX5_calm 72 = .ok (.iinc 5 1, 3) := by decide +kernel
theorem dX5_calm_75 : decode cX5_calm 75 = .ok (.goto (-22), 3) := by decide +kernel
theorem dX5_calm_78 : decode cX5_calm 78 = .ok (.iinc 4 1, 3) := by decide +kernel
theorem dX5_calm_81 : decode cX5_calm 81 = .ok (.goto (-53), 3) := by decide +kernel
theorem dX5_calm_84 : decode cX5_calm 84 = .ok (.iload_n 2, 1) := by decide +kernel
theorem dX5_calm_85 : decode cX5_calm 85 = .ok (.sipush 9999, 3) := by decide +kernel
theorem dX5_calm_88 : decode cX5_calm 88 = .ok (.if_icmp .le 8, 3) := by decide +kernel
theorem dX5_calm_91 : decode cX5_calm 91 = .ok (.bipush (-3), 2) := by decide +kernel
theorem dX5_calm_93 : decode cX5_calm 93 = .ok (.goto 4, 3) := by decide +kernel
theorem dX5_calm_96 : decode cX5_calm 96 = .ok (.iload_n 2, 1) := by decide +kernel
theorem dX5_calm_97 : decode cX5_calm 97 = .ok (.ireturn, 1) := by decide +kernel
theorem dX5_burstAtOnce_0 : decode cX5_burstAtOnce 0 = .ok (.aload_n 1, 1) := by decide +kernel
theorem dX5_burstAtOnce_1 : decode cX5_burstAtOnce 1 = .ok (.iload_n 2, 1) := by decide +kernel
theorem dX5_burstAtOnce_2 : decode cX5_burstAtOnce 2 = .ok (.invokevirtual 31, 3) := by decide +kernel
theorem dX5_burstAtOnce_5 : decode cX5_burstAtOnce 5 = .ok (.istore_n 3, 1) := by decide +kernel
theorem dX5_burstAtOnce_6 : decode cX5_burstAtOnce 6 = .ok (.iload_n 3, 1) := by decide +kernel
theorem dX5_burstAtOnce_7 : decode cX5_burstAtOnce 7 = .ok (.iconst 1, 1) := by decide +kernel
theorem dX5_burstAtOnce_8 : decode cX5_burstAtOnce 8 = .ok (.if_icmp .lt 13, 3) := by decide +kernel
theorem dX5_burstAtOnce_11 : decode cX5_burstAtOnce 11 = .ok (.aload_n 0, 1) := by decide +kernel
theorem dX5_burstAtOnce_12 : decode cX5_burstAtOnce 12 = .ok (.getfield 9, 3) := by decide +kernel
theorem dX5_burstAtOnce_15 : decode cX5_burstAtOnce 15 = .ok (.iload_n 2, 1) := by decide +kernel
theorem dX5_burstAtOnce_16 : decode cX5_burstAtOnce 16 = .ok (.iaload, 1) := by decide +kernel
theorem dX5_burstAtOnce_17 : decode cX5_burstAtOnce 17 = .ok (.iload_n 3, 1) := by decide +kernel
theorem dX5_burstAtOnce_18 : decode cX5_burstAtOnce 18 = .ok (.if_icmp .ge 5, 3) := by decide +kernel
theorem dX5_burstAtOnce_21 : decode cX5_burstAtOnce 21 = .ok (.iconst 0, 1) := by decide +kernel
theorem dX5_burstAtOnce_22 : decode cX5_burstAtOnce 22 = .ok (.ireturn, 1) := by decide +kernel
theorem dX5_burstAtOnce_23 : decode cX5_burstAtOnce 23 = .ok (.aload_n 0, 1) := by decide +kernel
theorem dX5_burstAtOnce_24 : decode cX5_burstAtOnce 24 = .ok (.getfield 9, 3) := by decide +kernel
theorem dX5_burstAtOnce_27 : decode cX5_burstAtOnce 27 = .ok (.iload_n 2, 1) := by decide +kernel
theorem dX5_burstAtOnce_28 : decode cX5_burstAtOnce 28 = .ok (.iaload, 1) := by decide +kernel
theorem dX5_burstAtOnce_29 : decode cX5_burstAtOnce 29 = .ok (.iload_n 3, 1) := by decide +kernel
theorem dX5_burstAtOnce_30 : decode cX5_burstAtOnce 30 = .ok (.idiv, 1) := by decide +kernel
theorem dX5_burstAtOnce_31 : decode cX5_burstAtOnce 31 = .ok (.istore 4, 2) := by decide +kernel
theorem dX5_burstAtOnce_33 : decode cX5_burstAtOnce 33 = .ok (.aload_n 0, 1) := by decide +kernel
theorem dX5_burstAtOnce_34 : decode cX5_burstAtOnce 34 = .ok (.getfield 9, 3) := by decide +kernel
theorem dX5_burstAtOnce_37 : decode cX5_burstAtOnce 37 = .ok (.iload_n 2, 1) := by decide +kernel
theorem dX5_burstAtOnce_38 : decode cX5_burstAtOnce 38 = .ok (.dup2, 1) := by decide +kernel
theorem dX5_burstAtOnce_39 : decode cX5_burstAtOnce 39 = .ok (.iaload, 1) := by decide +kernel
theorem dX5_burstAtOnce_40 : decode cX5_burstAtOnce 40 = .ok (.iload 4, 2) := by decide +kernel
theorem dX5_burstAtOnce_42 : decode cX5_burstAtOnce 42 = .ok (.iload_n 3, 1) := by decide +kernel
theorem dX5_burstAtOnce_43 : decode cX5_burstAtOnce 43 = .ok (.imul, 1) := by decide +kernel
theorem dX5_burstAtOnce_44 : decode cX5_burstAtOnce 44 = .ok (.isub, 1) := by decide +kernel
theorem dX5_burstAtOnce_45 : decode cX5_burstAtOnce 45 = .ok (.iastore, 1) := by decide +kernel
theorem dX5_burstAtOnce_46 : decode cX5_burstAtOnce 46 = .ok (.iconst 0, 1) := by decide +kernel
theorem dX5_burstAtOnce_47 : decode cX5_burstAtOnce 47 = .ok (.istore 5, 2) := by decide +kernel
theorem dX5_burstAtOnce_49 : decode cX5_burstAtOnce 49 = .ok (.iload 5, 2) := by decide +kernel
theorem dX5_burstAtOnce_51 : decode cX5_burstAtOnce 51 = .ok (.iload_n 3, 1) := by decide +kernel
theorem dX5_burstAtOnce_52 : decode cX5_burstAtOnce 52 = .ok (.if_icmp .ge 39, 3) := by decide +kernel
theorem dX5_burstAtOnce_55 : decode cX5_burstAtOnce 55 = .ok (.aload_n 1, 1) := by decide +kernel
theorem dX5_burstAtOnce_56 : decode cX5_burstAtOnce 56 = .ok (.iload_n 2, 1) := by decide +kernel
theorem dX5_burstAtOnce_57 : decode cX5_burstAtOnce 57 = .ok (.iload 5, 2) := by decide +kernel
theorem dX5_burstAtOnce_59 : decode cX5_burstAtOnce 59 = .ok (.invokevirtual 35, 3) := by decide +kernel
theorem dX5_burstAtOnce_62 : decode cX5_burstAtOnce 62 = .ok (.istore 6, 2) := by decide +kernel
theorem dX5_burstAtOnce_64 : decode cX5_burstAtOnce 64 = .ok (.aload_n 1, 1) := by decide +kernel
theorem dX5_burstAtOnce_65 : decode cX5_burstAtOnce 65 = .ok (.iload 6, 2) := by decide +kernel
theorem dX5_burstAtOnce_67 : decode cX5_burstAtOnce 67 = .ok (.invokevirtual 39, 3) := by decide +kernel
theorem dX5_burstAtOnce_70 : decode cX5_burstAtOnce 70 = .ok (.ifCond .eq 15, 3) := by decide +kernel
theorem dX5_burstAtOnce_73 : decode cX5_burstAtOnce 73 = .ok (.aload_n 0, 1) := by decide +kernel
theorem dX5_burstAtOnce_74 : decode cX5_burstAtOnce 74 = .ok (.getfield 9, 3) := by decide +kernel
theorem dX5_burstAtOnce_77 : decode cX5_burstAtOnce 77 = .ok (.iload 6, 2) := by decide +kernel
theorem dX5_burstAtOnce_79 : decode cX5_burstAtOnce 79 = .ok (.dup2, 1) := by decide +kernel
theorem dX5_burstAtOnce_80 : decode cX5_burstAtOnce 80 = .ok (.iaload, 1) := by decide +kernel
theorem dX5_burstAtOnce_81 : decode cX5_burstAtOnce 81 = .ok (.iload 4, 2) := by decide +kernel
theorem dX5_burstAtOnce_83 : decode cX5_burstAtOnce 83 = .ok (.iadd, 1) := by decide +kernel
theorem dX5_burstAtOnce_84 : decode cX5_burstAtOnce 84 = .ok (.iastore, 1) := by decide +kernel
theorem dX5_burstAtOnce_85 : decode cX5_burstAtOnce 85 = .ok (.iinc 5 1, 3) := by decide +kernel
theorem dX5_burstAtOnce_88 : decode cX5_burstAtOnce 88 = .ok (.goto (-39), 3) := by decide +kernel
theorem dX5_burstAtOnce_91 : decode cX5_burstAtOnce 91 = .ok (.aload_n 0, 1) := by decide +kernel
theorem dX5_burstAtOnce_92 : decode cX5_burstAtOnce 92 = .ok (.getfield 15, 3) := by decide +kernel
theorem dX5_burstAtOnce_95 : decode cX5_burstAtOnce 95 = .ok (.iload_n 2, 1) := by decide +kernel
theorem dX5_burstAtOnce_96 : decode cX5_burstAtOnce 96 = .ok (.dup2, 1) := by decide +kernel
theorem dX5_burstAtOnce_97 : decode cX5_burstAtOnce 97 = .ok (.iaload, 1) := by decide +kernel
theorem dX5_burstAtOnce_98 : decode cX5_burstAtOnce 98 = .ok (.iload 4, 2) := by decide +kernel
theorem dX5_burstAtOnce_100 : decode cX5_burstAtOnce 100 = .ok (.iadd, 1) := by decide +kernel
theorem dX5_burstAtOnce_101 : decode cX5_burstAtOnce 101 = .ok (.iastore, 1) := by decide +kernel
theorem dX5_burstAtOnce_102 : decode cX5_burstAtOnce 102 = .ok (.iload 4, 2) := by decide +kernel
theorem dX5_burstAtOnce_104 : decode cX5_burstAtOnce 104 = .ok (.ireturn, 1) := by decide +kernel
