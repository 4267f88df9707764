theorem dX10_fitsSights_0 : decode cX10_fitsSights 0 = .ok (.aload_n 0, 1) := by decide +kernel
theorem dX10_fitsSights_1 : decode cX10_fitsSights 1 = .ok (.getfield 26, 3) := by decide +kernel
theorem dX10_fitsSights_4 : decode cX10_fitsSights 4 = .ok (.iload_n 1, 1) := by decide +kernel
theorem dX10_fitsSights_5 : decode cX10_fitsSights 5 = .ok (.iload_n 2, 1) := by decide +kernel
theorem dX10_fitsSights_6 : decode cX10_fitsSights 6 = .ok (.invokevirtual 183, 3) := by decide +kernel
theorem dX10_fitsSights_9 : decode cX10_fitsSights 9 = .ok (.ifCond .ne 5, 3) := by decide +kernel
theorem dX10_fitsSights_12 : decode cX10_fitsSights 12 = .ok (.iconst 0, 1) := by decide +kernel
theorem dX10_fitsSights_13 : decode cX10_fitsSights 13 = .ok (.ireturn, 1) := by decide +kernel
theorem dX10_fitsSights_14 : decode cX10_fitsSights 14 = .ok (.iconst 0, 1) := by decide +kernel
theorem dX10_fitsSights_15 : decode cX10_fitsSights 15 = .ok (.istore_n 3, 1) := by decide +kernel
theorem dX10_fitsSights_16 : decode cX10_fitsSights 16 = .ok (.iload_n 3, 1) := by decide +kernel
theorem dX10_fitsSights_17 : decode cX10_fitsSights 17 = .ok (.aload_n 0, 1) := by decide +kernel
theorem dX10_fitsSights_18 : decode cX10_fitsSights 18 = .ok (.getfield 80, 3) := by decide +kernel
theorem dX10_fitsSights_21 : decode cX10_fitsSights 21 = .ok (.invokevirtual 397, 3) := by decide +kernel
theorem dX10_fitsSights_24 : decode cX10_fitsSights 24 = .ok (.if_icmp .ge 98, 3) := by decide +kernel
theorem dX10_fitsSights_27 : decode cX10_fitsSights 27 = .ok (.aload_n 0, 1) := by decide +kernel
theorem dX10_fitsSights_28 : decode cX10_fitsSights 28 = .ok (.getfield 50, 3) := by decide +kernel
theorem dX10_fitsSights_31 : decode cX10_fitsSights 31 = .ok (.aload_n 0, 1) := by decide +kernel
theorem dX10_fitsSights_32 : decode cX10_fitsSights 32 = .ok (.getfield 46, 3) := by decide +kernel
theorem dX10_fitsSights_35 : decode cX10_fitsSights 35 = .ok (.invokevirtual 201, 3) := by decide +kernel
theorem dX10_fitsSights_38 : decode cX10_fitsSights 38 = .ok (.aload_n 0, 1) := by decide +kernel
theorem dX10_fitsSights_39 : decode cX10_fitsSights 39 = .ok (.getfield 50, 3) := by decide +kernel
theorem dX10_fitsSights_42 : decode cX10_fitsSights 42 = .ok (.getfield 160, 3) := by decide +kernel
theorem dX10_fitsSights_45 : decode cX10_fitsSights 45 = .ok (.iload_n 1, 1) := by decide +kernel
theorem dX10_fitsSights_46 : decode cX10_fitsSights 46 = .ok (.iload_n 2, 1) := by decide +kernel
theorem dX10_fitsSights_47 : decode cX10_fitsSights 47 = .ok (.iastore, 1) := by decide +kernel
theorem dX10_fitsSights_48 : decode cX10_fitsSights 48 = .ok (.aload_n 0, 1) := by decide +kernel
theorem dX10_fitsSights_49 : decode cX10_fitsSights 49 = .ok (.getfield 80, 3) := by decide +kernel
theorem dX10_fitsSights_52 : decode cX10_fitsSights 52 = .ok (.iload_n 3, 1) := by decide +kernel
theorem dX10_fitsSights_53 : decode cX10_fitsSights 53 = .ok (.invokevirtual 411, 3) := by decide +kernel
theorem dX10_fitsSights_56 : decode cX10_fitsSights 56 = .ok (.istore 4, 2) := by decide +kernel
theorem dX10_fitsSights_58 : decode cX10_fitsSights 58 = .ok (.iconst 0, 1) := by decide +kernel
theorem dX10_fitsSights_59 : decode cX10_fitsSights 59 = .ok (.istore 5, 2) := by decide +kernel
theorem dX10_fitsSights_61 : decode cX10_fitsSights 61 = .ok (.iload 5, 2) := by decide +kernel
theorem dX10_fitsSights_63 : decode cX10_fitsSights 63 = .ok (.aload_n 0, 1) := by decide +kernel
theorem dX10_fitsSights_64 : decode cX10_fitsSights 64 = .ok (.getfield 80, 3) := by decide +kernel
theorem dX10_fitsSights_67 : decode cX10_fitsSights 67 = .ok (.iload_n 3, 1) := by decide +kernel
theorem dX10_fitsSights_68 : decode cX10_fitsSights 68 = .ok (.invokevirtual 414, 3) := by decide +kernel
theorem dX10_fitsSights_71 : decode cX10_fitsSights 71 = .ok (.if_icmp .ge 30, 3) := by decide +kernel
theorem dX10_fitsSights_74 : decode cX10_fitsSights 74 = .ok (.iload 4, 2) := by decide +kernel
theorem dX10_fitsSights_76 : decode cX10_fitsSights 76 = .ok (.ifCond .eq 25, 3) := by decide +kernel
theorem dX10_fitsSights_79 : decode cX10_fitsSights 79 = .ok (.aload_n 0, 1) := by decide +kernel
theorem dX10_fitsSights_80 : decode cX10_fitsSights 80 = .ok (.aload_n 0, 1) := by decide +kernel
theorem dX10_fitsSights_81 : decode cX10_fitsSights 81 = .ok (.getfield 50, 3) := by decide +kernel
theorem dX10_fitsSights_84 : decode cX10_fitsSights 84 = .ok (.aload_n 0, 1) := by decide +kernel
theorem dX10_fitsSights_85 : decode cX10_fitsSights 85 = .ok (.getfield 36, 3) := by decide +kernel
theorem dX10_fitsSights_88 : decode cX10_fitsSights 88 = .ok (.iload 4, 2) := by decide +kernel
theorem dX10_fitsSights_90 : decode cX10_fitsSights 90 = .ok (.invokevirtual 303, 3) := by decide +kernel
theorem dX10_fitsSights_93 : decode cX10_fitsSights 93 = .ok (.istore 4, 2) := by decide +kernel
theorem dX10_fitsSights_95 : decode cX10_fitsSights 95 = .ok (.iinc 5 1, 3) := by decide +kernel
theorem dX10_fitsSights_98 : decode cX10_fitsSights 98 = .ok (.goto (-37), 3) := by decide +kernel
theorem dX10_fitsSights_101 : decode cX10_fitsSights 101 = .ok (.iload 4, 2) := by decide +kernel
theorem dX10_fitsSights_103 : decode cX10_fitsSights 103 = .ok (.aload_n 0, 1) := by decide +kernel
theorem dX10_fitsSights_104 : decode cX10_fitsSights 104 = .ok (.getfield 80, 3) := by decide +kernel
theorem dX10_fitsSights_107 : decode cX10_fitsSights 107 = .ok (.iload_n 3, 1) := by decide +kernel
theorem dX10_fitsSights_108 : decode cX10_fitsSights 108 = .ok (.invokevirtual 416, 3) := by decide +kernel
theorem dX10_fitsSights_111 : decode cX10_fitsSights 111 = .ok (.if_icmp .eq 5, 3) := by decide +kernel
theorem dX10_fitsSights_114 : decode cX10_fitsSights 114 = .ok (.iconst 0, 1) := by decide +kernel
theorem dX10_fitsSights_115 : decode cX10_fitsSights 115 = .ok (.ireturn, 1) := by decide +kernel
theorem dX10_fitsSights_116 : decode cX10_fitsSights 116 = .ok (.iinc 3 1, 3) := by decide +kernel
theorem dX10_fitsSights_119 : decode cX10_fitsSights 119 = .ok (.goto (-103), 3) := by decide +kernel
theorem dX10_fitsSights_122 : decode cX10_fitsSights 122 = .ok (.iconst 1, 1) := by decide +kernel
theorem dX10_fitsSights_123 : decode cX10_fitsSights 123 = .ok (.ireturn, 1) := by decide +kernel
theorem dX10_fillPlaces_0 : decode cX10_fillPlaces 0 = .ok (.iconst 0, 1) := by decide +kernel
theorem dX10_fillPlaces_1 : decode cX10_fillPlaces 1 = .ok (.istore 4, 2) := by decide +kernel
theorem dX10_fillPlaces_3 : decode cX10_fillPlaces 3 = .ok (.iload 4, 2) := by decide +kernel
theorem dX10_fillPlaces_5 : decode cX10_fillPlaces 5 = .ok (.iconst 4, 1) := by decide +kernel
theorem dX10_fillPlaces_6 : decode cX10_fillPlaces 6 = .ok (.if_icmp .ge 111, 3) := by decide +kernel
theorem dX10_fillPlaces_9 : decode cX10_fillPlaces 9 = .ok (.aload_n 0, 1) := by decide +kernel
theorem dX10_fillPlaces_10 : decode cX10_fillPlaces 10 = .ok (.getfield 26, 3) := by decide +kernel
theorem dX10_fillPlaces_13 : decode cX10_fillPlaces 13 = .ok (.iload_n 1, 1) := by decide +kernel
theorem dX10_fillPlaces_14 : decode cX10_fillPlaces 14 = .ok (.iload 4, 2) := by decide +kernel
theorem dX10_fillPlaces_16 : decode cX10_fillPlaces 16 = .ok (.invokevirtual 183, 3) := by decide +kernel
theorem dX10_fillPlaces_19 : decode cX10_fillPlaces 19 = .ok (.ifCond .eq 92, 3) := by decide +kernel
theorem dX10_fillPlaces_22 : decode cX10_fillPlaces 22 = .ok (.iload_n 2, 1) := by decide +kernel
theorem dX10_fillPlaces_23 : decode cX10_fillPlaces 23 = .ok (.iload 4, 2) := by decide +kernel
theorem dX10_fillPlaces_25 : decode cX10_fillPlaces 25 = .ok (.ishr, 1) := by decide +kernel
theorem dX10_fillPlaces_26 : decode cX10_fillPlaces 26 = .ok (.iconst 1, 1) := by decide +kernel
theorem dX10_fillPlaces_27 : decode cX10_fillPlaces 27 = .ok (.iand, 1) := by decide +kernel
theorem dX10_fillPlaces_28 : decode cX10_fillPlaces 28 = .ok (.ifCond .ne 6, 3) := by decide +kernel
theorem dX10_fillPlaces_31 : decode cX10_fillPlaces 31 = .ok (.goto 80, 3) := by decide +kernel
theorem dX10_fillPlaces_34 : decode cX10_fillPlaces 34 = .ok (.aload_n 0, 1) := by decide +kernel
theorem dX10_fillPlaces_35 : decode cX10_fillPlaces 35 = .ok (.getfield 50, 3) := by decide +kernel
theorem dX10_fillPlaces_38 : decode cX10_fillPlaces 38 = .ok (.aload_n 0, 1) := by decide +kernel
theorem dX10_fillPlaces_39 : decode cX10_fillPlaces 39 = .ok (.getfield 46, 3) := by decide +kernel
theorem dX10_fillPlaces_42 : decode cX10_fillPlaces 42 = .ok (.invokevirtual 201, 3) := by decide +kernel
theorem dX10_fillPlaces_45 : decode cX10_fillPlaces 45 = .ok (.aload_n 0, 1) := by decide +kernel
theorem dX10_fillPlaces_46 : decode cX10_fillPlaces 46 = .ok (.getfield 50, 3) := by decide +kernel
theorem dX10_fillPlaces_49 : decode cX10_fillPlaces 49 = .ok (.getfield 160, 3) := by decide +kernel
theorem dX10_fillPlaces_52 : decode cX10_fillPlaces 52 = .ok (.iload_n 1, 1) := by decide +kernel
theorem dX10_fillPlaces_53 : decode cX10_fillPlaces 53 = .ok (.iload 4, 2) := by decide +kernel
theorem dX10_fillPlaces_55 : decode cX10_fillPlaces 55 = .ok (.iastore, 1) := by decide +kernel
theorem dX10_fillPlaces_56 : decode cX10_fillPlaces 56 = .ok (.iload_n 3, 1) := by decide +kernel
theorem dX10_fillPlaces_57 : decode cX10_fillPlaces 57 = .ok (.istore 5, 2) := by decide +kernel
theorem dX10_fillPlaces_59 : decode cX10_fillPlaces 59 = .ok (.iconst 0, 1) := by decide +kernel
theorem dX10_fillPlaces_60 : decode cX10_fillPlaces 60 = .ok (.istore 6, 2) := by decide +kernel
theorem dX10_fillPlaces_62 : decode cX10_fillPlaces 62 = .ok (.iload 6, 2) := by decide +kernel
theorem dX10_fillPlaces_64 : decode cX10_fillPlaces 64 = .ok (.bipush 20, 2) := by decide +kernel
theorem dX10_fillPlaces_66 : decode cX10_fillPlaces 66 = .ok (.if_icmp .gt 45, 3) := by decide +kernel
theorem dX10_fillPlaces_69 : decode cX10_fillPlaces 69 = .ok (.aload_n 0, 1) := by decide +kernel
theorem dX10_fillPlaces_70 : decode cX10_fillPlaces 70 = .ok (.getfield 101, 3) := by decide +kernel
theorem dX10_fillPlaces_73 : decode cX10_fillPlaces 73 = .ok (.iload 4, 2) := by decide +kernel
theorem dX10_fillPlaces_75 : decode cX10_fillPlaces 75 = .ok (.bipush 21, 2) := by decide +kernel
theorem dX10_fillPlaces_77 : decode cX10_fillPlaces 77 = .ok (.imul, 1) := by decide +kernel
theorem dX10_fillPlaces_78 : decode cX10_fillPlaces 78 = .ok (.iload 6, 2) := by decide +kernel
theorem dX10_fillPlaces_80 : decode cX10_fillPlaces 80 = .ok (.iadd, 1) := by decide +kernel
theorem dX10_fillPlaces_81 : decode cX10_fillPlaces 81 = .ok (.iload 5, 2) := by decide +kernel
theorem dX10_fillPlaces_83 : decode cX10_fillPlaces 83 = .ok (.iastore, 1) := by decide +kernel
theorem dX10_fillPlaces_84 : decode cX10_fillPlaces 84 = .ok (.iload 5, 2) := by decide +kernel
theorem dX10_fillPlaces_86 : decode cX10_fillPlaces 86 = .ok (.ifCond .eq 19, 3) := by decide +kernel
theorem dX10_fillPlaces_89 : decode cX10_fillPlaces 89 = .ok (.aload_n 0, 1) := by decide +kernel
theorem dX10_fillPlaces_90 : decode cX10_fillPlaces 90 = .ok (.aload_n 0, 1) := by decide +kernel
theorem dX10_fillPlaces_91 : decode cX10_fillPlaces 91 = .ok (.getfield 50, 3) := by decide +kernel
theorem dX10_fillPlaces_94 : decode cX10_fillPlaces 94 = .ok (.aload_n 0, 1) := by decide +kernel
theorem dX10_fillPlaces_95 : decode cX10_fillPlaces 95 = .ok (.getfield 36, 3) := by decide +kernel
theorem dX10_fillPlaces_98 : decode cX10_fillPlaces 98 = .ok (.iload 5, 2) := by decide +kernel
theorem dX10_fillPlaces_100 : decode cX10_fillPlaces 100 = .ok (.invokevirtual 303, 3) := by decide +kernel
theorem dX10_fillPlaces_103 : decode cX10_fillPlaces 103 = .ok (.istore 5, 2) := by decide +kernel
theorem dX10_fillPlaces_105 : decode cX10_fillPlaces 105 = .ok (.iinc 6 1, 3) := by decide +kernel
theorem dX10_fillPlaces_108 : decode cX10_fillPlaces 108 = .ok (.goto (-46), 3) := by decide +kernel
theorem dX10_fillPlaces_111 : decode cX10_fillPlaces 111 = .ok (.iinc 4 1, 3) := by decide +kernel
theorem dX10_fillPlaces_114 : decode cX10_fillPlaces 114 = .ok (.goto (-111), 3) := by decide +kernel
theorem dX10_fillPlaces_117 : decode cX10_fillPlaces 117 = .ok (.return_, 1) := by decide +kernel
theorem dX10_mostAtOnePlace_0 : decode cX10_mostAtOnePlace 0 = .ok (.iconst 0, 1) := by decide +kernel
theorem dX10_mostAtOnePlace_1 : decode cX10_mostAtOnePlace 1 = .ok (.istore_n 3, 1) := by decide +kernel
theorem dX10_mostAtOnePlace_2 : decode cX10_mostAtOnePlace 2 = .ok (.iconst 0, 1) := by decide +kernel
theorem dX10_mostAtOnePlace_3 : decode cX10_mostAtOnePlace 3 = .ok (.istore 4, 2) := by decide +kernel
theorem dX10_mostAtOnePlace_5 : decode cX10_mostAtOnePlace 5 = .ok (.iload 4, 2) := by decide +kernel
theorem dX10_mostAtOnePlace_7 : decode cX10_mostAtOnePlace 7 = .ok (.iconst 4, 1) := by decide +kernel
theorem dX10_mostAtOnePlace_8 : decode cX10_mostAtOnePlace 8 = .ok (.if_icmp .ge 96, 3) := by decide +kernel
theorem dX10_mostAtOnePlace_11 : decode cX10_mostAtOnePlace 11 = .ok (.iconst 0, 1) := by decide +kernel
theorem dX10_mostAtOnePlace_12 : decode cX10_mostAtOnePlace 12 = .ok (.istore 5, 2) := by decide +kernel
theorem dX10_mostAtOnePlace_14 : decode cX10_mostAtOnePlace 14 = .ok (.iconst 0, 1) := by decide +kernel
theorem dX10_mostAtOnePlace_15 : decode cX10_mostAtOnePlace 15 = .ok (.istore 6, 2) := by decide +kernel
theorem dX10_mostAtOnePlace_17 : decode cX10_mostAtOnePlace 17 = .ok (.iload 6, 2) := by decide +kernel
theorem dX10_mostAtOnePlace_19 : decode cX10_mostAtOnePlace 19 = .ok (.iconst 4, 1) := by decide +kernel
theorem dX10_mostAtOnePlace_20 : decode cX10_mostAtOnePlace 20 = .ok (.if_icmp .ge 71, 3) := by decide +kernel
theorem dX10_mostAtOnePlace_23 : decode cX10_mostAtOnePlace 23 = .ok (.iload_n 1, 1) := by decide +kernel
theorem dX10_mostAtOnePlace_24 : decode cX10_mostAtOnePlace 24 = .ok (.iload 4, 2) := by decide +kernel
theorem dX10_mostAtOnePlace_26 : decode cX10_mostAtOnePlace 26 = .ok (.ishr, 1) := by decide +kernel
theorem dX10_mostAtOnePlace_27 : decode cX10_mostAtOnePlace 27 = .ok (.iconst 1, 1) := by decide +kernel
theorem dX10_mostAtOnePlace_28 : decode cX10_mostAtOnePlace 28 = .ok (.iand, 1) := by decide +kernel
theorem dX10_mostAtOnePlace_29 : decode cX10_mostAtOnePlace 29 = .ok (.iconst 1, 1) := by decide +kernel
theorem dX10_mostAtOnePlace_30 : decode cX10_mostAtOnePlace 30 = .ok (.if_icmp .ne 17, 3) := by decide +kernel
theorem dX10_mostAtOnePlace_33 : decode cX10_mostAtOnePlace 33 = .ok (.iload_n 1, 1) := by decide +kernel
theorem dX10_mostAtOnePlace_34 : decode cX10_mostAtOnePlace 34 = .ok (.iload 6, 2) := by decide +kernel
theorem dX10_mostAtOnePlace_36 : decode cX10_mostAtOnePlace 36 = .ok (.ishr, 1) := by decide +kernel
theorem dX10_mostAtOnePlace_37 : decode cX10_mostAtOnePlace 37 = .ok (.iconst 1, 1) := by decide +kernel
theorem dX10_mostAtOnePlace_38 : decode cX10_mostAtOnePlace 38 = .ok (.iand, 1) := by decide +kernel
theorem dX10_mostAtOnePlace_39 : decode cX10_mostAtOnePlace 39 = .ok (.iconst 1, 1) := by decide +kernel
theorem dX10_mostAtOnePlace_40 : decode cX10_mostAtOnePlace 40 = .ok (.if_icmp .ne 7, 3) := by decide +kernel
theorem dX10_mostAtOnePlace_43 : decode cX10_mostAtOnePlace 43 = .ok (.iconst 1, 1) := by decide +kernel
theorem dX10_mostAtOnePlace_44 : decode cX10_mostAtOnePlace 44 = .ok (.goto 4, 3) := by decide +kernel
theorem dX10_mostAtOnePlace_47 : decode cX10_mostAtOnePlace 47 = .ok (.iconst 0, 1) := by decide +kernel
theorem dX10_mostAtOnePlace_48 : decode cX10_mostAtOnePlace 48 = .ok (.istore 7, 2) := by decide +kernel
theorem dX10_mostAtOnePlace_50 : decode cX10_mostAtOnePlace 50 = .ok (.iload 7, 2) := by decide +kernel
theorem dX10_mostAtOnePlace_52 : decode cX10_mostAtOnePlace 52 = .ok (.ifCond .eq 33, 3) := by decide +kernel
theorem dX10_mostAtOnePlace_55 : decode cX10_mostAtOnePlace 55 = .ok (.aload_n 0, 1) := by decide +kernel
theorem dX10_mostAtOnePlace_56 : decode cX10_mostAtOnePlace 56 = .ok (.getfield 101, 3) := by decide +kernel
theorem dX10_mostAtOnePlace_59 : decode cX10_mostAtOnePlace 59 = .ok (.iload 4, 2) := by decide +kernel
theorem dX10_mostAtOnePlace_61 : decode cX10_mostAtOnePlace 61 = .ok (.bipush 21, 2) := by decide +kernel
theorem dX10_mostAtOnePlace_63 : decode cX10_mostAtOnePlace 63 = .ok (.imul, 1) := by decide +kernel
theorem dX10_mostAtOnePlace_64 : decode cX10_mostAtOnePlace 64 = .ok (.iload_n 2, 1) := by decide +kernel
theorem dX10_mostAtOnePlace_65 : decode cX10_mostAtOnePlace 65 = .ok (.iadd, 1) := by decide +kernel
theorem dX10_mostAtOnePlace_66 : decode cX10_mostAtOnePlace 66 = .ok (.iaload, 1) := by decide +kernel
theorem dX10_mostAtOnePlace_67 : decode cX10_mostAtOnePlace 67 = .ok (.aload_n 0, 1) := by decide +kernel
theorem dX10_mostAtOnePlace_68 : decode cX10_mostAtOnePlace 68 = .ok (.getfield 101, 3) := by decide +kernel
theorem dX10_mostAtOnePlace_71 : decode cX10_mostAtOnePlace 71 = .ok (.iload 6, 2) := by decide +kernel
theorem dX10_mostAtOnePlace_73 : decode cX10_mostAtOnePlace 73 = .ok (.bipush 21, 2) := by decide +kernel
theorem dX10_mostAtOnePlace_75 : decode cX10_mostAtOnePlace 75 = .ok (.imul, 1) := by decide +kernel
theorem dX10_mostAtOnePlace_76 : decode cX10_mostAtOnePlace 76 = .ok (.iload_n 2, 1) := by decide +kernel
theorem dX10_mostAtOnePlace_77 : decode cX10_mostAtOnePlace 77 = .ok (.iadd, 1) := by decide +kernel
theorem dX10_mostAtOnePlace_78 : decode cX10_mostAtOnePlace 78 = .ok (.iaload, 1) := by decide +kernel
theorem dX10_mostAtOnePlace_79 : decode cX10_mostAtOnePlace 79 = .ok (.if_icmp .ne 6, 3) := by decide +kernel
theorem dX10_mostAtOnePlace_82 : decode cX10_mostAtOnePlace 82 = .ok (.iinc 5 1, 3) := by decide +kernel
theorem dX10_mostAtOnePlace_85 : decode cX10_mostAtOnePlace 85 = .ok (.iinc 6 1, 3) := by decide +kernel
theorem dX10_mostAtOnePlace_88 : decode cX10_mostAtOnePlace 88 = .ok (.goto (-71), 3) := by decide +kernel
theorem dX10_mostAtOnePlace_91 : decode cX10_mostAtOnePlace 91 = .ok (.iload_n 3, 1) := by decide +kernel
theorem dX10_mostAtOnePlace_92 : decode cX10_mostAtOnePlace 92 = .ok (.iload 5, 2) := by decide +kernel
theorem dX10_mostAtOnePlace_94 : decode cX10_mostAtOnePlace 94 = .ok (.invokestatic 198, 3) := by decide +kernel
theorem dX10_mostAtOnePlace_97 : decode cX10_mostAtOnePlace 97 = .ok (.istore_n 3, 1) := by decide +kernel
theorem dX10_mostAtOnePlace_98 : decode cX10_mostAtOnePlace 98 = .ok (.iinc 4 1, 3) := by decide +kernel
theorem dX10_mostAtOnePlace_101 : decode cX10_mostAtOnePlace 101 = .ok (.goto (-96), 3) := by decide +kernel
theorem dX10_mostAtOnePlace_104 : decode cX10_mostAtOnePlace 104 = .ok (.iload_n 3, 1) := by decide +kernel
theorem dX10_mostAtOnePlace_105 : decode cX10_mostAtOnePlace 105 = .ok (.ireturn, 1) := by decide +kernel
theorem dX10_heard_0 : decode cX10_heard 0 = .ok (.iload_n 1, 1) := by decide +kernel
theorem dX10_heard_1 : decode cX10_heard 1 = .ok (.iload_n 2, 1) := by decide +kernel
theorem dX10_heard_2 : decode cX10_heard 2 = .ok (.invokestatic 419, 3) := by decide +kernel
theorem dX10_heard_5 : decode cX10_heard 5 = .ok (.ifCond .ne 5, 3) := by decide +kernel
theorem dX10_heard_8 : decode cX10_heard 8 = .ok (.iconst (-1), 1) := by decide +kernel
theorem dX10_heard_9 : decode cX10_heard 9 = .ok (.ireturn, 1) := by decide +kernel
theorem dX10_heard_10 : decode cX10_heard 10 = .ok (.aload_n 0, 1) := by decide +kernel
theorem dX10_heard_11 : decode cX10_heard 11 = .ok (.getfield 87, 3) := by decide +kernel
theorem dX10_heard_14 : decode cX10_heard 14 = .ok (.iload_n 1, 1) := by decide +kernel
theorem dX10_heard_15 : decode cX10_heard 15 = .ok (.iload_n 2, 1) := by decide +kernel
theorem dX10_heard_16 : decode cX10_heard 16 = .ok (.invokevirtual 422, 3) := by decide +kernel
theorem dX10_heard_19 : decode cX10_heard 19 = .ok (.ifCond .eq 13, 3) := by decide +kernel
theorem dX10_heard_22 : decode cX10_heard 22 = .ok (.aload_n 0, 1) := by decide +kernel
theorem dX10_heard_23 : decode cX10_heard 23 = .ok (.getfield 87, 3) := by decide +kernel
theorem dX10_heard_26 : decode cX10_heard 26 = .ok (.invokevirtual 424, 3) := by decide +kernel
theorem dX10_heard_29 : decode cX10_heard 29 = .ok (.goto 4, 3) := by decide +kernel
theorem dX10_heard_32 : decode cX10_heard 32 = .ok (.iconst (-1), 1) := by decide +kernel
theorem dX10_heard_33 : decode cX10_heard 33 = .ok (.ireturn, 1) := by decide +kernel
theorem dX10_denies_0 : decode cX10_denies 0 = .ok (.aload_n 0, 1) := by decide +kernel
theorem dX10_denies_1 : decode cX10_denies 1 = .ok (.getfield 87, 3) := by decide +kernel
theorem dX10_denies_4 : decode cX10_denies 4 = .ok (.invokevirtual 424, 3) := by decide +kernel
theorem dX10_denies_7 : decode cX10_denies 7 = .ok (.istore_n 1, 1) := by decide +kernel
theorem dX10_denies_8 : decode cX10_denies 8 = .ok (.aload_n 0, 1) := by decide +kernel
theorem dX10_denies_9 : decode cX10_denies 9 = .ok (.getfield 87, 3) := by decide +kernel
theorem dX10_denies_12 : decode cX10_denies 12 = .ok (.invokevirtual 140, 3) := by decide +kernel
theorem dX10_denies_15 : decode cX10_denies 15 = .ok (.iload_n 1, 1) := by decide +kernel
theorem dX10_denies_16 : decode cX10_denies 16 = .ok (.ireturn, 1) := by decide +kernel
theorem dX10_fits_0 : decode cX10_fits 0 = .ok (.aload_n 0, 1) := by decide +kernel
theorem dX10_fits_1 : decode cX10_fits 1 = .ok (.invokevirtual 425, 3) := by decide +kernel
theorem dX10_fits_4 : decode cX10_fits 4 = .ok (.istore_n 1, 1) := by decide +kernel
theorem dX10_fits_5 : decode cX10_fits 5 = .ok (.aload_n 0, 1) := by decide +kernel
theorem dX10_fits_6 : decode cX10_fits 6 = .ok (.getfield 19, 3) := by decide +kernel
theorem dX10_fits_9 : decode cX10_fits 9 = .ok (.iload_n 1, 1) := by decide +kernel
theorem dX10_fits_10 : decode cX10_fits 10 = .ok (.invokestatic 316, 3) := by decide +kernel
theorem dX10_fits_13 : decode cX10_fits 13 = .ok (.i2l, 1) := by decide +kernel
theorem dX10_fits_14 : decode cX10_fits 14 = .ok (.invokevirtual 258, 3) := by decide +kernel
theorem dX10_fits_17 : decode cX10_fits 17 = .ok (.iload_n 1, 1) := by decide +kernel
theorem dX10_fits_18 : decode cX10_fits 18 = .ok (.ireturn, 1) := by decide +kernel
theorem dX10_asks_0 : decode cX10_asks 0 = .ok (.aload_n 0, 1) := by decide +kernel
theorem dX10_asks_1 : decode cX10_asks 1 = .ok (.invokevirtual 425, 3) := by decide +kernel
theorem dX10_asks_4 : decode cX10_asks 4 = .ok (.istore_n 1, 1) := by decide +kernel
theorem dX10_asks_5 : decode cX10_asks 5 = .ok (.iload_n 1, 1) := by decide +kernel
theorem dX10_asks_6 : decode cX10_asks 6 = .ok (.ifCond .ne 6, 3) := by decide +kernel
theorem dX10_asks_9 : decode cX10_asks 9 = .ok (.bipush (-2), 2) := by decide +kernel
theorem dX10_asks_11 : decode cX10_asks 11 = .ok (.ireturn, 1) := by decide +kernel
theorem dX10_asks_12 : decode cX10_asks 12 = .ok (.iload_n 1, 1) := by decide +kernel
theorem dX10_asks_13 : decode cX10_asks 13 = .ok (.invokestatic 316, 3) := by decide +kernel
theorem dX10_asks_16 : decode cX10_asks 16 = .ok (.istore_n 2, 1) := by decide +kernel
theorem dX10_asks_17 : decode cX10_asks 17 = .ok (.iconst 0, 1) := by decide +kernel
theorem dX10_asks_18 : decode cX10_asks 18 = .ok (.istore_n 3, 1) := by decide +kernel
theorem dX10_asks_19 : decode cX10_asks 19 = .ok (.bipush 8, 2) := by decide +kernel
theorem dX10_asks_21 : decode cX10_asks 21 = .ok (.istore 4, 2) := by decide +kernel
theorem dX10_asks_23 : decode cX10_asks 23 = .ok (.iconst 0, 1) := by decide +kernel
theorem dX10_asks_24 : decode cX10_asks 24 = .ok (.istore 5, 2) := by decide +kernel
theorem dX10_asks_26 : decode cX10_asks 26 = .ok (.iload 5, 2) := by decide +kernel
theorem dX10_asks_28 : decode cX10_asks 28 = .ok (.bipush 40, 2) := by decide +kernel
theorem dX10_asks_30 : decode cX10_asks 30 = .ok (.if_icmp .ge 76, 3) := by decide +kernel
theorem dX10_asks_33 : decode cX10_asks 33 = .ok (.iload 5, 2) := by decide +kernel
theorem dX10_asks_35 : decode cX10_asks 35 = .ok (.bipush 10, 2) := by decide +kernel
theorem dX10_asks_37 : decode cX10_asks 37 = .ok (.idiv, 1) := by decide +kernel
theorem dX10_asks_38 : decode cX10_asks 38 = .ok (.istore 6, 2) := by decide +kernel
theorem dX10_asks_40 : decode cX10_asks 40 = .ok (.iload 5, 2) := by decide +kernel
theorem dX10_asks_42 : decode cX10_asks 42 = .ok (.bipush 10, 2) := by decide +kernel
theorem dX10_asks_44 : decode cX10_asks 44 = .ok (.irem, 1) := by decide +kernel
theorem dX10_asks_45 : decode cX10_asks 45 = .ok (.istore 7, 2) := by decide +kernel
theorem dX10_asks_47 : decode cX10_asks 47 = .ok (.iload 6, 2) := by decide +kernel
theorem dX10_asks_49 : decode cX10_asks 49 = .ok (.iload 7, 2) := by decide +kernel
theorem dX10_asks_51 : decode cX10_asks 51 = .ok (.invokestatic 419, 3) := by decide +kernel
theorem dX10_asks_54 : decode cX10_asks 54 = .ok (.ifCond .ne 6, 3) := by decide +kernel
theorem dX10_asks_57 : decode cX10_asks 57 = .ok (.goto 43, 3) := by decide +kernel
theorem dX10_asks_60 : decode cX10_asks 60 = .ok (.iload_n 1, 1) := by decide +kernel
theorem dX10_asks_61 : decode cX10_asks 61 = .ok (.aload_n 0, 1) := by decide +kernel
theorem dX10_asks_62 : decode cX10_asks 62 = .ok (.iload 6, 2) := by decide +kernel
theorem dX10_asks_64 : decode cX10_asks 64 = .ok (.iload 7, 2) := by decide +kernel
theorem dX10_asks_66 : decode cX10_asks 66 = .ok (.invokevirtual 428, 3) := by decide +kernel
theorem dX10_asks_69 : decode cX10_asks 69 = .ok (.iand, 1) := by decide +kernel
theorem dX10_asks_70 : decode cX10_asks 70 = .ok (.invokestatic 316, 3) := by decide +kernel
theorem dX10_asks_73 : decode cX10_asks 73 = .ok (.istore 8, 2) := by decide +kernel
theorem dX10_asks_75 : decode cX10_asks 75 = .ok (.iload 8, 2) := by decide +kernel
theorem dX10_asks_77 : decode cX10_asks 77 = .ok (.iload_n 2, 1) := by decide +kernel
theorem dX10_asks_78 : decode cX10_asks 78 = .ok (.iload 8, 2) := by decide +kernel
theorem dX10_asks_80 : decode cX10_asks 80 = .ok (.isub, 1) := by decide +kernel
theorem dX10_asks_81 : decode cX10_asks 81 = .ok (.invokestatic 198, 3) := by decide +kernel
theorem dX10_asks_84 : decode cX10_asks 84 = .ok (.istore 9, 2) := by decide +kernel
theorem dX10_asks_86 : decode cX10_asks 86 = .ok (.iload 9, 2) := by decide +kernel
theorem dX10_asks_88 : decode cX10_asks 88 = .ok (.iload 4, 2) := by decide +kernel
theorem dX10_asks_90 : decode cX10_asks 90 = .ok (.if_icmp .ge 10, 3) := by decide +kernel
theorem dX10_asks_93 : decode cX10_asks 93 = .ok (.iload 9, 2) := by decide +kernel
theorem dX10_asks_95 : decode cX10_asks 95 = .ok (.istore 4, 2) := by decide +kernel
theorem dX10_asks_97 : decode cX10_asks 97 = .ok (.iload 5, 2) := by decide +kernel
theorem dX10_asks_99 : decode cX10_asks 99 = .ok (.istore_n 3, 1) := by decide +kernel
theorem dX10_asks_100 : decode cX10_asks 100 = .ok (.iinc 5 1, 3) := by decide +kernel
theorem dX10_asks_103 : decode cX10_asks 103 = .ok (.goto (-77), 3) := by decide +kernel
theorem dX10_asks_106 : decode cX10_asks 106 = .ok (.aload_n 0, 1) := by decide +kernel
theorem dX10_asks_107 : decode cX10_asks 107 = .ok (.getfield 19, 3) := by decide +kernel
theorem dX10_asks_110 : decode cX10_asks 110 = .ok (.iload 4, 2) := by decide +kernel
theorem dX10_asks_112 : decode cX10_asks 112 = .ok (.i2l, 1) := by decide +kernel
theorem dX10_asks_113 : decode cX10_asks 113 = .ok (.invokevirtual 258, 3) := by decide +kernel
theorem dX10_asks_116 : decode cX10_asks 116 = .ok (.iload_n 3, 1) := by decide +kernel
theorem dX10_asks_117 : decode cX10_asks 117 = .ok (.ireturn, 1) := by decide +kernel
theorem dX10_fittingCrossings_0 : decode cX10_fittingCrossings 0 = .ok (.iconst 1, 1) := by decide +kernel
theorem dX10_fittingCrossings_1 : decode cX10_fittingCrossings 1 = .ok (.aload_n 0, 1) := by decide +kernel
theorem dX10_fittingCrossings_2 : decode cX10_fittingCrossings 2 = .ok (.getfield 26, 3) := by decide +kernel
theorem dX10_fittingCrossings_5 : decode cX10_fittingCrossings 5 = .ok (.invokevirtual 275, 3) := by decide +kernel
theorem dX10_fittingCrossings_8 : decode cX10_fittingCrossings 8 = .ok (.ishl, 1) := by decide +kernel
theorem dX10_fittingCrossings_9 : decode cX10_fittingCrossings 9 = .ok (.iconst 2, 1) := by decide +kernel
theorem dX10_fittingCrossings_10 : decode cX10_fittingCrossings 10 = .ok (.isub, 1) := by decide +kernel
theorem dX10_fittingCrossings_11 : decode cX10_fittingCrossings 11 = .ok (.istore_n 1, 1) := by decide +kernel
theorem dX10_fittingCrossings_12 : decode cX10_fittingCrossings 12 = .ok (.iconst 0, 1) := by decide +kernel
theorem dX10_fittingCrossings_13 : decode cX10_fittingCrossings 13 = .ok (.istore_n 2, 1) := by decide +kernel
theorem dX10_fittingCrossings_14 : decode cX10_fittingCrossings 14 = .ok (.iload_n 2, 1) := by decide +kernel
theorem dX10_fittingCrossings_15 : decode cX10_fittingCrossings 15 = .ok (.aload_n 0, 1) := by decide +kernel
theorem dX10_fittingCrossings_16 : decode cX10_fittingCrossings 16 = .ok (.getfield 87, 3) := by decide +kernel
theorem dX10_fittingCrossings_19 : decode cX10_fittingCrossings 19 = .ok (.invokevirtual 424, 3) := by decide +kernel
theorem dX10_fittingCrossings_22 : decode cX10_fittingCrossings 22 = .ok (.if_icmp .ge 32, 3) := by decide +kernel
theorem dX10_fittingCrossings_25 : decode cX10_fittingCrossings 25 = .ok (.iload_n 1, 1) := by decide +kernel
theorem dX10_fittingCrossings_26 : decode cX10_fittingCrossings 26 = .ok (.aload_n 0, 1) := by decide +kernel
theorem dX10_fittingCrossings_27 : decode cX10_fittingCrossings 27 = .ok (.aload_n 0, 1) := by decide +kernel
theorem dX10_fittingCrossings_28 : decode cX10_fittingCrossings 28 = .ok (.getfield 87, 3) := by decide +kernel
theorem dX10_fittingCrossings_31 : decode cX10_fittingCrossings 31 = .ok (.iload_n 2, 1) := by decide +kernel
theorem dX10_fittingCrossings_32 : decode cX10_fittingCrossings 32 = .ok (.invokevirtual 431, 3) := by decide +kernel
theorem dX10_fittingCrossings_35 : decode cX10_fittingCrossings 35 = .ok (.aload_n 0, 1) := by decide +kernel
theorem dX10_fittingCrossings_36 : decode cX10_fittingCrossings 36 = .ok (.getfield 87, 3) := by decide +kernel
theorem dX10_fittingCrossings_39 : decode cX10_fittingCrossings 39 = .ok (.iload_n 2, 1) := by decide +kernel
theorem dX10_fittingCrossings_40 : decode cX10_fittingCrossings 40 = .ok (.invokevirtual 434, 3) := by decide +kernel
theorem dX10_fittingCrossings_43 : decode cX10_fittingCrossings 43 = .ok (.invokevirtual 428, 3) := by decide +kernel
theorem dX10_fittingCrossings_46 : decode cX10_fittingCrossings 46 = .ok (.iand, 1) := by decide +kernel
theorem dX10_fittingCrossings_47 : decode cX10_fittingCrossings 47 = .ok (.istore_n 1, 1) := by decide +kernel
theorem dX10_fittingCrossings_48 : decode cX10_fittingCrossings 48 = .ok (.iinc 2 1, 3) := by decide +kernel
theorem dX10_fittingCrossings_51 : decode cX10_fittingCrossings 51 = .ok (.goto (-37), 3) := by decide +kernel
theorem dX10_fittingCrossings_54 : decode cX10_fittingCrossings 54 = .ok (.iload_n 1, 1) := by decide +kernel
theorem dX10_fittingCrossings_55 : decode cX10_fittingCrossings 55 = .ok (.ireturn, 1) := by decide +kernel
theorem dX10_crossingsOf_0 : decode cX10_crossingsOf 0 = .ok (.iconst 0, 1) := by decide +kernel
theorem dX10_crossingsOf_1 : decode cX10_crossingsOf 1 = .ok (.istore_n 3, 1) := by decide +kernel
theorem dX10_crossingsOf_2 : decode cX10_crossingsOf 2 = .ok (.iconst 1, 1) := by decide +kernel
theorem dX10_crossingsOf_3 : decode cX10_crossingsOf 3 = .ok (.istore 4, 2) := by decide +kernel
theorem dX10_crossingsOf_5 : decode cX10_crossingsOf 5 = .ok (.iload 4, 2) := by decide +kernel
theorem dX10_crossingsOf_7 : decode cX10_crossingsOf 7 = .ok (.aload_n 0, 1) := by decide +kernel
theorem dX10_crossingsOf_8 : decode cX10_crossingsOf 8 = .ok (.getfield 26, 3) := by decide +kernel
theorem dX10_crossingsOf_11 : decode cX10_crossingsOf 11 = .ok (.invokevirtual 275, 3) := by decide +kernel
theorem dX10_crossingsOf_14 : decode cX10_crossingsOf 14 = .ok (.if_icmp .ge 27, 3) := by decide +kernel
theorem dX10_crossingsOf_17 : decode cX10_crossingsOf 17 = .ok (.aload_n 0, 1) := by decide +kernel
theorem dX10_crossingsOf_18 : decode cX10_crossingsOf 18 = .ok (.iload 4, 2) := by decide +kernel
theorem dX10_crossingsOf_20 : decode cX10_crossingsOf 20 = .ok (.iload_n 1, 1) := by decide +kernel
theorem dX10_crossingsOf_21 : decode cX10_crossingsOf 21 = .ok (.iload_n 2, 1) := by decide +kernel
theorem dX10_crossingsOf_22 : decode cX10_crossingsOf 22 = .ok (.invokevirtual 437, 3) := by decide +kernel
theorem dX10_crossingsOf_25 : decode cX10_crossingsOf 25 = .ok (.ifCond .eq 10, 3) := by decide +kernel
theorem dX10_crossingsOf_28 : decode cX10_crossingsOf 28 = .ok (.iload_n 3, 1) := by decide +kernel
theorem dX10_crossingsOf_29 : decode cX10_crossingsOf 29 = .ok (.iconst 1, 1) := by decide +kernel
theorem dX10_crossingsOf_30 : decode cX10_crossingsOf 30 = .ok (.iload 4, 2) := by decide +kernel
theorem dX10_crossingsOf_32 : decode cX10_crossingsOf 32 = .ok (.ishl, 1) := by decide +kernel
theorem dX10_crossingsOf_33 : decode cX10_crossingsOf 33 = .ok (.ior, 1) := by decide +kernel
theorem dX10_crossingsOf_34 : decode cX10_crossingsOf 34 = .ok (.istore_n 3, 1) := by decide +kernel
theorem dX10_crossingsOf_35 : decode cX10_crossingsOf 35 = .ok (.iinc 4 1, 3) := by decide +kernel
theorem dX10_crossingsOf_38 : decode cX10_crossingsOf 38 = .ok (.goto (-33), 3) := by decide +kernel
theorem dX10_crossingsOf_41 : decode cX10_crossingsOf 41 = .ok (.iload_n 3, 1) := by decide +kernel
theorem dX10_crossingsOf_42 : decode cX10_crossingsOf 42 = .ok (.ireturn, 1) := by decide +kernel
theorem dX10_isSo_0 : decode cX10_isSo 0 = .ok (.aload_n 0, 1) := by decide +kernel
theorem dX10_isSo_1 : decode cX10_isSo 1 = .ok (.getfield 26, 3) := by decide +kernel
theorem dX10_isSo_4 : decode cX10_isSo 4 = .ok (.iload_n 1, 1) := by decide +kernel
theorem dX10_isSo_5 : decode cX10_isSo 5 = .ok (.invokevirtual 176, 3) := by decide +kernel
theorem dX10_isSo_8 : decode cX10_isSo 8 = .ok (.ifCond .ne 5, 3) := by decide +kernel
theorem dX10_isSo_11 : decode cX10_isSo 11 = .ok (.iconst 0, 1) := by decide +kernel
theorem dX10_isSo_12 : decode cX10_isSo 12 = .ok (.ireturn, 1) := by decide +kernel
theorem dX10_isSo_13 : decode cX10_isSo 13 = .ok (.iload_n 2, 1) := by decide +kernel
theorem dX10_isSo_14 : decode cX10_isSo 14 = .ok (.tableswitch 90 0 2 #[26, 44, 63], 26) := by decide +kernel
theorem dX10_isSo_40 : decode cX10_isSo 40 = .ok (.aload_n 0, 1) := by decide +kernel
theorem dX10_isSo_41 : decode cX10_isSo 41 = .ok (.getfield 26, 3) := by decide +kernel
theorem dX10_isSo_44 : decode cX10_isSo 44 = .ok (.iload_n 1, 1) := by decide +kernel
theorem dX10_isSo_45 : decode cX10_isSo 45 = .ok (.invokevirtual 156, 3) := by decide +kernel
theorem dX10_isSo_48 : decode cX10_isSo 48 = .ok (.iload_n 3, 1) := by decide +kernel
theorem dX10_isSo_49 : decode cX10_isSo 49 = .ok (.if_icmp .ne 7, 3) := by decide +kernel
theorem dX10_isSo_52 : decode cX10_isSo 52 = .ok (.iconst 1, 1) := by decide +kernel
theorem dX10_isSo_53 : decode cX10_isSo 53 = .ok (.goto 4, 3) := by decide +kernel
theorem dX10_isSo_56 : decode cX10_isSo 56 = .ok (.iconst 0, 1) := by decide +kernel
theorem dX10_isSo_57 : decode cX10_isSo 57 = .ok (.ireturn, 1) := by decide +kernel
theorem dX10_isSo_58 : decode cX10_isSo 58 = .ok (.aload_n 0, 1) := by decide +kernel
theorem dX10_isSo_59 : decode cX10_isSo 59 = .ok (.getfield 46, 3) := by decide +kernel
theorem dX10_isSo_62 : decode cX10_isSo 62 = .ok (.getfield 167, 3) := by decide +kernel
theorem dX10_isSo_65 : decode cX10_isSo 65 = .ok (.iload_n 1, 1) := by decide +kernel
theorem dX10_isSo_66 : decode cX10_isSo 66 = .ok (.iaload, 1) := by decide +kernel
theorem dX10_isSo_67 : decode cX10_isSo 67 = .ok (.iload_n 3, 1) := by decide +kernel
theorem dX10_isSo_68 : decode cX10_isSo 68 = .ok (.if_icmp .lt 7, 3) := by decide +kernel
theorem dX10_isSo_71 : decode cX10_isSo 71 = .ok (.iconst 1, 1) := by decide +kernel
theorem dX10_isSo_72 : decode cX10_isSo 72 = .ok (.goto 4, 3) := by decide +kernel
theorem dX10_isSo_75 : decode cX10_isSo 75 = .ok (.iconst 0, 1) := by decide +kernel
theorem dX10_isSo_76 : decode cX10_isSo 76 = .ok (.ireturn, 1) := by decide +kernel
theorem dX10_isSo_77 : decode cX10_isSo 77 = .ok (.aload_n 0, 1) := by decide +kernel
theorem dX10_isSo_78 : decode cX10_isSo 78 = .ok (.getfield 26, 3) := by decide +kernel
theorem dX10_isSo_81 : decode cX10_isSo 81 = .ok (.iload_n 1, 1) := by decide +kernel
theorem dX10_isSo_82 : decode cX10_isSo 82 = .ok (.aload_n 0, 1) := by decide +kernel
theorem dX10_isSo_83 : decode cX10_isSo 83 = .ok (.getfield 46, 3) := by decide +kernel
theorem dX10_isSo_86 : decode cX10_isSo 86 = .ok (.getfield 160, 3) := by decide +kernel
theorem dX10_isSo_89 : decode cX10_isSo 89 = .ok (.iload_n 1, 1) := by decide +kernel
theorem dX10_isSo_90 : decode cX10_isSo 90 = .ok (.iaload, 1) := by decide +kernel
theorem dX10_isSo_91 : decode cX10_isSo 91 = .ok (.invokevirtual 163, 3) := by decide +kernel
theorem dX10_isSo_94 : decode cX10_isSo 94 = .ok (.iload_n 3, 1) := by decide +kernel
theorem dX10_isSo_95 : decode cX10_isSo 95 = .ok (.if_icmp .ne 7, 3) := by decide +kernel
theorem dX10_isSo_98 : decode cX10_isSo 98 = .ok (.iconst 1, 1) := by decide +kernel
theorem dX10_isSo_99 : decode cX10_isSo 99 = .ok (.goto 4, 3) := by decide +kernel
theorem dX10_isSo_102 : decode cX10_isSo 102 = .ok (.iconst 0, 1) := by decide +kernel
theorem dX10_isSo_103 : decode cX10_isSo 103 = .ok (.ireturn, 1) := by decide +kernel
theorem dX10_isSo_104 : decode cX10_isSo 104 = .ok (.aload_n 0, 1) := by decide +kernel
theorem dX10_isSo_105 : decode cX10_isSo 105 = .ok (.getfield 26, 3) := by decide +kernel
theorem dX10_isSo_108 : decode cX10_isSo 108 = .ok (.iload_n 1, 1) := by decide +kernel
theorem dX10_isSo_109 : decode cX10_isSo 109 = .ok (.invokevirtual 173, 3) := by decide +kernel
theorem dX10_isSo_112 : decode cX10_isSo 112 = .ok (.iload_n 3, 1) := by decide +kernel
theorem dX10_isSo_113 : decode cX10_isSo 113 = .ok (.if_icmp .ne 7, 3) := by decide +kernel
theorem dX10_isSo_116 : decode cX10_isSo 116 = .ok (.iconst 1, 1) := by decide +kernel
theorem dX10_isSo_117 : decode cX10_isSo 117 = .ok (.goto 4, 3) := by decide +kernel
theorem dX10_isSo_120 : decode cX10_isSo 120 = .ok (.iconst 0, 1) := by decide +kernel
theorem dX10_isSo_121 : decode cX10_isSo 121 = .ok (.ireturn, 1) := by decide +kernel
theorem dX10_crowds_0 : decode cX10_crowds 0 = .ok (.iload_n 1, 1) := by decide +kernel
theorem dX10_crowds_1 : decode cX10_crowds 1 = .ok (.ifCond .lt 19, 3) := by decide +kernel
theorem dX10_crowds_4 : decode cX10_crowds 4 = .ok (.iload_n 1, 1) := by decide +kernel
theorem dX10_crowds_5 : decode cX10_crowds 5 = .ok (.bipush 30, 2) := by decide +kernel
theorem dX10_crowds_7 : decode cX10_crowds 7 = .ok (.if_icmp .gt 13, 3) := by decide +kernel
theorem dX10_crowds_10 : decode cX10_crowds 10 = .ok (.iload_n 2, 1) := by decide +kernel
theorem dX10_crowds_11 : decode cX10_crowds 11 = .ok (.ifCond .lt 9, 3) := by decide +kernel
theorem dX10_crowds_14 : decode cX10_crowds 14 = .ok (.iload_n 2, 1) := by decide +kernel
theorem dX10_crowds_15 : decode cX10_crowds 15 = .ok (.bipush 30, 2) := by decide +kernel
theorem dX10_crowds_17 : decode cX10_crowds 17 = .ok (.if_icmp .le 5, 3) := by decide +kernel
theorem dX10_crowds_20 : decode cX10_crowds 20 = .ok (.iconst (-1), 1) := by decide +kernel
theorem dX10_crowds_21 : decode cX10_crowds 21 = .ok (.ireturn, 1) := by decide +kernel
theorem dX10_crowds_22 : decode cX10_crowds 22 = .ok (.aload_n 0, 1) := by decide +kernel
theorem dX10_crowds_23 : decode cX10_crowds 23 = .ok (.getfield 19, 3) := by decide +kernel
theorem dX10_crowds_26 : decode cX10_crowds 26 = .ok (.invokevirtual 342, 3) := by decide +kernel
theorem dX10_crowds_29 : decode cX10_crowds 29 = .ok (.aload_n 0, 1) := by decide +kernel
theorem dX10_crowds_30 : decode cX10_crowds 30 = .ok (.iload_n 1, 1) := by decide +kernel
theorem dX10_crowds_31 : decode cX10_crowds 31 = .ok (.iload_n 2, 1) := by decide +kernel
theorem dX10_crowds_32 : decode cX10_crowds 32 = .ok (.invokevirtual 440, 3) := by decide +kernel
theorem dX10_crowds_35 : decode cX10_crowds 35 = .ok (.ifCond .eq 5, 3) := by decide +kernel
theorem dX10_crowds_38 : decode cX10_crowds 38 = .ok (.iconst 0, 1) := by decide +kernel
theorem dX10_crowds_39 : decode cX10_crowds 39 = .ok (.ireturn, 1) := by decide +kernel
theorem dX10_crowds_40 : decode cX10_crowds 40 = .ok (.iconst 0, 1) := by decide +kernel
theorem dX10_crowds_41 : decode cX10_crowds 41 = .ok (.istore_n 3, 1) := by decide +kernel
theorem dX10_crowds_42 : decode cX10_crowds 42 = .ok (.iload_n 3, 1) := by decide +kernel
theorem dX10_crowds_43 : decode cX10_crowds 43 = .ok (.iload_n 1, 1) := by decide +kernel
theorem dX10_crowds_44 : decode cX10_crowds 44 = .ok (.if_icmp .gt 92, 3) := by decide +kernel
theorem dX10_crowds_47 : decode cX10_crowds 47 = .ok (.iconst 0, 1) := by decide +kernel
theorem dX10_crowds_48 : decode cX10_crowds 48 = .ok (.istore 4, 2) := by decide +kernel
theorem dX10_crowds_50 : decode cX10_crowds 50 = .ok (.iload 4, 2) := by decide +kernel
theorem dX10_crowds_52 : decode cX10_crowds 52 = .ok (.iload_n 2, 1) := by decide +kernel
theorem dX10_crowds_53 : decode cX10_crowds 53 = .ok (.if_icmp .gt 77, 3) := by decide +kernel
theorem dX10_crowds_56 : decode cX10_crowds 56 = .ok (.iload_n 3, 1) := by decide +kernel
theorem dX10_crowds_57 : decode cX10_crowds 57 = .ok (.ifCond .ne 16, 3) := by decide +kernel
theorem dX10_crowds_60 : decode cX10_crowds 60 = .ok (.iload 4, 2) := by decide +kernel
theorem dX10_crowds_62 : decode cX10_crowds 62 = .ok (.ifCond .le 7, 3) := by decide +kernel
theorem dX10_crowds_65 : decode cX10_crowds 65 = .ok (.iconst 1, 1) := by decide +kernel
theorem dX10_crowds_66 : decode cX10_crowds 66 = .ok (.goto 23, 3) := by decide +kernel
theorem dX10_crowds_69 : decode cX10_crowds 69 = .ok (.iconst 0, 1) := by decide +kernel
theorem dX10_crowds_70 : decode cX10_crowds 70 = .ok (.goto 19, 3) := by decide +kernel
theorem dX10_crowds_73 : decode cX10_crowds 73 = .ok (.iload 4, 2) := by decide +kernel
theorem dX10_crowds_75 : decode cX10_crowds 75 = .ok (.ifCond .eq 9, 3) := by decide +kernel
theorem dX10_crowds_78 : decode cX10_crowds 78 = .ok (.iload_n 3, 1) := by decide +kernel
theorem dX10_crowds_79 : decode cX10_crowds 79 = .ok (.iload 4, 2) := by decide +kernel
theorem dX10_crowds_81 : decode cX10_crowds 81 = .ok (.if_icmp .ne 7, 3) := by decide +kernel
theorem dX10_crowds_84 : decode cX10_crowds 84 = .ok (.iconst 1, 1) := by decide +kernel
theorem dX10_crowds_85 : decode cX10_crowds 85 = .ok (.goto 4, 3) := by decide +kernel
theorem dX10_crowds_88 : decode cX10_crowds 88 = .ok (.iconst 0, 1) := by decide +kernel
theorem dX10_crowds_89 : decode cX10_crowds 89 = .ok (.istore 5, 2) := by decide +kernel
theorem dX10_crowds_91 : decode cX10_crowds 91 = .ok (.iload 5, 2) := by decide +kernel
theorem dX10_crowds_93 : decode cX10_crowds 93 = .ok (.ifCond .eq 31, 3) := by decide +kernel
theorem dX10_crowds_96 : decode cX10_crowds 96 = .ok (.aload_n 0, 1) := by decide +kernel
theorem dX10_crowds_97 : decode cX10_crowds 97 = .ok (.iload_n 1, 1) := by decide +kernel
theorem dX10_crowds_98 : decode cX10_crowds 98 = .ok (.iload_n 3, 1) := by decide +kernel
theorem dX10_crowds_99 : decode cX10_crowds 99 = .ok (.isub, 1) := by decide +kernel
theorem dX10_crowds_100 : decode cX10_crowds 100 = .ok (.iload_n 2, 1) := by decide +kernel
theorem dX10_crowds_101 : decode cX10_crowds 101 = .ok (.iload 4, 2) := by decide +kernel
theorem dX10_crowds_103 : decode cX10_crowds 103 = .ok (.isub, 1) := by decide +kernel
theorem dX10_crowds_104 : decode cX10_crowds 104 = .ok (.invokevirtual 440, 3) := by decide +kernel
theorem dX10_crowds_107 : decode cX10_crowds 107 = .ok (.ifCond .eq 17, 3) := by decide +kernel
theorem dX10_crowds_110 : decode cX10_crowds 110 = .ok (.aload_n 0, 1) := by decide +kernel
theorem dX10_crowds_111 : decode cX10_crowds 111 = .ok (.getfield 19, 3) := by decide +kernel
theorem dX10_crowds_114 : decode cX10_crowds 114 = .ok (.iload_n 3, 1) := by decide +kernel
theorem dX10_crowds_115 : decode cX10_crowds 115 = .ok (.i2l, 1) := by decide +kernel
theorem dX10_crowds_116 : decode cX10_crowds 116 = .ok (.iload 4, 2) := by decide +kernel
theorem dX10_crowds_118 : decode cX10_crowds 118 = .ok (.i2l, 1) := by decide +kernel
theorem dX10_crowds_119 : decode cX10_crowds 119 = .ok (.invokevirtual 241, 3) := by decide +kernel
theorem dX10_crowds_122 : decode cX10_crowds 122 = .ok (.iconst 1, 1) := by decide +kernel
theorem dX10_crowds_123 : decode cX10_crowds 123 = .ok (.ireturn, 1) := by decide +kernel
theorem dX10_crowds_124 : decode cX10_crowds 124 = .ok (.iinc 4 1, 3) := by decide +kernel
theorem dX10_crowds_127 : decode cX10_crowds 127 = .ok (.goto (-77), 3) := by decide +kernel
theorem dX10_crowds_130 : decode cX10_crowds 130 = .ok (.iinc 3 1, 3) := by decide +kernel
theorem dX10_crowds_133 : decode cX10_crowds 133 = .ok (.goto (-91), 3) := by decide +kernel
theorem dX10_crowds_136 : decode cX10_crowds 136 = .ok (.iconst 0, 1) := by decide +kernel
theorem dX10_crowds_137 : decode cX10_crowds 137 = .ok (.ireturn, 1) := by decide +kernel
theorem dX10_isCold_0 : decode cX10_isCold 0 = .ok (.iload_n 1, 1) := by decide +kernel
theorem dX10_isCold_1 : decode cX10_isCold 1 = .ok (.ifCond .lt 26, 3) := by decide +kernel
theorem dX10_isCold_4 : decode cX10_isCold 4 = .ok (.iload_n 1, 1) := by decide +kernel
theorem dX10_isCold_5 : decode cX10_isCold 5 = .ok (.aload_n 0, 1) := by decide +kernel
theorem dX10_isCold_6 : decode cX10_isCold 6 = .ok (.getfield 104, 3) := by decide +kernel
theorem dX10_isCold_9 : decode cX10_isCold 9 = .ok (.arraylength, 1) := by decide +kernel
theorem dX10_isCold_10 : decode cX10_isCold 10 = .ok (.if_icmp .ge 17, 3) := by decide +kernel
theorem dX10_isCold_13 : decode cX10_isCold 13 = .ok (.aload_n 0, 1) := by decide +kernel
theorem dX10_isCold_14 : decode cX10_isCold 14 = .ok (.getfield 104, 3) := by decide +kernel
theorem dX10_isCold_17 : decode cX10_isCold 17 = .ok (.iload_n 1, 1) := by decide +kernel
theorem dX10_isCold_18 : decode cX10_isCold 18 = .ok (.iaload, 1) := by decide +kernel
theorem dX10_isCold_19 : decode cX10_isCold 19 = .ok (.iload_n 2, 1) := by decide +kernel
theorem dX10_isCold_20 : decode cX10_isCold 20 = .ok (.if_icmp .ne 7, 3) := by decide +kernel
theorem dX10_isCold_23 : decode cX10_isCold 23 = .ok (.iconst 1, 1) := by decide +kernel
theorem dX10_isCold_24 : decode cX10_isCold 24 = .ok (.goto 4, 3) := by decide +kernel
theorem dX10_isCold_27 : decode cX10_isCold 27 = .ok (.iconst 0, 1) := by decide +kernel
theorem dX10_isCold_28 : decode cX10_isCold 28 = .ok (.ireturn, 1) := by decide +kernel
theorem dX10_fillColdPartners_0 : decode cX10_fillColdPartners 0 = .ok (.iconst 0, 1) := by decide +kernel
theorem dX10_fillColdPartners_1 : decode cX10_fillColdPartners 1 = .ok (.istore_n 1, 1) := by decide +kernel
theorem dX10_fillColdPartners_2 : decode cX10_fillColdPartners 2 = .ok (.iload_n 1, 1) := by decide +kernel
theorem dX10_fillColdPartners_3 : decode cX10_fillColdPartners 3 = .ok (.aload_n 0, 1) := by decide +kernel
theorem dX10_fillColdPartners_4 : decode cX10_fillColdPartners 4 = .ok (.arraylength, 1) := by decide +kernel
theorem dX10_fillColdPartners_5 : decode cX10_fillColdPartners 5 = .ok (.if_icmp .ge 13, 3) := by decide +kernel
theorem dX10_fillColdPartners_8 : decode cX10_fillColdPartners 8 = .ok (.aload_n 0, 1) := by decide +kernel
theorem dX10_fillColdPartners_9 : decode cX10_fillColdPartners 9 = .ok (.iload_n 1, 1) := by decide +kernel
theorem dX10_fillColdPartners_10 : decode cX10_fillColdPartners 10 = .ok (.iconst (-1), 1) := by decide +kernel
theorem dX10_fillColdPartners_11 : decode cX10_fillColdPartners 11 = .ok (.iastore, 1) := by decide +kernel
theorem dX10_fillColdPartners_12 : decode cX10_fillColdPartners 12 = .ok (.iinc 1 1, 3) := by decide +kernel
theorem dX10_fillColdPartners_15 : decode cX10_fillColdPartners 15 = .ok (.goto (-13), 3) := by decide +kernel
theorem dX10_fillColdPartners_18 : decode cX10_fillColdPartners 18 = .ok (.iconst 0, 1) := by decide +kernel
theorem dX10_fillColdPartners_19 : decode cX10_fillColdPartners 19 = .ok (.istore_n 1, 1) := by decide +kernel
theorem dX10_fillColdPartners_20 : decode cX10_fillColdPartners 20 = .ok (.iconst 0, 1) := by decide +kernel
theorem dX10_fillColdPartners_21 : decode cX10_fillColdPartners 21 = .ok (.istore_n 2, 1) := by decide +kernel
theorem dX10_fillColdPartners_22 : decode cX10_fillColdPartners 22 = .ok (.iload_n 2, 1) := by decide +kernel
theorem dX10_fillColdPartners_23 : decode cX10_fillColdPartners 23 = .ok (.aload_n 0, 1) := by decide +kernel
theorem dX10_fillColdPartners_24 : decode cX10_fillColdPartners 24 = .ok (.arraylength, 1) := by decide +kernel
theorem dX10_fillColdPartners_25 : decode cX10_fillColdPartners 25 = .ok (.if_icmp .ge 40, 3) := by decide +kernel
theorem dX10_fillColdPartners_28 : decode cX10_fillColdPartners 28 = .ok (.aload_n 0, 1) := by decide +kernel
theorem dX10_fillColdPartners_29 : decode cX10_fillColdPartners 29 = .ok (.iload_n 2, 1) := by decide +kernel
theorem dX10_fillColdPartners_30 : decode cX10_fillColdPartners 30 = .ok (.iaload, 1) := by decide +kernel
theorem dX10_fillColdPartners_31 : decode cX10_fillColdPartners 31 = .ok (.iconst (-1), 1) := by decide +kernel
theorem dX10_fillColdPartners_32 : decode cX10_fillColdPartners 32 = .ok (.if_icmp .eq 6, 3) := by decide +kernel
theorem dX10_fillColdPartners_35 : decode cX10_fillColdPartners 35 = .ok (.goto 24, 3) := by decide +kernel
theorem dX10_fillColdPartners_38 : decode cX10_fillColdPartners 38 = .ok (.iload_n 2, 1) := by decide +kernel
theorem dX10_fillColdPartners_39 : decode cX10_fillColdPartners 39 = .ok (.iload_n 1, 1) := by decide +kernel
theorem dX10_fillColdPartners_40 : decode cX10_fillColdPartners 40 = .ok (.iadd, 1) := by decide +kernel
theorem dX10_fillColdPartners_41 : decode cX10_fillColdPartners 41 = .ok (.istore_n 3, 1) := by decide +kernel
theorem dX10_fillColdPartners_42 : decode cX10_fillColdPartners 42 = .ok (.aload_n 0, 1) := by decide +kernel
theorem dX10_fillColdPartners_43 : decode cX10_fillColdPartners 43 = .ok (.iload_n 2, 1) := by decide +kernel
theorem dX10_fillColdPartners_44 : decode cX10_fillColdPartners 44 = .ok (.iload_n 3, 1) := by decide +kernel
theorem dX10_fillColdPartners_45 : decode cX10_fillColdPartners 45 = .ok (.iastore, 1) := by decide +kernel
theorem dX10_fillColdPartners_46 : decode cX10_fillColdPartners 46 = .ok (.iload_n 3, 1) := by decide +kernel
theorem dX10_fillColdPartners_47 : decode cX10_fillColdPartners 47 = .ok (.aload_n 0, 1) := by decide +kernel
theorem dX10_fillColdPartners_48 : decode cX10_fillColdPartners 48 = .ok (.arraylength, 1) := by decide +kernel
theorem dX10_fillColdPartners_49 : decode cX10_fillColdPartners 49 = .ok (.if_icmp .ge 7, 3) := by decide +kernel
theorem dX10_fillColdPartners_52 : decode cX10_fillColdPartners 52 = .ok (.aload_n 0, 1) := by decide +kernel
theorem dX10_fillColdPartners_53 : decode cX10_fillColdPartners 53 = .ok (.iload_n 3, 1) := by decide +kernel
theorem dX10_fillColdPartners_54 : decode cX10_fillColdPartners 54 = .ok (.iload_n 2, 1) := by decide +kernel
theorem dX10_fillColdPartners_55 : decode cX10_fillColdPartners 55 = .ok (.iastore, 1) := by decide +kernel
theorem dX10_fillColdPartners_56 : decode cX10_fillColdPartners 56 = .ok (.iinc 1 1, 3) := by decide +kernel
theorem dX10_fillColdPartners_59 : decode cX10_fillColdPartners 59 = .ok (.iinc 2 1, 3) := by decide +kernel
theorem dX10_fillColdPartners_62 : decode cX10_fillColdPartners 62 = .ok (.goto (-40), 3) := by decide +kernel
theorem dX10_fillColdPartners_65 : decode cX10_fillColdPartners 65 = .ok (.return_, 1) := by decide +kernel
theorem dX10_law_0 : decode cX10_law 0 = .ok (.aload_n 0, 1) := by decide +kernel
theorem dX10_law_1 : decode cX10_law 1 = .ok (.getfield 40, 3) := by decide +kernel
theorem dX10_law_4 : decode cX10_law 4 = .ok (.aload_n 0, 1) := by decide +kernel
theorem dX10_law_5 : decode cX10_law 5 = .ok (.getfield 12, 3) := by decide +kernel
theorem dX10_law_8 : decode cX10_law 8 = .ok (.invokevirtual 141, 3) := by decide +kernel
theorem dX10_law_11 : decode cX10_law 11 = .ok (.istore_n 1, 1) := by decide +kernel
theorem dX10_law_12 : decode cX10_law 12 = .ok (.aload_n 0, 1) := by decide +kernel
theorem dX10_law_13 : decode cX10_law 13 = .ok (.getfield 12, 3) := by decide +kernel
theorem dX10_law_16 : decode cX10_law 16 = .ok (.iconst 0, 1) := by decide +kernel
theorem dX10_law_17 : decode cX10_law 17 = .ok (.invokevirtual 122, 3) := by decide +kernel
theorem dX10_law_20 : decode cX10_law 20 = .ok (.iload_n 1, 1) := by decide +kernel
theorem dX10_law_21 : decode cX10_law 21 = .ok (.ifCond .ge 9, 3) := by decide +kernel
theorem dX10_law_24 : decode cX10_law 24 = .ok (.iload_n 1, 1) := by decide +kernel
theorem dX10_law_25 : decode cX10_law 25 = .ok (.sipush 9999, 3) := by decide +kernel
theorem dX10_law_28 : decode cX10_law 28 = .ok (.isub, 1) := by decide +kernel
theorem dX10_law_29 : decode cX10_law 29 = .ok (.ireturn, 1) := by decide +kernel
theorem dX10_law_30 : decode cX10_law 30 = .ok (.aload_n 0, 1) := by decide +kernel
theorem dX10_law_31 : decode cX10_law 31 = .ok (.getfield 26, 3) := by decide +kernel
theorem dX10_law_34 : decode cX10_law 34 = .ok (.invokevirtual 275, 3) := by decide +kernel
theorem dX10_law_37 : decode cX10_law 37 = .ok (.iconst 1, 1) := by decide +kernel
theorem dX10_law_38 : decode cX10_law 38 = .ok (.isub, 1) := by decide +kernel
theorem dX10_law_39 : decode cX10_law 39 = .ok (.istore_n 2, 1) := by decide +kernel
theorem dX10_law_40 : decode cX10_law 40 = .ok (.aload_n 0, 1) := by decide +kernel
theorem dX10_law_41 : decode cX10_law 41 = .ok (.aload_n 0, 1) := by decide +kernel
theorem dX10_law_42 : decode cX10_law 42 = .ok (.getfield 40, 3) := by decide +kernel
theorem dX10_law_45 : decode cX10_law 45 = .ok (.iload_n 2, 1) := by decide +kernel
theorem dX10_law_46 : decode cX10_law 46 = .ok (.invokevirtual 443, 3) := by decide +kernel
theorem dX10_law_49 : decode cX10_law 49 = .ok (.istore_n 3, 1) := by decide +kernel
theorem dX10_law_50 : decode cX10_law 50 = .ok (.aload_n 0, 1) := by decide +kernel
theorem dX10_law_51 : decode cX10_law 51 = .ok (.aload_n 0, 1) := by decide +kernel
theorem dX10_law_52 : decode cX10_law 52 = .ok (.getfield 36, 3) := by decide +kernel
theorem dX10_law_55 : decode cX10_law 55 = .ok (.iload_n 2, 1) := by decide +kernel
theorem dX10_law_56 : decode cX10_law 56 = .ok (.invokevirtual 443, 3) := by decide +kernel
theorem dX10_law_59 : decode cX10_law 59 = .ok (.istore 4, 2) := by decide +kernel
theorem dX10_law_61 : decode cX10_law 61 = .ok (.aload_n 0, 1) := by decide +kernel
theorem dX10_law_62 : decode cX10_law 62 = .ok (.getfield 19, 3) := by decide +kernel
theorem dX10_law_65 : decode cX10_law 65 = .ok (.iload_n 3, 1) := by decide +kernel
theorem dX10_law_66 : decode cX10_law 66 = .ok (.i2l, 1) := by decide +kernel
theorem dX10_law_67 : decode cX10_law 67 = .ok (.iload 4, 2) := by decide +kernel
theorem dX10_law_69 : decode cX10_law 69 = .ok (.i2l, 1) := by decide +kernel
theorem dX10_law_70 : decode cX10_law 70 = .ok (.invokevirtual 241, 3) := by decide +kernel
theorem dX10_law_73 : decode cX10_law 73 = .ok (.iload_n 3, 1) := by decide +kernel
theorem dX10_law_74 : decode cX10_law 74 = .ok (.iload 4, 2) := by decide +kernel
theorem dX10_law_76 : decode cX10_law 76 = .ok (.isub, 1) := by decide +kernel
theorem dX10_law_77 : decode cX10_law 77 = .ok (.ireturn, 1) := by decide +kernel
theorem dX10_lengthBy_0 : decode cX10_lengthBy 0 = .ok (.aload_n 0, 1) := by decide +kernel
theorem dX10_lengthBy_1 : decode cX10_lengthBy 1 = .ok (.getfield 50, 3) := by decide +kernel
theorem dX10_lengthBy_4 : decode cX10_lengthBy 4 = .ok (.aload_n 0, 1) := by decide +kernel
theorem dX10_lengthBy_5 : decode cX10_lengthBy 5 = .ok (.getfield 46, 3) := by decide +kernel
theorem dX10_lengthBy_8 : decode cX10_lengthBy 8 = .ok (.invokevirtual 201, 3) := by decide +kernel
theorem dX10_lengthBy_11 : decode cX10_lengthBy 11 = .ok (.aload_n 0, 1) := by decide +kernel
theorem dX10_lengthBy_12 : decode cX10_lengthBy 12 = .ok (.aload_n 0, 1) := by decide +kernel
theorem dX10_lengthBy_13 : decode cX10_lengthBy 13 = .ok (.getfield 50, 3) := by decide +kernel
theorem dX10_lengthBy_16 : decode cX10_lengthBy 16 = .ok (.aload_n 1, 1) := by decide +kernel
theorem dX10_lengthBy_17 : decode cX10_lengthBy 17 = .ok (.iload_n 2, 1) := by decide +kernel
theorem dX10_lengthBy_18 : decode cX10_lengthBy 18 = .ok (.invokevirtual 254, 3) := by decide +kernel
theorem dX10_lengthBy_21 : decode cX10_lengthBy 21 = .ok (.istore_n 3, 1) := by decide +kernel
theorem dX10_lengthBy_22 : decode cX10_lengthBy 22 = .ok (.iload_n 3, 1) := by decide +kernel
theorem dX10_lengthBy_23 : decode cX10_lengthBy 23 = .ok (.ifCond .ge 9, 3) := by decide +kernel
theorem dX10_lengthBy_26 : decode cX10_lengthBy 26 = .ok (.sipush 1000, 3) := by decide +kernel
theorem dX10_lengthBy_29 : decode cX10_lengthBy 29 = .ok (.goto 4, 3) := by decide +kernel
theorem dX10_lengthBy_32 : decode cX10_lengthBy 32 = .ok (.iload_n 3, 1) := by decide +kernel
theorem dX10_lengthBy_33 : decode cX10_lengthBy 33 = .ok (.ireturn, 1) := by decide +kernel
theorem dX10_waits_0 : decode cX10_waits 0 = .ok (.iload_n 1, 1) := by decide +kernel
theorem dX10_waits_1 : decode cX10_waits 1 = .ok (.ifCond .lt 9, 3) := by decide +kernel
theorem dX10_waits_4 : decode cX10_waits 4 = .ok (.iload_n 1, 1) := by decide +kernel
theorem dX10_waits_5 : decode cX10_waits 5 = .ok (.bipush 9, 2) := by decide +kernel
theorem dX10_waits_7 : decode cX10_waits 7 = .ok (.if_icmp .le 5, 3) := by decide +kernel
theorem dX10_waits_10 : decode cX10_waits 10 = .ok (.iconst (-1), 1) := by decide +kernel
theorem dX10_waits_11 : decode cX10_waits 11 = .ok (.ireturn, 1) := by decide +kernel
theorem dX10_waits_12 : decode cX10_waits 12 = .ok (.iconst 0, 1) := by decide +kernel
theorem dX10_waits_13 : decode cX10_waits 13 = .ok (.istore_n 2, 1) := by decide +kernel
theorem dX10_waits_14 : decode cX10_waits 14 = .ok (.aload_n 0, 1) := by decide +kernel
theorem dX10_waits_15 : decode cX10_waits 15 = .ok (.getfield 19, 3) := by decide +kernel
theorem dX10_waits_18 : decode cX10_waits 18 = .ok (.invokevirtual 342, 3) := by decide +kernel
theorem dX10_waits_21 : decode cX10_waits 21 = .ok (.iconst 0, 1) := by decide +kernel
theorem dX10_waits_22 : decode cX10_waits 22 = .ok (.istore_n 3, 1) := by decide +kernel
theorem dX10_waits_23 : decode cX10_waits 23 = .ok (.iload_n 3, 1) := by decide +kernel
theorem dX10_waits_24 : decode cX10_waits 24 = .ok (.bipush 9, 2) := by decide +kernel
theorem dX10_waits_26 : decode cX10_waits 26 = .ok (.if_icmp .gt 67, 3) := by decide +kernel
theorem dX10_waits_29 : decode cX10_waits 29 = .ok (.iconst 0, 1) := by decide +kernel
theorem dX10_waits_30 : decode cX10_waits 30 = .ok (.istore 4, 2) := by decide +kernel
theorem dX10_waits_32 : decode cX10_waits 32 = .ok (.iload 4, 2) := by decide +kernel
theorem dX10_waits_34 : decode cX10_waits 34 = .ok (.bipush 9, 2) := by decide +kernel
theorem dX10_waits_36 : decode cX10_waits 36 = .ok (.if_icmp .gt 51, 3) := by decide +kernel
theorem dX10_waits_39 : decode cX10_waits 39 = .ok (.iload_n 3, 1) := by decide +kernel
theorem dX10_waits_40 : decode cX10_waits 40 = .ok (.iload 4, 2) := by decide +kernel
theorem dX10_waits_42 : decode cX10_waits 42 = .ok (.iload_n 1, 1) := by decide +kernel
theorem dX10_waits_43 : decode cX10_waits 43 = .ok (.invokestatic 447, 3) := by decide +kernel
theorem dX10_waits_46 : decode cX10_waits 46 = .ok (.ifCond .eq 35, 3) := by decide +kernel
theorem dX10_waits_49 : decode cX10_waits 49 = .ok (.iload 4, 2) := by decide +kernel
theorem dX10_waits_51 : decode cX10_waits 51 = .ok (.iload_n 3, 1) := by decide +kernel
theorem dX10_waits_52 : decode cX10_waits 52 = .ok (.iload_n 1, 1) := by decide +kernel
theorem dX10_waits_53 : decode cX10_waits 53 = .ok (.invokestatic 447, 3) := by decide +kernel
theorem dX10_waits_56 : decode cX10_waits 56 = .ok (.ifCond .ne 6, 3) := by decide +kernel
theorem dX10_waits_59 : decode cX10_waits 59 = .ok (.goto 22, 3) := by decide +kernel
theorem dX10_waits_62 : decode cX10_waits 62 = .ok (.iload_n 2, 1) := by decide +kernel
theorem dX10_waits_63 : decode cX10_waits 63 = .ok (.ifCond .ne 15, 3) := by decide +kernel
theorem dX10_waits_66 : decode cX10_waits 66 = .ok (.aload_n 0, 1) := by decide +kernel
theorem dX10_waits_67 : decode cX10_waits 67 = .ok (.getfield 19, 3) := by decide +kernel
theorem dX10_waits_70 : decode cX10_waits 70 = .ok (.iload_n 3, 1) := by decide +kernel
theorem dX10_waits_71 : decode cX10_waits 71 = .ok (.i2l, 1) := by decide +kernel
theorem dX10_waits_72 : decode cX10_waits 72 = .ok (.iload 4, 2) := by decide +kernel
theorem dX10_waits_74 : decode cX10_waits 74 = .ok (.i2l, 1) := by decide +kernel
theorem dX10_waits_75 : decode cX10_waits 75 = .ok (.invokevirtual 241, 3) := by decide +kernel
theorem dX10_waits_78 : decode cX10_waits 78 = .ok (.iinc 2 1, 3) := by decide +kernel
theorem dX10_waits_81 : decode cX10_waits 81 = .ok (.iinc 4 1, 3) := by decide +kernel
theorem dX10_waits_84 : decode cX10_waits 84 = .ok (.goto (-52), 3) := by decide +kernel
theorem dX10_waits_87 : decode cX10_waits 87 = .ok (.iinc 3 1, 3) := by decide +kernel
theorem dX10_waits_90 : decode cX10_waits 90 = .ok (.goto (-67), 3) := by decide +kernel
theorem dX10_waits_93 : decode cX10_waits 93 = .ok (.iload_n 2, 1) := by decide +kernel
theorem dX10_waits_94 : decode cX10_waits 94 = .ok (.ireturn, 1) := by decide +kernel
theorem dX10_isBestWait_0 : decode cX10_isBestWait 0 = .ok (.iload_n 0, 1) := by decide +kernel
theorem dX10_isBestWait_1 : decode cX10_isBestWait 1 = .ok (.iload_n 1, 1) := by decide +kernel
theorem dX10_isBestWait_2 : decode cX10_isBestWait 2 = .ok (.iload_n 2, 1) := by decide +kernel
theorem dX10_isBestWait_3 : decode cX10_isBestWait 3 = .ok (.invokestatic 450, 3) := by decide +kernel
theorem dX10_isBestWait_6 : decode cX10_isBestWait 6 = .ok (.istore_n 3, 1) := by decide +kernel
theorem dX10_isBestWait_7 : decode cX10_isBestWait 7 = .ok (.iconst 0, 1) := by decide +kernel
theorem dX10_isBestWait_8 : decode cX10_isBestWait 8 = .ok (.istore 4, 2) := by decide +kernel
theorem dX10_isBestWait_10 : decode cX10_isBestWait 10 = .ok (.iload 4, 2) := by decide +kernel
theorem dX10_isBestWait_12 : decode cX10_isBestWait 12 = .ok (.bipush 9, 2) := by decide +kernel
theorem dX10_isBestWait_14 : decode cX10_isBestWait 14 = .ok (.if_icmp .gt 22, 3) := by decide +kernel
theorem dX10_isBestWait_17 : decode cX10_isBestWait 17 = .ok (.iload 4, 2) := by decide +kernel
theorem dX10_isBestWait_19 : decode cX10_isBestWait 19 = .ok (.iload_n 1, 1) := by decide +kernel
theorem dX10_isBestWait_20 : decode cX10_isBestWait 20 = .ok (.iload_n 2, 1) := by decide +kernel
theorem dX10_isBestWait_21 : decode cX10_isBestWait 21 = .ok (.invokestatic 450, 3) := by decide +kernel
theorem dX10_isBestWait_24 : decode cX10_isBestWait 24 = .ok (.iload_n 3, 1) := by decide +kernel
theorem dX10_isBestWait_25 : decode cX10_isBestWait 25 = .ok (.if_icmp .ge 5, 3) := by decide +kernel
theorem dX10_isBestWait_28 : decode cX10_isBestWait 28 = .ok (.iconst 0, 1) := by decide +kernel
theorem dX10_isBestWait_29 : decode cX10_isBestWait 29 = .ok (.ireturn, 1) := by decide +kernel
theorem dX10_isBestWait_30 : decode cX10_isBestWait 30 = .ok (.iinc 4 1, 3) := by decide +kernel
theorem dX10_isBestWait_33 : decode cX10_isBestWait 33 = .ok (.goto (-23), 3) := by decide +kernel
theorem dX10_isBestWait_36 : decode cX10_isBestWait 36 = .ok (.iconst 1, 1) := by decide +kernel
theorem dX10_isBestWait_37 : decode cX10_isBestWait 37 = .ok (.ireturn, 1) := by decide +kernel
theorem dX10_waitCost_0 : decode cX10_waitCost 0 = .ok (.iload_n 0, 1) := by decide +kernel
theorem dX10_waitCost_1 : decode cX10_waitCost 1 = .ok (.iload_n 0, 1) := by decide +kernel
theorem dX10_waitCost_2 : decode cX10_waitCost 2 = .ok (.iload_n 2, 1) := by decide +kernel
theorem dX10_waitCost_3 : decode cX10_waitCost 3 = .ok (.if_icmp .ge 8, 3) := by decide +kernel
theorem dX10_waitCost_6 : decode cX10_waitCost 6 = .ok (.bipush 6, 2) := by decide +kernel
theorem dX10_waitCost_8 : decode cX10_waitCost 8 = .ok (.goto 4, 3) := by decide +kernel
theorem dX10_waitCost_11 : decode cX10_waitCost 11 = .ok (.iconst 0, 1) := by decide +kernel
theorem dX10_waitCost_12 : decode cX10_waitCost 12 = .ok (.iadd, 1) := by decide +kernel
theorem dX10_waitCost_13 : decode cX10_waitCost 13 = .ok (.iload_n 0, 1) := by decide +kernel
theorem dX10_waitCost_14 : decode cX10_waitCost 14 = .ok (.iload_n 1, 1) := by decide +kernel
theorem dX10_waitCost_15 : decode cX10_waitCost 15 = .ok (.if_icmp .le 7, 3) := by decide +kernel
theorem dX10_waitCost_18 : decode cX10_waitCost 18 = .ok (.iconst 2, 1) := by decide +kernel
theorem dX10_waitCost_19 : decode cX10_waitCost 19 = .ok (.goto 4, 3) := by decide +kernel
theorem dX10_waitCost_22 : decode cX10_waitCost 22 = .ok (.iconst 0, 1) := by decide +kernel
theorem dX10_waitCost_23 : decode cX10_waitCost 23 = .ok (.iadd, 1) := by decide +kernel
theorem dX10_waitCost_24 : decode cX10_waitCost 24 = .ok (.ireturn, 1) := by decide +kernel
theorem dX10_years_0 : decode cX10_years 0 = .ok (.iload_n 2, 1) := by decide +kernel
theorem dX10_years_1 : decode cX10_years 1 = .ok (.iconst 1, 1) := by decide +kernel
theorem dX10_years_2 : decode cX10_years 2 = .ok (.if_icmp .lt 9, 3) := by decide +kernel
theorem dX10_years_5 : decode cX10_years 5 = .ok (.iload_n 2, 1) := by decide +kernel
theorem dX10_years_6 : decode cX10_years 6 = .ok (.bipush 60, 2) := by decide +kernel
theorem dX10_years_8 : decode cX10_years 8 = .ok (.if_icmp .le 5, 3) := by decide +kernel
theorem dX10_years_11 : decode cX10_years 11 = .ok (.iconst (-1), 1) := by decide +kernel
theorem dX10_years_12 : decode cX10_years 12 = .ok (.ireturn, 1) := by decide +kernel
theorem dX10_years_13 : decode cX10_years 13 = .ok (.aload_n 0, 1) := by decide +kernel
theorem dX10_years_14 : decode cX10_years 14 = .ok (.getfield 50, 3) := by decide +kernel
theorem dX10_years_17 : decode cX10_years 17 = .ok (.aload_n 0, 1) := by decide +kernel
theorem dX10_years_18 : decode cX10_years 18 = .ok (.getfield 46, 3) := by decide +kernel
theorem dX10_years_21 : decode cX10_years 21 = .ok (.invokevirtual 201, 3) := by decide +kernel
theorem dX10_years_24 : decode cX10_years 24 = .ok (.iload_n 1, 1) := by decide +kernel
theorem dX10_years_25 : decode cX10_years 25 = .ok (.istore_n 3, 1) := by decide +kernel
theorem dX10_years_26 : decode cX10_years 26 = .ok (.iconst 0, 1) := by decide +kernel
theorem dX10_years_27 : decode cX10_years 27 = .ok (.istore 4, 2) := by decide +kernel
theorem dX10_years_29 : decode cX10_years 29 = .ok (.iconst 0, 1) := by decide +kernel
theorem dX10_years_30 : decode cX10_years 30 = .ok (.istore 5, 2) := by decide +kernel
theorem dX10_years_32 : decode cX10_years 32 = .ok (.iconst 0, 1) := by decide +kernel
theorem dX10_years_33 : decode cX10_years 33 = .ok (.istore 6, 2) := by decide +kernel
theorem dX10_years_35 : decode cX10_years 35 = .ok (.iload 6, 2) := by decide +kernel
theorem dX10_years_37 : decode cX10_years 37 = .ok (.iload_n 2, 1) := by decide +kernel
theorem dX10_years_38 : decode cX10_years 38 = .ok (.if_icmp .ge 171, 3) := by decide +kernel
theorem dX10_years_41 : decode cX10_years 41 = .ok (.iload_n 3, 1) := by decide +kernel
theorem dX10_years_42 : decode cX10_years 42 = .ok (.invokestatic 453, 3) := by decide +kernel
theorem dX10_years_45 : decode cX10_years 45 = .ok (.istore_n 3, 1) := by decide +kernel
theorem dX10_years_46 : decode cX10_years 46 = .ok (.iload_n 3, 1) := by decide +kernel
theorem dX10_years_47 : decode cX10_years 47 = .ok (.iconst 4, 1) := by decide +kernel
theorem dX10_years_48 : decode cX10_years 48 = .ok (.invokestatic 456, 3) := by decide +kernel
theorem dX10_years_51 : decode cX10_years 51 = .ok (.istore 7, 2) := by decide +kernel
theorem dX10_years_53 : decode cX10_years 53 = .ok (.iload_n 3, 1) := by decide +kernel
theorem dX10_years_54 : decode cX10_years 54 = .ok (.invokestatic 453, 3) := by decide +kernel
theorem dX10_years_57 : decode cX10_years 57 = .ok (.istore_n 3, 1) := by decide +kernel
theorem dX10_years_58 : decode cX10_years 58 = .ok (.iconst 1, 1) := by decide +kernel
theorem dX10_years_59 : decode cX10_years 59 = .ok (.iload_n 3, 1) := by decide +kernel
theorem dX10_years_60 : decode cX10_years 60 = .ok (.aload_n 0, 1) := by decide +kernel
theorem dX10_years_61 : decode cX10_years 61 = .ok (.getfield 26, 3) := by decide +kernel
theorem dX10_years_64 : decode cX10_years 64 = .ok (.invokevirtual 275, 3) := by decide +kernel
theorem dX10_years_67 : decode cX10_years 67 = .ok (.iconst 1, 1) := by decide +kernel
theorem dX10_years_68 : decode cX10_years 68 = .ok (.isub, 1) := by decide +kernel
theorem dX10_years_69 : decode cX10_years 69 = .ok (.invokestatic 456, 3) := by decide +kernel
theorem dX10_years_72 : decode cX10_years 72 = .ok (.iadd, 1) := by decide +kernel
theorem dX10_years_73 : decode cX10_years 73 = .ok (.istore 8, 2) := by decide +kernel
theorem dX10_years_75 : decode cX10_years 75 = .ok (.aload_n 0, 1) := by decide +kernel
theorem dX10_years_76 : decode cX10_years 76 = .ok (.getfield 26, 3) := by decide +kernel
theorem dX10_years_79 : decode cX10_years 79 = .ok (.iload 8, 2) := by decide +kernel
theorem dX10_years_81 : decode cX10_years 81 = .ok (.invokevirtual 176, 3) := by decide +kernel
theorem dX10_years_84 : decode cX10_years 84 = .ok (.ifCond .ne 6, 3) := by decide +kernel
theorem dX10_years_87 : decode cX10_years 87 = .ok (.goto 116, 3) := by decide +kernel
theorem dX10_years_90 : decode cX10_years 90 = .ok (.iload 7, 2) := by decide +kernel
theorem dX10_years_92 : decode cX10_years 92 = .ok (.iconst 2, 1) := by decide +kernel
theorem dX10_years_93 : decode cX10_years 93 = .ok (.if_icmp .ge 35, 3) := by decide +kernel
theorem dX10_years_96 : decode cX10_years 96 = .ok (.aload_n 0, 1) := by decide +kernel
theorem dX10_years_97 : decode cX10_years 97 = .ok (.getfield 50, 3) := by decide +kernel
theorem dX10_years_100 : decode cX10_years 100 = .ok (.getfield 167, 3) := by decide +kernel
theorem dX10_years_103 : decode cX10_years 103 = .ok (.iload 8, 2) := by decide +kernel
theorem dX10_years_105 : decode cX10_years 105 = .ok (.iaload, 1) := by decide +kernel
theorem dX10_years_106 : decode cX10_years 106 = .ok (.bipush 99, 2) := by decide +kernel
theorem dX10_years_108 : decode cX10_years 108 = .ok (.if_icmp .ge 95, 3) := by decide +kernel
theorem dX10_years_111 : decode cX10_years 111 = .ok (.aload_n 0, 1) := by decide +kernel
theorem dX10_years_112 : decode cX10_years 112 = .ok (.getfield 50, 3) := by decide +kernel
theorem dX10_years_115 : decode cX10_years 115 = .ok (.getfield 167, 3) := by decide +kernel
theorem dX10_years_118 : decode cX10_years 118 = .ok (.iload 8, 2) := by decide +kernel
theorem dX10_years_120 : decode cX10_years 120 = .ok (.dup2, 1) := by decide +kernel
theorem dX10_years_121 : decode cX10_years 121 = .ok (.iaload, 1) := by decide +kernel
theorem dX10_years_122 : decode cX10_years 122 = .ok (.iconst 1, 1) := by decide +kernel
theorem dX10_years_123 : decode cX10_years 123 = .ok (.iadd, 1) := by decide +kernel
theorem dX10_years_124 : decode cX10_years 124 = .ok (.iastore, 1) := by decide +kernel
theorem dX10_years_125 : decode cX10_years 125 = .ok (.goto 78, 3) := by decide +kernel
theorem dX10_years_128 : decode cX10_years 128 = .ok (.iload 7, 2) := by decide +kernel
theorem dX10_years_130 : decode cX10_years 130 = .ok (.iconst 2, 1) := by decide +kernel
theorem dX10_years_131 : decode cX10_years 131 = .ok (.if_icmp .ne 38, 3) := by decide +kernel
theorem dX10_years_134 : decode cX10_years 134 = .ok (.aload_n 0, 1) := by decide +kernel
theorem dX10_years_135 : decode cX10_years 135 = .ok (.getfield 50, 3) := by decide +kernel
theorem dX10_years_138 : decode cX10_years 138 = .ok (.getfield 167, 3) := by decide +kernel
theorem dX10_years_141 : decode cX10_years 141 = .ok (.iload 8, 2) := by decide +kernel
theorem dX10_years_143 : decode cX10_years 143 = .ok (.iaload, 1) := by decide +kernel
theorem dX10_years_144 : decode cX10_years 144 = .ok (.ifCond .le 25, 3) := by decide +kernel
theorem dX10_years_147 : decode cX10_years 147 = .ok (.iinc 5 1, 3) := by decide +kernel
theorem dX10_years_150 : decode cX10_years 150 = .ok (.aload_n 0, 1) := by decide +kernel
theorem dX10_years_151 : decode cX10_years 151 = .ok (.aload_n 0, 1) := by decide +kernel
theorem dX10_years_152 : decode cX10_years 152 = .ok (.getfield 50, 3) := by decide +kernel
theorem dX10_years_155 : decode cX10_years 155 = .ok (.iload 8, 2) := by decide +kernel
theorem dX10_years_157 : decode cX10_years 157 = .ok (.invokevirtual 250, 3) := by decide +kernel
theorem dX10_years_160 : decode cX10_years 160 = .ok (.ifCond .ne 43, 3) := by decide +kernel
theorem dX10_years_163 : decode cX10_years 163 = .ok (.iinc 4 1, 3) := by decide +kernel
theorem dX10_years_166 : decode cX10_years 166 = .ok (.goto 37, 3) := by decide +kernel
theorem dX10_years_169 : decode cX10_years 169 = .ok (.iload 7, 2) := by decide +kernel
theorem dX10_years_171 : decode cX10_years 171 = .ok (.iconst 3, 1) := by decide +kernel
theorem dX10_years_172 : decode cX10_years 172 = .ok (.if_icmp .ne 31, 3) := by decide +kernel
theorem dX10_years_175 : decode cX10_years 175 = .ok (.aload_n 0, 1) := by decide +kernel
theorem dX10_years_176 : decode cX10_years 176 = .ok (.aload_n 0, 1) := by decide +kernel
theorem dX10_years_177 : decode cX10_years 177 = .ok (.getfield 50, 3) := by decide +kernel
theorem dX10_years_180 : decode cX10_years 180 = .ok (.iload 8, 2) := by decide +kernel
theorem dX10_years_182 : decode cX10_years 182 = .ok (.invokevirtual 261, 3) := by decide +kernel
theorem dX10_years_185 : decode cX10_years 185 = .ok (.ifCond .eq 18, 3) := by decide +kernel
theorem dX10_years_188 : decode cX10_years 188 = .ok (.iload 4, 2) := by decide +kernel
theorem dX10_years_190 : decode cX10_years 190 = .ok (.aload_n 0, 1) := by decide +kernel
theorem dX10_years_191 : decode cX10_years 191 = .ok (.aload_n 0, 1) := by decide +kernel
theorem dX10_years_192 : decode cX10_years 192 = .ok (.getfield 50, 3) := by decide +kernel
theorem dX10_years_195 : decode cX10_years 195 = .ok (.iload 8, 2) := by decide +kernel
theorem dX10_years_197 : decode cX10_years 197 = .ok (.invokevirtual 265, 3) := by decide +kernel
theorem dX10_years_200 : decode cX10_years 200 = .ok (.iadd, 1) := by decide +kernel
theorem dX10_years_201 : decode cX10_years 201 = .ok (.istore 4, 2) := by decide +kernel
theorem dX10_years_203 : decode cX10_years 203 = .ok (.iinc 6 1, 3) := by decide +kernel
theorem dX10_years_206 : decode cX10_years 206 = .ok (.goto (-171), 3) := by decide +kernel
theorem dX10_years_209 : decode cX10_years 209 = .ok (.aload_n 0, 1) := by decide +kernel
theorem dX10_years_210 : decode cX10_years 210 = .ok (.getfield 19, 3) := by decide +kernel
theorem dX10_years_213 : decode cX10_years 213 = .ok (.aload_n 0, 1) := by decide +kernel
theorem dX10_years_214 : decode cX10_years 214 = .ok (.getfield 50, 3) := by decide +kernel
theorem dX10_years_217 : decode cX10_years 217 = .ok (.invokevirtual 190, 3) := by decide +kernel
theorem dX10_years_220 : decode cX10_years 220 = .ok (.i2l, 1) := by decide +kernel
theorem dX10_years_221 : decode cX10_years 221 = .ok (.iload 5, 2) := by decide +kernel
theorem dX10_years_223 : decode cX10_years 223 = .ok (.i2l, 1) := by decide +kernel
theorem dX10_years_224 : decode cX10_years 224 = .ok (.invokevirtual 241, 3) := by decide +kernel
theorem dX10_years_227 : decode cX10_years 227 = .ok (.iload 4, 2) := by decide +kernel
theorem dX10_years_229 : decode cX10_years 229 = .ok (.ireturn, 1) := by decide +kernel
theorem dX10_nextRandom_0 : decode cX10_nextRandom 0 = .ok (.iload_n 0, 1) := by decide +kernel
theorem dX10_nextRandom_1 : decode cX10_nextRandom 1 = .ok (.ldc_w 459, 3) := by decide +kernel
theorem dX10_nextRandom_4 : decode cX10_nextRandom 4 = .ok (.imul, 1) := by decide +kernel
theorem dX10_nextRandom_5 : decode cX10_nextRandom 5 = .ok (.sipush 12345, 3) := by decide +kernel
theorem dX10_nextRandom_8 : decode cX10_nextRandom 8 = .ok (.iadd, 1) := by decide +kernel
theorem dX10_nextRandom_9 : decode cX10_nextRandom 9 = .ok (.ireturn, 1) := by decide +kernel
theorem dX10_draw_0 : decode cX10_draw 0 = .ok (.iload_n 1, 1) := by decide +kernel
theorem dX10_draw_1 : decode cX10_draw 1 = .ok (.ifCond .le 12, 3) := by decide +kernel
theorem dX10_draw_4 : decode cX10_draw 4 = .ok (.iload_n 0, 1) := by decide +kernel
theorem dX10_draw_5 : decode cX10_draw 5 = .ok (.bipush 16, 2) := by decide +kernel
theorem dX10_draw_7 : decode cX10_draw 7 = .ok (.iushr, 1) := by decide +kernel
theorem dX10_draw_8 : decode cX10_draw 8 = .ok (.iload_n 1, 1) := by decide +kernel
theorem dX10_draw_9 : decode cX10_draw 9 = .ok (.irem, 1) := by decide +kernel
theorem dX10_draw_10 : decode cX10_draw 10 = .ok (.goto 4, 3) := by decide +kernel
theorem dX10_draw_13 : decode cX10_draw 13 = .ok (.iconst 0, 1) := by decide +kernel
theorem dX10_draw_14 : decode cX10_draw 14 = .ok (.ireturn, 1) := by decide +kernel
theorem dX10_keep_0 : decode cX10_keep 0 = .ok (.aload_n 0, 1) := by decide +kernel
theorem dX10_keep_1 : decode cX10_keep 1 = .ok (.getfield 59, 3) := by decide +kernel
theorem dX10_keep_4 : decode cX10_keep 4 = .ok (.iload_n 1, 1) := by decide +kernel
theorem dX10_keep_5 : decode cX10_keep 5 = .ok (.invokevirtual 387, 3) := by decide +kernel
theorem dX10_keep_8 : decode cX10_keep 8 = .ok (.ifCond .ne 5, 3) := by decide +kernel
theorem dX10_keep_11 : decode cX10_keep 11 = .ok (.iconst 0, 1) := by decide +kernel
theorem dX10_keep_12 : decode cX10_keep 12 = .ok (.ireturn, 1) := by decide +kernel
theorem dX10_keep_13 : decode cX10_keep 13 = .ok (.aload_n 0, 1) := by decide +kernel
theorem dX10_keep_14 : decode cX10_keep 14 = .ok (.getfield 59, 3) := by decide +kernel
theorem dX10_keep_17 : decode cX10_keep 17 = .ok (.iload_n 1, 1) := by decide +kernel
theorem dX10_keep_18 : decode cX10_keep 18 = .ok (.aload_n 0, 1) := by decide +kernel
theorem dX10_keep_19 : decode cX10_keep 19 = .ok (.getfield 46, 3) := by decide +kernel
theorem dX10_keep_22 : decode cX10_keep 22 = .ok (.invokevirtual 460, 3) := by decide +kernel
theorem dX10_keep_25 : decode cX10_keep 25 = .ok (.iconst 1, 1) := by decide +kernel
theorem dX10_keep_26 : decode cX10_keep 26 = .ok (.ireturn, 1) := by decide +kernel
theorem dX10_again_0 : decode cX10_again 0 = .ok (.aload_n 0, 1) := by decide +kernel
theorem dX10_again_1 : decode cX10_again 1 = .ok (.getfield 59, 3) := by decide +kernel
theorem dX10_again_4 : decode cX10_again 4 = .ok (.iload_n 1, 1) := by decide +kernel
theorem dX10_again_5 : decode cX10_again 5 = .ok (.aload_n 0, 1) := by decide +kernel
theorem dX10_again_6 : decode cX10_again 6 = .ok (.getfield 46, 3) := by decide +kernel
theorem dX10_again_9 : decode cX10_again 9 = .ok (.invokevirtual 390, 3) := by decide +kernel
theorem dX10_again_12 : decode cX10_again 12 = .ok (.ifCond .ne 5, 3) := by decide +kernel
theorem dX10_again_15 : decode cX10_again 15 = .ok (.iconst 0, 1) := by decide +kernel
theorem dX10_again_16 : decode cX10_again 16 = .ok (.ireturn, 1) := by decide +kernel
theorem dX10_again_17 : decode cX10_again 17 = .ok (.aload_n 0, 1) := by decide +kernel
theorem dX10_again_18 : decode cX10_again 18 = .ok (.getfield 59, 3) := by decide +kernel
theorem dX10_again_21 : decode cX10_again 21 = .ok (.invokevirtual 464, 3) := by decide +kernel
theorem dX10_again_24 : decode cX10_again 24 = .ok (.iconst 1, 1) := by decide +kernel
theorem dX10_again_25 : decode cX10_again 25 = .ok (.ireturn, 1) := by decide +kernel
theorem dX10_count_0 : decode cX10_count 0 = .ok (.iload_n 1, 1) := by decide +kernel
theorem dX10_count_1 : decode cX10_count 1 = .ok (.tableswitch 147 0 10 #[59, 67, 75, 83, 91, 99, 107, 115, 123, 131, 139], 59) := by decide +kernel
theorem dX10_count_60 : decode cX10_count 60 = .ok (.aload_n 0, 1) := by decide +kernel
theorem dX10_count_61 : decode cX10_count 61 = .ok (.getfield 26, 3) := by decide +kernel
theorem dX10_count_64 : decode cX10_count 64 = .ok (.invokevirtual 275, 3) := by decide +kernel
theorem dX10_count_67 : decode cX10_count 67 = .ok (.ireturn, 1) := by decide +kernel
theorem dX10_count_68 : decode cX10_count 68 = .ok (.aload_n 0, 1) := by decide +kernel
theorem dX10_count_69 : decode cX10_count 69 = .ok (.getfield 26, 3) := by decide +kernel
theorem dX10_count_72 : decode cX10_count 72 = .ok (.invokevirtual 467, 3) := by decide +kernel
theorem dX10_count_75 : decode cX10_count 75 = .ok (.ireturn, 1) := by decide +kernel
theorem dX10_count_76 : decode cX10_count 76 = .ok (.aload_n 0, 1) := by decide +kernel
theorem dX10_count_77 : decode cX10_count 77 = .ok (.getfield 46, 3) := by decide +kernel
theorem dX10_count_80 : decode cX10_count 80 = .ok (.getfield 152, 3) := by decide +kernel
theorem dX10_count_83 : decode cX10_count 83 = .ok (.ireturn, 1) := by decide +kernel
theorem dX10_count_84 : decode cX10_count 84 = .ok (.aload_n 0, 1) := by decide +kernel
theorem dX10_count_85 : decode cX10_count 85 = .ok (.getfield 46, 3) := by decide +kernel
theorem dX10_count_88 : decode cX10_count 88 = .ok (.getfield 307, 3) := by decide +kernel
theorem dX10_count_91 : decode cX10_count 91 = .ok (.ireturn, 1) := by decide +kernel
theorem dX10_count_92 : decode cX10_count 92 = .ok (.aload_n 0, 1) := by decide +kernel
theorem dX10_count_93 : decode cX10_count 93 = .ok (.getfield 46, 3) := by decide +kernel
theorem dX10_count_96 : decode cX10_count 96 = .ok (.invokevirtual 190, 3) := by decide +kernel
theorem dX10_count_99 : decode cX10_count 99 = .ok (.ireturn, 1) := by decide +kernel
theorem dX10_count_100 : decode cX10_count 100 = .ok (.aload_n 0, 1) := by decide +kernel
theorem dX10_count_101 : decode cX10_count 101 = .ok (.getfield 46, 3) := by decide +kernel
theorem dX10_count_104 : decode cX10_count 104 = .ok (.invokevirtual 470, 3) := by decide +kernel
theorem dX10_count_107 : decode cX10_count 107 = .ok (.ireturn, 1) := by decide +kernel
theorem dX10_count_108 : decode cX10_count 108 = .ok (.aload_n 0, 1) := by decide +kernel
theorem dX10_count_109 : decode cX10_count 109 = .ok (.getfield 80, 3) := by decide +kernel
theorem dX10_count_112 : decode cX10_count 112 = .ok (.invokevirtual 397, 3) := by decide +kernel
theorem dX10_count_115 : decode cX10_count 115 = .ok (.ireturn, 1) := by decide +kernel
theorem dX10_count_116 : decode cX10_count 116 = .ok (.aload_n 0, 1) := by decide +kernel
theorem dX10_count_117 : decode cX10_count 117 = .ok (.getfield 87, 3) := by decide +kernel
theorem dX10_count_120 : decode cX10_count 120 = .ok (.invokevirtual 424, 3) := by decide +kernel
theorem dX10_count_123 : decode cX10_count 123 = .ok (.ireturn, 1) := by decide +kernel
theorem dX10_count_124 : decode cX10_count 124 = .ok (.aload_n 0, 1) := by decide +kernel
theorem dX10_count_125 : decode cX10_count 125 = .ok (.getfield 59, 3) := by decide +kernel
theorem dX10_count_128 : decode cX10_count 128 = .ok (.invokevirtual 249, 3) := by decide +kernel
theorem dX10_count_131 : decode cX10_count 131 = .ok (.ireturn, 1) := by decide +kernel
theorem dX10_count_132 : decode cX10_count 132 = .ok (.aload_n 0, 1) := by decide +kernel
theorem dX10_count_133 : decode cX10_count 133 = .ok (.getfield 19, 3) := by decide +kernel
theorem dX10_count_136 : decode cX10_count 136 = .ok (.invokevirtual 473, 3) := by decide +kernel
theorem dX10_count_139 : decode cX10_count 139 = .ok (.ireturn, 1) := by decide +kernel
theorem dX10_count_140 : decode cX10_count 140 = .ok (.aload_n 0, 1) := by decide +kernel
theorem dX10_count_141 : decode cX10_count 141 = .ok (.getfield 12, 3) := by decide +kernel
theorem dX10_count_144 : decode cX10_count 144 = .ok (.invokevirtual 114, 3) := by decide +kernel
theorem dX10_count_147 : decode cX10_count 147 = .ok (.ireturn, 1) := by decide +kernel
theorem dX10_count_148 : decode cX10_count 148 = .ok (.bipush (-100), 2) := by decide +kernel
theorem dX10_count_150 : decode cX10_count 150 = .ok (.ireturn, 1) := by decide +kernel
theorem dX10_row_0 : decode cX10_row 0 = .ok (.iload_n 1, 1) := by decide +kernel
theorem dX10_row_1 : decode cX10_row 1 = .ok (.ifCond .lt 14, 3) := by decide +kernel
theorem dX10_row_4 : decode cX10_row 4 = .ok (.iload_n 1, 1) := by decide +kernel
theorem dX10_row_5 : decode cX10_row 5 = .ok (.aload_n 0, 1) := by decide +kernel
theorem dX10_row_6 : decode cX10_row 6 = .ok (.getfield 19, 3) := by decide +kernel
theorem dX10_row_9 : decode cX10_row 9 = .ok (.invokevirtual 473, 3) := by decide +kernel
theorem dX10_row_12 : decode cX10_row 12 = .ok (.if_icmp .lt 11, 3) := by decide +kernel
theorem dX10_row_15 : decode cX10_row 15 = .ok (.new 149, 3) := by decide +kernel
theorem dX10_row_18 : decode cX10_row 18 = .ok (.dup, 1) := by decide +kernel
theorem dX10_row_19 : decode cX10_row 19 = .ok (.invokespecial 151, 3) := by decide +kernel
theorem dX10_row_22 : decode cX10_row 22 = .ok (.athrow, 1) := by decide +kernel
theorem dX10_row_23 : decode cX10_row 23 = .ok (.aload_n 0, 1) := by decide +kernel
theorem dX10_row_24 : decode cX10_row 24 = .ok (.getfield 19, 3) := by decide +kernel
theorem dX10_row_27 : decode cX10_row 27 = .ok (.iload_n 1, 1) := by decide +kernel
theorem dX10_row_28 : decode cX10_row 28 = .ok (.invokevirtual 474, 3) := by decide +kernel
theorem dX10_row_31 : decode cX10_row 31 = .ok (.lreturn, 1) := by decide +kernel
theorem dX11_thrown_0 : decode cX11_thrown 0 = .ok (.aload_n 0, 1) := by decide +kernel
theorem dX11_thrown_1 : decode cX11_thrown 1 = .ok (.getfield 3, 3) := by decide +kernel
theorem dX11_thrown_4 : decode cX11_thrown 4 = .ok (.ireturn, 1) := by decide +kernel
theorem dX11_refuse_0 : decode cX11_refuse 0 = .ok (.aload_n 0, 1) := by decide +kernel
theorem dX11_refuse_1 : decode cX11_refuse 1 = .ok (.iconst 1, 1) := by decide +kernel
theorem dX11_refuse_2 : decode cX11_refuse 2 = .ok (.putfield 3, 3) := by decide +kernel
theorem dX11_refuse_5 : decode cX11_refuse 5 = .ok (.iconst 0, 1) := by decide +kernel
theorem dX11_refuse_6 : decode cX11_refuse 6 = .ok (.ireturn, 1) := by decide +kernel
theorem dX11_in_0 : decode cX11_in 0 = .ok (.lload_n 0, 1) := by decide +kernel
theorem dX11_in_1 : decode cX11_in 1 = .ok (.lload_n 2, 1) := by decide +kernel
theorem dX11_in_2 : decode cX11_in 2 = .ok (.lcmp, 1) := by decide +kernel
theorem dX11_in_3 : decode cX11_in 3 = .ok (.ifCond .lt 14, 3) := by decide +kernel
theorem dX11_in_6 : decode cX11_in 6 = .ok (.lload_n 0, 1) := by decide +kernel
theorem dX11_in_7 : decode cX11_in 7 = .ok (.lload 4, 2) := by decide +kernel
theorem dX11_in_9 : decode cX11_in 9 = .ok (.lcmp, 1) := by decide +kernel
theorem dX11_in_10 : decode cX11_in 10 = .ok (.ifCond .gt 7, 3) := by decide +kernel
theorem dX11_in_13 : decode cX11_in 13 = .ok (.iconst 1, 1) := by decide +kernel
theorem dX11_in_14 : decode cX11_in 14 = .ok (.goto 4, 3) := by decide +kernel
theorem dX11_in_17 : decode cX11_in 17 = .ok (.iconst 0, 1) := by decide +kernel
theorem dX11_in_18 : decode cX11_in 18 = .ok (.ireturn, 1) := by decide +kernel
theorem dX11_has_0 : decode cX11_has 0 = .ok (.iload_n 0, 1) := by decide +kernel
theorem dX11_has_1 : decode cX11_has 1 = .ok (.iload_n 1, 1) := by decide +kernel
theorem dX11_has_2 : decode cX11_has 2 = .ok (.ishr, 1) := by decide +kernel
theorem dX11_has_3 : decode cX11_has 3 = .ok (.iconst 1, 1) := by decide +kernel
theorem dX11_has_4 : decode cX11_has 4 = .ok (.iand, 1) := by decide +kernel
theorem dX11_has_5 : decode cX11_has 5 = .ok (.iconst 1, 1) := by decide +kernel
theorem dX11_has_6 : decode cX11_has 6 = .ok (.if_icmp .ne 7, 3) := by decide +kernel
theorem dX11_has_9 : decode cX11_has 9 = .ok (.iconst 1, 1) := by decide +kernel
theorem dX11_has_10 : decode cX11_has 10 = .ok (.goto 4, 3) := by decide +kernel
theorem dX11_has_13 : decode cX11_has 13 = .ok (.iconst 0, 1) := by decide +kernel
theorem dX11_has_14 : decode cX11_has 14 = .ok (.ireturn, 1) := by decide +kernel
theorem dX11_flag_0 : decode cX11_flag 0 = .ok (.iload_n 0, 1) := by decide +kernel
theorem dX11_flag_1 : decode cX11_flag 1 = .ok (.ifCond .eq 7, 3) := by decide +kernel
theorem dX11_flag_4 : decode cX11_flag 4 = .ok (.iconst 1, 1) := by decide +kernel
theorem dX11_flag_5 : decode cX11_flag 5 = .ok (.goto 4, 3) := by decide +kernel
theorem dX11_flag_8 : decode cX11_flag 8 = .ok (.iconst 0, 1) := by decide +kernel
theorem dX11_flag_9 : decode cX11_flag 9 = .ok (.ireturn, 1) := by decide +kernel
theorem dX11_common_0 : decode cX11_common 0 = .ok (.lload_n 2, 1) := by decide +kernel
theorem dX11_common_1 : decode cX11_common 1 = .ok (.lconst 0, 1) := by decide +kernel
theorem dX11_common_2 : decode cX11_common 2 = .ok (.lcmp, 1) := by decide +kernel
theorem dX11_common_3 : decode cX11_common 3 = .ok (.ifCond .ne 7, 3) := by decide +kernel
theorem dX11_common_6 : decode cX11_common 6 = .ok (.lload_n 0, 1) := by decide +kernel
theorem dX11_common_7 : decode cX11_common 7 = .ok (.goto 10, 3) := by decide +kernel
theorem dX11_common_10 : decode cX11_common 10 = .ok (.lload_n 2, 1) := by decide +kernel
theorem dX11_common_11 : decode cX11_common 11 = .ok (.lload_n 0, 1) := by decide +kernel
theorem dX11_common_12 : decode cX11_common 12 = .ok (.lload_n 2, 1) := by decide +kernel
theorem dX11_common_13 : decode cX11_common 13 = .ok (.lrem, 1) := by decide +kernel
theorem dX11_common_14 : decode cX11_common 14 = .ok (.invokestatic 7, 3) := by decide +kernel
theorem dX11_common_17 : decode cX11_common 17 = .ok (.lreturn, 1) := by decide +kernel
theorem dX11_enters_0 : decode cX11_enters 0 = .ok (.aload_n 0, 1) := by decide +kernel
theorem dX11_enters_1 : decode cX11_enters 1 = .ok (.getfield 11, 3) := by decide +kernel
theorem dX11_enters_4 : decode cX11_enters 4 = .ok (.aload_n 0, 1) := by decide +kernel
theorem dX11_enters_5 : decode cX11_enters 5 = .ok (.getfield 15, 3) := by decide +kernel
theorem dX11_enters_8 : decode cX11_enters 8 = .ok (.lload_n 1, 1) := by decide +kernel
theorem dX11_enters_9 : decode cX11_enters 9 = .ok (.lastore, 1) := by decide +kernel
theorem dX11_enters_10 : decode cX11_enters 10 = .ok (.aload_n 0, 1) := by decide +kernel
theorem dX11_enters_11 : decode cX11_enters 11 = .ok (.dup, 1) := by decide +kernel
theorem dX11_enters_12 : decode cX11_enters 12 = .ok (.getfield 15, 3) := by decide +kernel
theorem dX11_enters_15 : decode cX11_enters 15 = .ok (.iconst 1, 1) := by decide +kernel
theorem dX11_enters_16 : decode cX11_enters 16 = .ok (.iadd, 1) := by decide +kernel
theorem dX11_enters_17 : decode cX11_enters 17 = .ok (.putfield 15, 3) := by decide +kernel
theorem dX11_enters_20 : decode cX11_enters 20 = .ok (.return_, 1) := by decide +kernel
theorem dX11_entersFraction_0 : decode cX11_entersFraction 0 = .ok (.lload_n 1, 1) := by decide +kernel
theorem dX11_entersFraction_1 : decode cX11_entersFraction 1 = .ok (.lload_n 3, 1) := by decide +kernel
theorem dX11_entersFraction_2 : decode cX11_entersFraction 2 = .ok (.invokestatic 7, 3) := by decide +kernel
theorem dX11_entersFraction_5 : decode cX11_entersFraction 5 = .ok (.lstore 5, 2) := by decide +kernel
theorem dX11_entersFraction_7 : decode cX11_entersFraction 7 = .ok (.aload_n 0, 1) := by decide +kernel
theorem dX11_entersFraction_8 : decode cX11_entersFraction 8 = .ok (.iconst 0, 1) := by decide +kernel
theorem dX11_entersFraction_9 : decode cX11_entersFraction 9 = .ok (.putfield 15, 3) := by decide +kernel
theorem dX11_entersFraction_12 : decode cX11_entersFraction 12 = .ok (.aload_n 0, 1) := by decide +kernel
theorem dX11_entersFraction_13 : decode cX11_entersFraction 13 = .ok (.lload_n 1, 1) := by decide +kernel
theorem dX11_entersFraction_14 : decode cX11_entersFraction 14 = .ok (.lload 5, 2) := by decide +kernel
theorem dX11_entersFraction_16 : decode cX11_entersFraction 16 = .ok (.ldiv, 1) := by decide +kernel
theorem dX11_entersFraction_17 : decode cX11_entersFraction 17 = .ok (.invokevirtual 18, 3) := by decide +kernel
theorem dX11_entersFraction_20 : decode cX11_entersFraction 20 = .ok (.aload_n 0, 1) := by decide +kernel
theorem dX11_entersFraction_21 : decode cX11_entersFraction 21 = .ok (.lload_n 3, 1) := by decide +kernel
theorem dX11_entersFraction_22 : decode cX11_entersFraction 22 = .ok (.lload 5, 2) := by decide +kernel
theorem dX11_entersFraction_24 : decode cX11_entersFraction 24 = .ok (.ldiv, 1) := by decide +kernel
theorem dX11_entersFraction_25 : decode cX11_entersFraction 25 = .ok (.invokevirtual 18, 3) := by decide +kernel
theorem dX11_entersFraction_28 : decode cX11_entersFraction 28 = .ok (.iconst 0, 1) := by decide +kernel
theorem dX11_entersFraction_29 : decode cX11_entersFraction 29 = .ok (.ireturn, 1) := by decide +kernel
theorem dX11_init_0 : decode cX11_init 0 = .ok (.aload_n 0, 1) := by decide +kernel
theorem dX11_init_1 : decode cX11_init 1 = .ok (.invokespecial 22, 3) := by decide +kernel
theorem dX11_init_4 : decode cX11_init 4 = .ok (.aload_n 0, 1) := by decide +kernel
theorem dX11_init_5 : decode cX11_init 5 = .ok (.bipush 24, 2) := by decide +kernel
theorem dX11_init_7 : decode cX11_init 7 = .ok (.newarray .long, 2) := by decide +kernel
theorem dX11_init_9 : decode cX11_init 9 = .ok (.putfield 11, 3) := by decide +kernel
theorem dX11_init_12 : decode cX11_init 12 = .ok (.aload_n 0, 1) := by decide +kernel
theorem dX11_init_13 : decode cX11_init 13 = .ok (.iconst 2, 1) := by decide +kernel
theorem dX11_init_14 : decode cX11_init 14 = .ok (.putfield 28, 3) := by decide +kernel
theorem dX11_init_17 : decode cX11_init 17 = .ok (.aload_n 0, 1) := by decide +kernel
theorem dX11_init_18 : decode cX11_init 18 = .ok (.bipush 8, 2) := by decide +kernel
theorem dX11_init_20 : decode cX11_init 20 = .ok (.newarray .int, 2) := by decide +kernel
theorem dX11_init_22 : decode cX11_init 22 = .ok (.putfield 31, 3) := by decide +kernel
theorem dX11_init_25 : decode cX11_init 25 = .ok (.aload_n 0, 1) := by decide +kernel
theorem dX11_init_26 : decode cX11_init 26 = .ok (.bipush 32, 2) := by decide +kernel
theorem dX11_init_28 : decode cX11_init 28 = .ok (.newarray .int, 2) := by decide +kernel
theorem dX11_init_30 : decode cX11_init 30 = .ok (.putfield 35, 3) := by decide +kernel
theorem dX11_init_33 : decode cX11_init 33 = .ok (.aload_n 0, 1) := by decide +kernel
theorem dX11_init_34 : decode cX11_init 34 = .ok (.bipush 17, 2) := by decide +kernel
theorem dX11_init_36 : decode cX11_init 36 = .ok (.newarray .int, 2) := by decide +kernel
theorem dX11_init_38 : decode cX11_init 38 = .ok (.putfield 38, 3) := by decide +kernel
theorem dX11_init_41 : decode cX11_init 41 = .ok (.aload_n 0, 1) := by decide +kernel
theorem dX11_init_42 : decode cX11_init 42 = .ok (.bipush 17, 2) := by decide +kernel
theorem dX11_init_44 : decode cX11_init 44 = .ok (.newarray .int, 2) := by decide +kernel
theorem dX11_init_46 : decode cX11_init 46 = .ok (.putfield 41, 3) := by decide +kernel
theorem dX11_init_49 : decode cX11_init 49 = .ok (.aload_n 0, 1) := by decide +kernel
theorem dX11_init_50 : decode cX11_init 50 = .ok (.bipush 80, 2) := by decide +kernel
theorem dX11_init_52 : decode cX11_init 52 = .ok (.newarray .int, 2) := by decide +kernel
theorem dX11_init_54 : decode cX11_init 54 = .ok (.putfield 44, 3) := by decide +kernel
theorem dX11_init_57 : decode cX11_init 57 = .ok (.aload_n 0, 1) := by decide +kernel
theorem dX11_init_58 : decode cX11_init 58 = .ok (.bipush 8, 2) := by decide +kernel
theorem dX11_init_60 : decode cX11_init 60 = .ok (.newarray .int, 2) := by decide +kernel
theorem dX11_init_62 : decode cX11_init 62 = .ok (.putfield 47, 3) := by decide +kernel
theorem dX11_init_65 : decode cX11_init 65 = .ok (.aload_n 0, 1) := by decide +kernel
theorem dX11_init_66 : decode cX11_init 66 = .ok (.bipush 32, 2) := by decide +kernel
theorem dX11_init_68 : decode cX11_init 68 = .ok (.newarray .int, 2) := by decide +kernel
theorem dX11_init_70 : decode cX11_init 70 = .ok (.putfield 50, 3) := by decide +kernel
theorem dX11_init_73 : decode cX11_init 73 = .ok (.aload_n 0, 1) := by decide +kernel
theorem dX11_init_74 : decode cX11_init 74 = .ok (.bipush 80, 2) := by decide +kernel
theorem dX11_init_76 : decode cX11_init 76 = .ok (.newarray .int, 2) := by decide +kernel
theorem dX11_init_78 : decode cX11_init 78 = .ok (.putfield 53, 3) := by decide +kernel
theorem dX11_init_81 : decode cX11_init 81 = .ok (.aload_n 0, 1) := by decide +kernel
theorem dX11_init_82 : decode cX11_init 82 = .ok (.bipush 80, 2) := by decide +kernel
theorem dX11_init_84 : decode cX11_init 84 = .ok (.newarray .int, 2) := by decide +kernel
theorem dX11_init_86 : decode cX11_init 86 = .ok (.putfield 56, 3) := by decide +kernel
theorem dX11_init_89 : decode cX11_init 89 = .ok (.aload_n 0, 1) := by decide +kernel
theorem dX11_init_90 : decode cX11_init 90 = .ok (.bipush 80, 2) := by decide +kernel
theorem dX11_init_92 : decode cX11_init 92 = .ok (.newarray .int, 2) := by decide +kernel
theorem dX11_init_94 : decode cX11_init 94 = .ok (.putfield 59, 3) := by decide +kernel
theorem dX11_init_97 : decode cX11_init 97 = .ok (.aload_n 0, 1) := by decide +kernel
theorem dX11_init_98 : decode cX11_init 98 = .ok (.bipush 7, 2) := by decide +kernel
theorem dX11_init_100 : decode cX11_init 100 = .ok (.newarray .int, 2) := by decide +kernel
theorem dX11_init_102 : decode cX11_init 102 = .ok (.putfield 62, 3) := by decide +kernel
theorem dX11_init_105 : decode cX11_init 105 = .ok (.aload_n 0, 1) := by decide +kernel
theorem dX11_init_106 : decode cX11_init 106 = .ok (.bipush 8, 2) := by decide +kernel
theorem dX11_init_108 : decode cX11_init 108 = .ok (.newarray .int, 2) := by decide +kernel
theorem dX11_init_110 : decode cX11_init 110 = .ok (.putfield 65, 3) := by decide +kernel
theorem dX11_init_113 : decode cX11_init 113 = .ok (.aload_n 0, 1) := by decide +kernel
theorem dX11_init_114 : decode cX11_init 114 = .ok (.sipush 272, 3) := by decide +kernel
theorem dX11_init_117 : decode cX11_init 117 = .ok (.newarray .int, 2) := by decide +kernel
theorem dX11_init_119 : decode cX11_init 119 = .ok (.putfield 68, 3) := by decide +kernel
theorem dX11_init_122 : decode cX11_init 122 = .ok (.aload_n 0, 1) := by decide +kernel
theorem dX11_init_123 : decode cX11_init 123 = .ok (.bipush 8, 2) := by decide +kernel
theorem dX11_init_125 : decode cX11_init 125 = .ok (.newarray .int, 2) := by decide +kernel
theorem dX11_init_127 : decode cX11_init 127 = .ok (.putfield 71, 3) := by decide +kernel
theorem dX11_init_130 : decode cX11_init 130 = .ok (.aload_n 0, 1) := by decide +kernel
theorem dX11_init_131 : decode cX11_init 131 = .ok (.bipush 60, 2) := by decide +kernel
theorem dX11_init_133 : decode cX11_init 133 = .ok (.newarray .int, 2) := by decide +kernel
theorem dX11_init_135 : decode cX11_init 135 = .ok (.putfield 74, 3) := by decide +kernel
theorem dX11_init_138 : decode cX11_init 138 = .ok (.aload_n 0, 1) := by decide +kernel
theorem dX11_init_139 : decode cX11_init 139 = .ok (.bipush 60, 2) := by decide +kernel
theorem dX11_init_141 : decode cX11_init 141 = .ok (.newarray .int, 2) := by decide +kernel
theorem dX11_init_143 : decode cX11_init 143 = .ok (.putfield 77, 3) := by decide +kernel
theorem dX11_init_146 : decode cX11_init 146 = .ok (.aload_n 0, 1) := by decide +kernel
theorem dX11_init_147 : decode cX11_init 147 = .ok (.bipush 60, 2) := by decide +kernel
theorem dX11_init_149 : decode cX11_init 149 = .ok (.newarray .int, 2) := by decide +kernel
theorem dX11_init_151 : decode cX11_init 151 = .ok (.putfield 80, 3) := by decide +kernel
theorem dX11_init_154 : decode cX11_init 154 = .ok (.aload_n 0, 1) := by decide +kernel
theorem dX11_init_155 : decode cX11_init 155 = .ok (.bipush 8, 2) := by decide +kernel
theorem dX11_init_157 : decode cX11_init 157 = .ok (.newarray .int, 2) := by decide +kernel
theorem dX11_init_159 : decode cX11_init 159 = .ok (.putfield 83, 3) := by decide +kernel
theorem dX11_init_162 : decode cX11_init 162 = .ok (.aload_n 0, 1) := by decide +kernel
theorem dX11_init_163 : decode cX11_init 163 = .ok (.bipush 8, 2) := by decide +kernel
theorem dX11_init_165 : decode cX11_init 165 = .ok (.newarray .int, 2) := by decide +kernel
theorem dX11_init_167 : decode cX11_init 167 = .ok (.putfield 86, 3) := by decide +kernel
theorem dX11_init_170 : decode cX11_init 170 = .ok (.aload_n 0, 1) := by decide +kernel
theorem dX11_init_171 : decode cX11_init 171 = .ok (.bipush 64, 2) := by decide +kernel
theorem dX11_init_173 : decode cX11_init 173 = .ok (.newarray .long, 2) := by decide +kernel
theorem dX11_init_175 : decode cX11_init 175 = .ok (.putfield 89, 3) := by decide +kernel
theorem dX11_init_178 : decode cX11_init 178 = .ok (.aload_n 0, 1) := by decide +kernel
theorem dX11_init_179 : decode cX11_init 179 = .ok (.bipush 8, 2) := by decide +kernel
theorem dX11_init_181 : decode cX11_init 181 = .ok (.newarray .long, 2) := by decide +kernel
theorem dX11_init_183 : decode cX11_init 183 = .ok (.putfield 92, 3) := by decide +kernel
theorem dX11_init_186 : decode cX11_init 186 = .ok (.aload_n 0, 1) := by decide +kernel
theorem dX11_init_187 : decode cX11_init 187 = .ok (.bipush 8, 2) := by decide +kernel
theorem dX11_init_189 : decode cX11_init 189 = .ok (.newarray .long, 2) := by decide +kernel
theorem dX11_init_191 : decode cX11_init 191 = .ok (.putfield 95, 3) := by decide +kernel
theorem dX11_init_194 : decode cX11_init 194 = .ok (.aload_n 0, 1) := by decide +kernel
theorem dX11_init_195 : decode cX11_init 195 = .ok (.bipush 10, 2) := by decide +kernel
theorem dX11_init_197 : decode cX11_init 197 = .ok (.newarray .int, 2) := by decide +kernel
theorem dX11_init_199 : decode cX11_init 199 = .ok (.putfield 98, 3) := by decide +kernel
theorem dX11_init_202 : decode cX11_init 202 = .ok (.aload_n 0, 1) := by decide +kernel
theorem dX11_init_203 : decode cX11_init 203 = .ok (.bipush 10, 2) := by decide +kernel
theorem dX11_init_205 : decode cX11_init 205 = .ok (.newarray .int, 2) := by decide +kernel
theorem dX11_init_207 : decode cX11_init 207 = .ok (.putfield 101, 3) := by decide +kernel
theorem dX11_init_210 : decode cX11_init 210 = .ok (.aload_n 0, 1) := by decide +kernel
theorem dX11_init_211 : decode cX11_init 211 = .ok (.bipush 10, 2) := by decide +kernel
theorem dX11_init_213 : decode cX11_init 213 = .ok (.newarray .int, 2) := by decide +kernel
theorem dX11_init_215 : decode cX11_init 215 = .ok (.putfield 104, 3) := by decide +kernel
theorem dX11_init_218 : decode cX11_init 218 = .ok (.aload_n 0, 1) := by decide +kernel
theorem dX11_init_219 : decode cX11_init 219 = .ok (.bipush 8, 2) := by decide +kernel
theorem dX11_init_221 : decode cX11_init 221 = .ok (.newarray .int, 2) := by decide +kernel
theorem dX11_init_223 : decode cX11_init 223 = .ok (.putfield 107, 3) := by decide +kernel
theorem dX11_init_226 : decode cX11_init 226 = .ok (.aload_n 0, 1) := by decide +kernel
theorem dX11_init_227 : decode cX11_init 227 = .ok (.bipush 12, 2) := by decide +kernel
theorem dX11_init_229 : decode cX11_init 229 = .ok (.newarray .int, 2) := by decide +kernel
theorem dX11_init_231 : decode cX11_init 231 = .ok (.putfield 110, 3) := by decide +kernel
theorem dX11_init_234 : decode cX11_init 234 = .ok (.aload_n 0, 1) := by decide +kernel
theorem dX11_init_235 : decode cX11_init 235 = .ok (.bipush 12, 2) := by decide +kernel
theorem dX11_init_237 : decode cX11_init 237 = .ok (.newarray .int, 2) := by decide +kernel
theorem dX11_init_239 : decode cX11_init 239 = .ok (.putfield 113, 3) := by decide +kernel
theorem dX11_init_242 : decode cX11_init 242 = .ok (.aload_n 0, 1) := by decide +kernel
theorem dX11_init_243 : decode cX11_init 243 = .ok (.sipush 961, 3) := by decide +kernel
theorem dX11_init_246 : decode cX11_init 246 = .ok (.newarray .boolean, 2) := by decide +kernel
theorem dX11_init_248 : decode cX11_init 248 = .ok (.putfield 116, 3) := by decide +kernel
theorem dX11_init_251 : decode cX11_init 251 = .ok (.aload_n 0, 1) := by decide +kernel
theorem dX11_init_252 : decode cX11_init 252 = .ok (.bipush 80, 2) := by decide +kernel
theorem dX11_init_254 : decode cX11_init 254 = .ok (.newarray .int, 2) := by decide +kernel
theorem dX11_init_256 : decode cX11_init 256 = .ok (.putfield 120, 3) := by decide +kernel
theorem dX11_init_259 : decode cX11_init 259 = .ok (.aload_n 0, 1) := by decide +kernel
theorem dX11_init_260 : decode cX11_init 260 = .ok (.iconst 3, 1) := by decide +kernel
theorem dX11_init_261 : decode cX11_init 261 = .ok (.newarray .boolean, 2) := by decide +kernel
theorem dX11_init_263 : decode cX11_init 263 = .ok (.putfield 123, 3) := by decide +kernel
theorem dX11_init_266 : decode cX11_init 266 = .ok (.aload_n 0, 1) := by decide +kernel
theorem dX11_init_267 : decode cX11_init 267 = .ok (.bipush 51, 2) := by decide +kernel
theorem dX11_init_269 : decode cX11_init 269 = .ok (.newarray .int, 2) := by decide +kernel
theorem dX11_init_271 : decode cX11_init 271 = .ok (.putfield 126, 3) := by decide +kernel
theorem dX11_init_274 : decode cX11_init 274 = .ok (.aload_n 0, 1) := by decide +kernel
theorem dX11_init_275 : decode cX11_init 275 = .ok (.getfield 31, 3) := by decide +kernel
theorem dX11_init_278 : decode cX11_init 278 = .ok (.iconst 1, 1) := by decide +kernel
theorem dX11_init_279 : decode cX11_init 279 = .ok (.iconst 1, 1) := by decide +kernel
theorem dX11_init_280 : decode cX11_init 280 = .ok (.iastore, 1) := by decide +kernel
theorem dX11_init_281 : decode cX11_init 281 = .ok (.return_, 1) := by decide +kernel
theorem dX11_isCrossing_0 : decode cX11_isCrossing 0 = .ok (.iload_n 1, 1) := by decide +kernel
theorem dX11_isCrossing_1 : decode cX11_isCrossing 1 = .ok (.i2l, 1) := by decide +kernel
theorem dX11_isCrossing_2 : decode cX11_isCrossing 2 = .ok (.lconst 0, 1) := by decide +kernel
theorem dX11_isCrossing_3 : decode cX11_isCrossing 3 = .ok (.aload_n 0, 1) := by decide +kernel
theorem dX11_isCrossing_4 : decode cX11_isCrossing 4 = .ok (.getfield 28, 3) := by decide +kernel
theorem dX11_isCrossing_7 : decode cX11_isCrossing 7 = .ok (.iconst 1, 1) := by decide +kernel
theorem dX11_isCrossing_8 : decode cX11_isCrossing 8 = .ok (.isub, 1) := by decide +kernel
theorem dX11_isCrossing_9 : decode cX11_isCrossing 9 = .ok (.i2l, 1) := by decide +kernel
theorem dX11_isCrossing_10 : decode cX11_isCrossing 10 = .ok (.invokestatic 129, 3) := by decide +kernel
theorem dX11_isCrossing_13 : decode cX11_isCrossing 13 = .ok (.ireturn, 1) := by decide +kernel
theorem dX11_isOut_0 : decode cX11_isOut 0 = .ok (.iload_n 1, 1) := by decide +kernel
theorem dX11_isOut_1 : decode cX11_isOut 1 = .ok (.i2l, 1) := by decide +kernel
theorem dX11_isOut_2 : decode cX11_isOut 2 = .ok (.lconst 1, 1) := by decide +kernel
theorem dX11_isOut_3 : decode cX11_isOut 3 = .ok (.aload_n 0, 1) := by decide +kernel
theorem dX11_isOut_4 : decode cX11_isOut 4 = .ok (.getfield 28, 3) := by decide +kernel
theorem dX11_isOut_7 : decode cX11_isOut 7 = .ok (.iconst 1, 1) := by decide +kernel
theorem dX11_isOut_8 : decode cX11_isOut 8 = .ok (.isub, 1) := by decide +kernel
theorem dX11_isOut_9 : decode cX11_isOut 9 = .ok (.i2l, 1) := by decide +kernel
theorem dX11_isOut_10 : decode cX11_isOut 10 = .ok (.invokestatic 129, 3) := by decide +kernel
theorem dX11_isOut_13 : decode cX11_isOut 13 = .ok (.ireturn, 1) := by decide +kernel
theorem dX11_goalOf_0 : decode cX11_goalOf 0 = .ok (.aload_n 0, 1) := by decide +kernel
theorem dX11_goalOf_1 : decode cX11_goalOf 1 = .ok (.getfield 35, 3) := by decide +kernel
theorem dX11_goalOf_4 : decode cX11_goalOf 4 = .ok (.iconst 4, 1) := by decide +kernel
theorem dX11_goalOf_5 : decode cX11_goalOf 5 = .ok (.iload_n 1, 1) := by decide +kernel
theorem dX11_goalOf_6 : decode cX11_goalOf 6 = .ok (.imul, 1) := by decide +kernel
theorem dX11_goalOf_7 : decode cX11_goalOf 7 = .ok (.iload_n 2, 1) := by decide +kernel
theorem dX11_goalOf_8 : decode cX11_goalOf 8 = .ok (.iadd, 1) := by decide +kernel
theorem dX11_goalOf_9 : decode cX11_goalOf 9 = .ok (.iaload, 1) := by decide +kernel
theorem dX11_goalOf_10 : decode cX11_goalOf 10 = .ok (.ireturn, 1) := by decide +kernel
theorem dX11_walkers_0 : decode cX11_walkers 0 = .ok (.iconst 0, 1) := by decide +kernel
theorem dX11_walkers_1 : decode cX11_walkers 1 = .ok (.istore_n 2, 1) := by decide +kernel
theorem dX11_walkers_2 : decode cX11_walkers 2 = .ok (.iconst 1, 1) := by decide +kernel
theorem dX11_walkers_3 : decode cX11_walkers 3 = .ok (.istore_n 3, 1) := by decide +kernel
theorem dX11_walkers_4 : decode cX11_walkers 4 = .ok (.iload_n 3, 1) := by decide +kernel
theorem dX11_walkers_5 : decode cX11_walkers 5 = .ok (.aload_n 0, 1) := by decide +kernel
theorem dX11_walkers_6 : decode cX11_walkers 6 = .ok (.getfield 28, 3) := by decide +kernel
theorem dX11_walkers_9 : decode cX11_walkers 9 = .ok (.if_icmp .ge 18, 3) := by decide +kernel
theorem dX11_walkers_12 : decode cX11_walkers 12 = .ok (.iload_n 2, 1) := by decide +kernel
theorem dX11_walkers_13 : decode cX11_walkers 13 = .ok (.aload_n 1, 1) := by decide +kernel
theorem dX11_walkers_14 : decode cX11_walkers 14 = .ok (.bipush 8, 2) := by decide +kernel
theorem dX11_walkers_16 : decode cX11_walkers 16 = .ok (.iload_n 3, 1) := by decide +kernel
theorem dX11_walkers_17 : decode cX11_walkers 17 = .ok (.iadd, 1) := by decide +kernel
theorem dX11_walkers_18 : decode cX11_walkers 18 = .ok (.iaload, 1) := by decide +kernel
theorem dX11_walkers_19 : decode cX11_walkers 19 = .ok (.iadd, 1) := by decide +kernel
theorem dX11_walkers_20 : decode cX11_walkers 20 = .ok (.istore_n 2, 1) := by decide +kernel
theorem dX11_walkers_21 : decode cX11_walkers 21 = .ok (.iinc 3 1, 3) := by decide +kernel
theorem dX11_walkers_24 : decode cX11_walkers 24 = .ok (.goto (-20), 3) := by decide +kernel
theorem dX11_walkers_27 : decode cX11_walkers 27 = .ok (.iload_n 2, 1) := by decide +kernel
theorem dX11_walkers_28 : decode cX11_walkers 28 = .ok (.ireturn, 1) := by decide +kernel
theorem dX11_copies_0 : decode cX11_copies 0 = .ok (.iconst 0, 1) := by decide +kernel
theorem dX11_copies_1 : decode cX11_copies 1 = .ok (.istore_n 2, 1) := by decide +kernel
theorem dX11_copies_2 : decode cX11_copies 2 = .ok (.iload_n 2, 1) := by decide +kernel
theorem dX11_copies_3 : decode cX11_copies 3 = .ok (.bipush 17, 2) := by decide +kernel
theorem dX11_copies_5 : decode cX11_copies 5 = .ok (.if_icmp .ge 15, 3) := by decide +kernel
theorem dX11_copies_8 : decode cX11_copies 8 = .ok (.aload_n 0, 1) := by decide +kernel
theorem dX11_copies_9 : decode cX11_copies 9 = .ok (.iload_n 2, 1) := by decide +kernel
theorem dX11_copies_10 : decode cX11_copies 10 = .ok (.aload_n 1, 1) := by decide +kernel
theorem dX11_copies_11 : decode cX11_copies 11 = .ok (.iload_n 2, 1) := by decide +kernel
theorem dX11_copies_12 : decode cX11_copies 12 = .ok (.iaload, 1) := by decide +kernel
theorem dX11_copies_13 : decode cX11_copies 13 = .ok (.iastore, 1) := by decide +kernel
theorem dX11_copies_14 : decode cX11_copies 14 = .ok (.iinc 2 1, 3) := by decide +kernel
theorem dX11_copies_17 : decode cX11_copies 17 = .ok (.goto (-15), 3) := by decide +kernel
theorem dX11_copies_20 : decode cX11_copies 20 = .ok (.return_, 1) := by decide +kernel
theorem dX11_sign_0 : decode cX11_sign 0 = .ok (.aload_n 0, 1) := by decide +kernel
theorem dX11_sign_1 : decode cX11_sign 1 = .ok (.iconst 0, 1) := by decide +kernel
theorem dX11_sign_2 : decode cX11_sign 2 = .ok (.putfield 3, 3) := by decide +kernel
theorem dX11_sign_5 : decode cX11_sign 5 = .ok (.aload_n 0, 1) := by decide +kernel
theorem dX11_sign_6 : decode cX11_sign 6 = .ok (.getfield 133, 3) := by decide +kernel
theorem dX11_sign_9 : decode cX11_sign 9 = .ok (.bipush 76, 2) := by decide +kernel
theorem dX11_sign_11 : decode cX11_sign 11 = .ok (.if_icmp .le 5, 3) := by decide +kernel
theorem dX11_sign_14 : decode cX11_sign 14 = .ok (.iconst (-1), 1) := by decide +kernel
theorem dX11_sign_15 : decode cX11_sign 15 = .ok (.ireturn, 1) := by decide +kernel
theorem dX11_sign_16 : decode cX11_sign 16 = .ok (.iconst 0, 1) := by decide +kernel
theorem dX11_sign_17 : decode cX11_sign 17 = .ok (.istore_n 2, 1) := by decide +kernel
theorem dX11_sign_18 : decode cX11_sign 18 = .ok (.iload_n 2, 1) := by decide +kernel
theorem dX11_sign_19 : decode cX11_sign 19 = .ok (.iconst 4, 1) := by decide +kernel
theorem dX11_sign_20 : decode cX11_sign 20 = .ok (.if_icmp .ge 33, 3) := by decide +kernel
theorem dX11_sign_23 : decode cX11_sign 23 = .ok (.aload_n 0, 1) := by decide +kernel
theorem dX11_sign_24 : decode cX11_sign 24 = .ok (.getfield 44, 3) := by decide +kernel
theorem dX11_sign_27 : decode cX11_sign 27 = .ok (.aload_n 0, 1) := by decide +kernel
theorem dX11_sign_28 : decode cX11_sign 28 = .ok (.getfield 133, 3) := by decide +kernel
theorem dX11_sign_31 : decode cX11_sign 31 = .ok (.iload_n 2, 1) := by decide +kernel
theorem dX11_sign_32 : decode cX11_sign 32 = .ok (.iadd, 1) := by decide +kernel
theorem dX11_sign_33 : decode cX11_sign 33 = .ok (.iload_n 1, 1) := by decide +kernel
theorem dX11_sign_34 : decode cX11_sign 34 = .ok (.bipush 24, 2) := by decide +kernel
theorem dX11_sign_36 : decode cX11_sign 36 = .ok (.bipush 8, 2) := by decide +kernel
theorem dX11_sign_38 : decode cX11_sign 38 = .ok (.iload_n 2, 1) := by decide +kernel
theorem dX11_sign_39 : decode cX11_sign 39 = .ok (.imul, 1) := by decide +kernel
theorem dX11_sign_40 : decode cX11_sign 40 = .ok (.isub, 1) := by decide +kernel
theorem dX11_sign_41 : decode cX11_sign 41 = .ok (.ishr, 1) := by decide +kernel
theorem dX11_sign_42 : decode cX11_sign 42 = .ok (.sipush 255, 3) := by decide +kernel
theorem dX11_sign_45 : decode cX11_sign 45 = .ok (.iand, 1) := by decide +kernel
theorem dX11_sign_46 : decode cX11_sign 46 = .ok (.iastore, 1) := by decide +kernel
theorem dX11_sign_47 : decode cX11_sign 47 = .ok (.iinc 2 1, 3) := by decide +kernel
theorem dX11_sign_50 : decode cX11_sign 50 = .ok (.goto (-32), 3) := by decide +kernel
theorem dX11_sign_53 : decode cX11_sign 53 = .ok (.aload_n 0, 1) := by decide +kernel
theorem dX11_sign_54 : decode cX11_sign 54 = .ok (.dup, 1) := by decide +kernel
theorem dX11_sign_55 : decode cX11_sign 55 = .ok (.getfield 133, 3) := by decide +kernel
theorem dX11_sign_58 : decode cX11_sign 58 = .ok (.iconst 4, 1) := by decide +kernel
theorem dX11_sign_59 : decode cX11_sign 59 = .ok (.iadd, 1) := by decide +kernel
theorem dX11_sign_60 : decode cX11_sign 60 = .ok (.putfield 133, 3) := by decide +kernel
theorem dX11_sign_63 : decode cX11_sign 63 = .ok (.aload_n 0, 1) := by decide +kernel
theorem dX11_sign_64 : decode cX11_sign 64 = .ok (.getfield 133, 3) := by decide +kernel
theorem dX11_sign_67 : decode cX11_sign 67 = .ok (.ireturn, 1) := by decide +kernel
theorem dX11_end_0 : decode cX11_end 0 = .ok (.aload_n 0, 1) := by decide +kernel
theorem dX11_end_1 : decode cX11_end 1 = .ok (.iconst 0, 1) := by decide +kernel
theorem dX11_end_2 : decode cX11_end 2 = .ok (.putfield 3, 3) := by decide +kernel
theorem dX11_end_5 : decode cX11_end 5 = .ok (.iload_n 1, 1) := by decide +kernel
theorem dX11_end_6 : decode cX11_end 6 = .ok (.i2l, 1) := by decide +kernel
theorem dX11_end_7 : decode cX11_end 7 = .ok (.lconst 0, 1) := by decide +kernel
theorem dX11_end_8 : decode cX11_end 8 = .ok (.aload_n 0, 1) := by decide +kernel
theorem dX11_end_9 : decode cX11_end 9 = .ok (.getfield 133, 3) := by decide +kernel
theorem dX11_end_12 : decode cX11_end 12 = .ok (.i2l, 1) := by decide +kernel
theorem dX11_end_13 : decode cX11_end 13 = .ok (.invokestatic 129, 3) := by decide +kernel
theorem dX11_end_16 : decode cX11_end 16 = .ok (.ifCond .ne 5, 3) := by decide +kernel
theorem dX11_end_19 : decode cX11_end 19 = .ok (.iconst 0, 1) := by decide +kernel
theorem dX11_end_20 : decode cX11_end 20 = .ok (.ireturn, 1) := by decide +kernel
theorem dX11_end_21 : decode cX11_end 21 = .ok (.aload_n 0, 1) := by decide +kernel
theorem dX11_end_22 : decode cX11_end 22 = .ok (.iload_n 1, 1) := by decide +kernel
theorem dX11_end_23 : decode cX11_end 23 = .ok (.putfield 133, 3) := by decide +kernel
theorem dX11_end_26 : decode cX11_end 26 = .ok (.iconst 1, 1) := by decide +kernel
theorem dX11_end_27 : decode cX11_end 27 = .ok (.ireturn, 1) := by decide +kernel
theorem dX11_begins_0 : decode cX11_begins 0 = .ok (.aload_n 0, 1) := by decide +kernel
theorem dX11_begins_1 : decode cX11_begins 1 = .ok (.getfield 133, 3) := by decide +kernel
theorem dX11_begins_4 : decode cX11_begins 4 = .ok (.istore_n 2, 1) := by decide +kernel
theorem dX11_begins_5 : decode cX11_begins 5 = .ok (.aload_n 0, 1) := by decide +kernel
theorem dX11_begins_6 : decode cX11_begins 6 = .ok (.iconst 0, 1) := by decide +kernel
theorem dX11_begins_7 : decode cX11_begins 7 = .ok (.putfield 133, 3) := by decide +kernel
theorem dX11_begins_10 : decode cX11_begins 10 = .ok (.aload_n 0, 1) := by decide +kernel
theorem dX11_begins_11 : decode cX11_begins 11 = .ok (.iconst 0, 1) := by decide +kernel
theorem dX11_begins_12 : decode cX11_begins 12 = .ok (.putfield 136, 3) := by decide +kernel
theorem dX11_begins_15 : decode cX11_begins 15 = .ok (.aload_n 0, 1) := by decide +kernel
theorem dX11_begins_16 : decode cX11_begins 16 = .ok (.iconst 0, 1) := by decide +kernel
theorem dX11_begins_17 : decode cX11_begins 17 = .ok (.putfield 139, 3) := by decide +kernel
theorem dX11_begins_20 : decode cX11_begins 20 = .ok (.aload_n 0, 1) := by decide +kernel
theorem dX11_begins_21 : decode cX11_begins 21 = .ok (.iload_n 2, 1) := by decide +kernel
theorem dX11_begins_22 : decode cX11_begins 22 = .ok (.iload_n 1, 1) := by decide +kernel
theorem dX11_begins_23 : decode cX11_begins 23 = .ok (.invokestatic 142, 3) := by decide +kernel
theorem dX11_begins_26 : decode cX11_begins 26 = .ok (.putfield 148, 3) := by decide +kernel
theorem dX11_begins_29 : decode cX11_begins 29 = .ok (.iload_n 2, 1) := by decide +kernel
theorem dX11_begins_30 : decode cX11_begins 30 = .ok (.ireturn, 1) := by decide +kernel
theorem dX11_takes_0 : decode cX11_takes 0 = .ok (.aload_n 0, 1) := by decide +kernel
theorem dX11_takes_1 : decode cX11_takes 1 = .ok (.getfield 136, 3) := by decide +kernel
theorem dX11_takes_4 : decode cX11_takes 4 = .ok (.aload_n 0, 1) := by decide +kernel
theorem dX11_takes_5 : decode cX11_takes 5 = .ok (.getfield 148, 3) := by decide +kernel
theorem dX11_takes_8 : decode cX11_takes 8 = .ok (.if_icmp .ge 20, 3) := by decide +kernel
theorem dX11_takes_11 : decode cX11_takes 11 = .ok (.aload_n 0, 1) := by decide +kernel
theorem dX11_takes_12 : decode cX11_takes 12 = .ok (.getfield 44, 3) := by decide +kernel
theorem dX11_takes_15 : decode cX11_takes 15 = .ok (.aload_n 0, 1) := by decide +kernel
theorem dX11_takes_16 : decode cX11_takes 16 = .ok (.getfield 136, 3) := by decide +kernel
theorem dX11_takes_19 : decode cX11_takes 19 = .ok (.iaload, 1) := by decide +kernel
theorem dX11_takes_20 : decode cX11_takes 20 = .ok (.iload_n 1, 1) := by decide +kernel
theorem dX11_takes_21 : decode cX11_takes 21 = .ok (.if_icmp .ne 7, 3) := by decide +kernel
theorem dX11_takes_24 : decode cX11_takes 24 = .ok (.iconst 1, 1) := by decide +kernel
theorem dX11_takes_25 : decode cX11_takes 25 = .ok (.goto 4, 3) := by decide +kernel
theorem dX11_takes_28 : decode cX11_takes 28 = .ok (.iconst 0, 1) := by decide +kernel
theorem dX11_takes_29 : decode cX11_takes 29 = .ok (.istore_n 2, 1) := by decide +kernel
theorem dX11_takes_30 : decode cX11_takes 30 = .ok (.aload_n 0, 1) := by decide +kernel
theorem dX11_takes_31 : decode cX11_takes 31 = .ok (.dup, 1) := by decide +kernel
theorem dX11_takes_32 : decode cX11_takes 32 = .ok (.getfield 136, 3) := by decide +kernel
theorem dX11_takes_35 : decode cX11_takes 35 = .ok (.iload_n 2, 1) := by decide +kernel
theorem dX11_takes_36 : decode cX11_takes 36 = .ok (.invokestatic 151, 3) := by decide +kernel
theorem dX11_takes_39 : decode cX11_takes 39 = .ok (.iadd, 1) := by decide +kernel
theorem dX11_takes_40 : decode cX11_takes 40 = .ok (.putfield 136, 3) := by decide +kernel
theorem dX11_takes_43 : decode cX11_takes 43 = .ok (.iload_n 2, 1) := by decide +kernel
theorem dX11_takes_44 : decode cX11_takes 44 = .ok (.ireturn, 1) := by decide +kernel
theorem dX11_isDigit_0 : decode cX11_isDigit 0 = .ok (.aload_n 0, 1) := by decide +kernel
theorem dX11_isDigit_1 : decode cX11_isDigit 1 = .ok (.getfield 136, 3) := by decide +kernel
theorem dX11_isDigit_4 : decode cX11_isDigit 4 = .ok (.aload_n 0, 1) := by decide +kernel
theorem dX11_isDigit_5 : decode cX11_isDigit 5 = .ok (.getfield 148, 3) := by decide +kernel
theorem dX11_isDigit_8 : decode cX11_isDigit 8 = .ok (.if_icmp .ge 29, 3) := by decide +kernel
theorem dX11_isDigit_11 : decode cX11_isDigit 11 = .ok (.aload_n 0, 1) := by decide +kernel
theorem dX11_isDigit_12 : decode cX11_isDigit 12 = .ok (.getfield 44, 3) := by decide +kernel
theorem dX11_isDigit_15 : decode cX11_isDigit 15 = .ok (.aload_n 0, 1) := by decide +kernel
theorem dX11_isDigit_16 : decode cX11_isDigit 16 = .ok (.getfield 136, 3) := by decide +kernel
theorem dX11_isDigit_19 : decode cX11_isDigit 19 = .ok (.iaload, 1) := by decide +kernel
theorem dX11_isDigit_20 : decode cX11_isDigit 20 = .ok (.i2l, 1) := by decide +kernel
theorem dX11_isDigit_21 : decode cX11_isDigit 21 = .ok (.ldc2_w 155, 3) := by decide +kernel
theorem dX11_isDigit_24 : decode cX11_isDigit 24 = .ok (.ldc2_w 157, 3) := by decide +kernel
theorem dX11_isDigit_27 : decode cX11_isDigit 27 = .ok (.invokestatic 129, 3) := by decide +kernel
theorem dX11_isDigit_30 : decode cX11_isDigit 30 = .ok (.ifCond .eq 7, 3) := by decide +kernel
theorem dX11_isDigit_33 : decode cX11_isDigit 33 = .ok (.iconst 1, 1) := by decide +kernel
theorem dX11_isDigit_34 : decode cX11_isDigit 34 = .ok (.goto 4, 3) := by decide +kernel
theorem dX11_isDigit_37 : decode cX11_isDigit 37 = .ok (.iconst 0, 1) := by decide +kernel
theorem dX11_isDigit_38 : decode cX11_isDigit 38 = .ok (.ireturn, 1) := by decide +kernel
theorem dX11_takesOf_0 : decode cX11_takesOf 0 = .ok (.iconst 0, 1) := by decide +kernel
theorem dX11_takesOf_1 : decode cX11_takesOf 1 = .ok (.istore_n 2, 1) := by decide +kernel
theorem dX11_takesOf_2 : decode cX11_takesOf 2 = .ok (.iload_n 2, 1) := by decide +kernel
theorem dX11_takesOf_3 : decode cX11_takesOf 3 = .ok (.aload_n 1, 1) := by decide +kernel
theorem dX11_takesOf_4 : decode cX11_takesOf 4 = .ok (.invokevirtual 159, 3) := by decide +kernel
theorem dX11_takesOf_7 : decode cX11_takesOf 7 = .ok (.if_icmp .ge 49, 3) := by decide +kernel
theorem dX11_takesOf_10 : decode cX11_takesOf 10 = .ok (.aload_n 0, 1) := by decide +kernel
theorem dX11_takesOf_11 : decode cX11_takesOf 11 = .ok (.getfield 136, 3) := by decide +kernel
theorem dX11_takesOf_14 : decode cX11_takesOf 14 = .ok (.aload_n 0, 1) := by decide +kernel
theorem dX11_takesOf_15 : decode cX11_takesOf 15 = .ok (.getfield 148, 3) := by decide +kernel
theorem dX11_takesOf_18 : decode cX11_takesOf 18 = .ok (.if_icmp .ge 38, 3) := by decide +kernel
theorem dX11_takesOf_21 : decode cX11_takesOf 21 = .ok (.aload_n 1, 1) := by decide +kernel
theorem dX11_takesOf_22 : decode cX11_takesOf 22 = .ok (.iload_n 2, 1) := by decide +kernel
theorem dX11_takesOf_23 : decode cX11_takesOf 23 = .ok (.invokevirtual 165, 3) := by decide +kernel
theorem dX11_takesOf_26 : decode cX11_takesOf 26 = .ok (.aload_n 0, 1) := by decide +kernel
theorem dX11_takesOf_27 : decode cX11_takesOf 27 = .ok (.getfield 44, 3) := by decide +kernel
theorem dX11_takesOf_30 : decode cX11_takesOf 30 = .ok (.aload_n 0, 1) := by decide +kernel
theorem dX11_takesOf_31 : decode cX11_takesOf 31 = .ok (.getfield 136, 3) := by decide +kernel
theorem dX11_takesOf_34 : decode cX11_takesOf 34 = .ok (.iaload, 1) := by decide +kernel
theorem dX11_takesOf_35 : decode cX11_takesOf 35 = .ok (.if_icmp .ne 15, 3) := by decide +kernel
theorem dX11_takesOf_38 : decode cX11_takesOf 38 = .ok (.aload_n 0, 1) := by decide +kernel
theorem dX11_takesOf_39 : decode cX11_takesOf 39 = .ok (.dup, 1) := by decide +kernel
theorem dX11_takesOf_40 : decode cX11_takesOf 40 = .ok (.getfield 136, 3) := by decide +kernel
theorem dX11_takesOf_43 : decode cX11_takesOf 43 = .ok (.iconst 1, 1) := by decide +kernel
theorem dX11_takesOf_44 : decode cX11_takesOf 44 = .ok (.iadd, 1) := by decide +kernel
theorem dX11_takesOf_45 : decode cX11_takesOf 45 = .ok (.putfield 136, 3) := by decide +kernel
theorem dX11_takesOf_48 : decode cX11_takesOf 48 = .ok (.iload_n 2, 1) := by decide +kernel
theorem dX11_takesOf_49 : decode cX11_takesOf 49 = .ok (.ireturn, 1) := by decide +kernel
theorem dX11_takesOf_50 : decode cX11_takesOf 50 = .ok (.iinc 2 1, 3) := by decide +kernel
theorem dX11_takesOf_53 : decode cX11_takesOf 53 = .ok (.goto (-51), 3) := by decide +kernel
theorem dX11_takesOf_56 : decode cX11_takesOf 56 = .ok (.iconst (-1), 1) := by decide +kernel
theorem dX11_takesOf_57 : decode cX11_takesOf 57 = .ok (.ireturn, 1) := by decide +kernel
theorem dX11_number_0 : decode cX11_number 0 = .ok (.aload_n 0, 1) := by decide +kernel
theorem dX11_number_1 : decode cX11_number 1 = .ok (.invokevirtual 169, 3) := by decide +kernel
theorem dX11_number_4 : decode cX11_number 4 = .ok (.ifCond .ne 5, 3) := by decide +kernel
theorem dX11_number_7 : decode cX11_number 7 = .ok (.iconst (-1), 1) := by decide +kernel
theorem dX11_number_8 : decode cX11_number 8 = .ok (.ireturn, 1) := by decide +kernel
theorem dX11_number_9 : decode cX11_number 9 = .ok (.iconst 0, 1) := by decide +kernel
theorem dX11_number_10 : decode cX11_number 10 = .ok (.istore_n 2, 1) := by decide +kernel
theorem dX11_number_11 : decode cX11_number 11 = .ok (.iconst 0, 1) := by decide +kernel
theorem dX11_number_12 : decode cX11_number 12 = .ok (.istore_n 3, 1) := by decide +kernel
theorem dX11_number_13 : decode cX11_number 13 = .ok (.iload_n 3, 1) := by decide +kernel
theorem dX11_number_14 : decode cX11_number 14 = .ok (.iload_n 1, 1) := by decide +kernel
theorem dX11_number_15 : decode cX11_number 15 = .ok (.if_icmp .ge 44, 3) := by decide +kernel
theorem dX11_number_18 : decode cX11_number 18 = .ok (.aload_n 0, 1) := by decide +kernel
theorem dX11_number_19 : decode cX11_number 19 = .ok (.invokevirtual 169, 3) := by decide +kernel
theorem dX11_number_22 : decode cX11_number 22 = .ok (.ifCond .eq 37, 3) := by decide +kernel
theorem dX11_number_25 : decode cX11_number 25 = .ok (.bipush 10, 2) := by decide +kernel
theorem dX11_number_27 : decode cX11_number 27 = .ok (.iload_n 2, 1) := by decide +kernel
theorem dX11_number_28 : decode cX11_number 28 = .ok (.imul, 1) := by decide +kernel
theorem dX11_number_29 : decode cX11_number 29 = .ok (.aload_n 0, 1) := by decide +kernel
theorem dX11_number_30 : decode cX11_number 30 = .ok (.getfield 44, 3) := by decide +kernel
theorem dX11_number_33 : decode cX11_number 33 = .ok (.aload_n 0, 1) := by decide +kernel
theorem dX11_number_34 : decode cX11_number 34 = .ok (.getfield 136, 3) := by decide +kernel
theorem dX11_number_37 : decode cX11_number 37 = .ok (.iaload, 1) := by decide +kernel
theorem dX11_number_38 : decode cX11_number 38 = .ok (.iadd, 1) := by decide +kernel
theorem dX11_number_39 : decode cX11_number 39 = .ok (.bipush 48, 2) := by decide +kernel
theorem dX11_number_41 : decode cX11_number 41 = .ok (.isub, 1) := by decide +kernel
theorem dX11_number_42 : decode cX11_number 42 = .ok (.istore_n 2, 1) := by decide +kernel
theorem dX11_number_43 : decode cX11_number 43 = .ok (.aload_n 0, 1) := by decide +kernel
theorem dX11_number_44 : decode cX11_number 44 = .ok (.dup, 1) := by decide +kernel
theorem dX11_number_45 : decode cX11_number 45 = .ok (.getfield 136, 3) := by decide +kernel
theorem dX11_number_48 : decode cX11_number 48 = .ok (.iconst 1, 1) := by decide +kernel
theorem dX11_number_49 : decode cX11_number 49 = .ok (.iadd, 1) := by decide +kernel
theorem dX11_number_50 : decode cX11_number 50 = .ok (.putfield 136, 3) := by decide +kernel
theorem dX11_number_53 : decode cX11_number 53 = .ok (.iinc 3 1, 3) := by decide +kernel
theorem dX11_number_56 : decode cX11_number 56 = .ok (.goto (-43), 3) := by decide +kernel
theorem dX11_number_59 : decode cX11_number 59 = .ok (.iload_n 2, 1) := by decide +kernel
theorem dX11_number_60 : decode cX11_number 60 = .ok (.ireturn, 1) := by decide +kernel
theorem dX11_digitIn_0 : decode cX11_digitIn 0 = .ok (.aload_n 0, 1) := by decide +kernel
theorem dX11_digitIn_1 : decode cX11_digitIn 1 = .ok (.getfield 136, 3) := by decide +kernel
theorem dX11_digitIn_4 : decode cX11_digitIn 4 = .ok (.aload_n 0, 1) := by decide +kernel
theorem dX11_digitIn_5 : decode cX11_digitIn 5 = .ok (.getfield 148, 3) := by decide +kernel
theorem dX11_digitIn_8 : decode cX11_digitIn 8 = .ok (.if_icmp .ge 26, 3) := by decide +kernel
theorem dX11_digitIn_11 : decode cX11_digitIn 11 = .ok (.aload_n 0, 1) := by decide +kernel
theorem dX11_digitIn_12 : decode cX11_digitIn 12 = .ok (.getfield 44, 3) := by decide +kernel
theorem dX11_digitIn_15 : decode cX11_digitIn 15 = .ok (.aload_n 0, 1) := by decide +kernel
theorem dX11_digitIn_16 : decode cX11_digitIn 16 = .ok (.getfield 136, 3) := by decide +kernel
theorem dX11_digitIn_19 : decode cX11_digitIn 19 = .ok (.iaload, 1) := by decide +kernel
theorem dX11_digitIn_20 : decode cX11_digitIn 20 = .ok (.bipush 48, 2) := by decide +kernel
theorem dX11_digitIn_22 : decode cX11_digitIn 22 = .ok (.isub, 1) := by decide +kernel
theorem dX11_digitIn_23 : decode cX11_digitIn 23 = .ok (.i2l, 1) := by decide +kernel
theorem dX11_digitIn_24 : decode cX11_digitIn 24 = .ok (.iload_n 1, 1) := by decide +kernel
theorem dX11_digitIn_25 : decode cX11_digitIn 25 = .ok (.i2l, 1) := by decide +kernel
theorem dX11_digitIn_26 : decode cX11_digitIn 26 = .ok (.iload_n 2, 1) := by decide +kernel
theorem dX11_digitIn_27 : decode cX11_digitIn 27 = .ok (.i2l, 1) := by decide +kernel
theorem dX11_digitIn_28 : decode cX11_digitIn 28 = .ok (.invokestatic 129, 3) := by decide +kernel
theorem dX11_digitIn_31 : decode cX11_digitIn 31 = .ok (.ifCond .ne 5, 3) := by decide +kernel
theorem dX11_digitIn_34 : decode cX11_digitIn 34 = .ok (.iconst (-1), 1) := by decide +kernel
theorem dX11_digitIn_35 : decode cX11_digitIn 35 = .ok (.ireturn, 1) := by decide +kernel
theorem dX11_digitIn_36 : decode cX11_digitIn 36 = .ok (.aload_n 0, 1) := by decide +kernel
theorem dX11_digitIn_37 : decode cX11_digitIn 37 = .ok (.dup, 1) := by decide +kernel
theorem dX11_digitIn_38 : decode cX11_digitIn 38 = .ok (.getfield 136, 3) := by decide +kernel
theorem dX11_digitIn_41 : decode cX11_digitIn 41 = .ok (.iconst 1, 1) := by decide +kernel
theorem dX11_digitIn_42 : decode cX11_digitIn 42 = .ok (.iadd, 1) := by decide +kernel
theorem dX11_digitIn_43 : decode cX11_digitIn 43 = .ok (.putfield 136, 3) := by decide +kernel
theorem dX11_digitIn_46 : decode cX11_digitIn 46 = .ok (.aload_n 0, 1) := by decide +kernel
theorem dX11_digitIn_47 : decode cX11_digitIn 47 = .ok (.getfield 44, 3) := by decide +kernel
theorem dX11_digitIn_50 : decode cX11_digitIn 50 = .ok (.aload_n 0, 1) := by decide +kernel
theorem dX11_digitIn_51 : decode cX11_digitIn 51 = .ok (.getfield 136, 3) := by decide +kernel
theorem dX11_digitIn_54 : decode cX11_digitIn 54 = .ok (.iconst 1, 1) := by decide +kernel
theorem dX11_digitIn_55 : decode cX11_digitIn 55 = .ok (.isub, 1) := by decide +kernel
theorem dX11_digitIn_56 : decode cX11_digitIn 56 = .ok (.iaload, 1) := by decide +kernel
theorem dX11_digitIn_57 : decode cX11_digitIn 57 = .ok (.bipush 48, 2) := by decide +kernel
theorem dX11_digitIn_59 : decode cX11_digitIn 59 = .ok (.isub, 1) := by decide +kernel
theorem dX11_digitIn_60 : decode cX11_digitIn 60 = .ok (.ireturn, 1) := by decide +kernel
theorem dX11_faultOf_0 : decode cX11_faultOf 0 = .ok (.iload_n 3, 1) := by decide +kernel
theorem dX11_faultOf_1 : decode cX11_faultOf 1 = .ok (.ifCond .eq 18, 3) := by decide +kernel
theorem dX11_faultOf_4 : decode cX11_faultOf 4 = .ok (.aload_n 0, 1) := by decide +kernel
theorem dX11_faultOf_5 : decode cX11_faultOf 5 = .ok (.getfield 136, 3) := by decide +kernel
theorem dX11_faultOf_8 : decode cX11_faultOf 8 = .ok (.aload_n 0, 1) := by decide +kernel
theorem dX11_faultOf_9 : decode cX11_faultOf 9 = .ok (.getfield 148, 3) := by decide +kernel
theorem dX11_faultOf_12 : decode cX11_faultOf 12 = .ok (.if_icmp .ne 7, 3) := by decide +kernel
theorem dX11_faultOf_15 : decode cX11_faultOf 15 = .ok (.iconst 1, 1) := by decide +kernel
theorem dX11_faultOf_16 : decode cX11_faultOf 16 = .ok (.goto 4, 3) := by decide +kernel
theorem dX11_faultOf_19 : decode cX11_faultOf 19 = .ok (.iconst 0, 1) := by decide +kernel
theorem dX11_faultOf_20 : decode cX11_faultOf 20 = .ok (.istore 4, 2) := by decide +kernel
theorem dX11_faultOf_22 : decode cX11_faultOf 22 = .ok (.iload_n 1, 1) := by decide +kernel
theorem dX11_faultOf_23 : decode cX11_faultOf 23 = .ok (.iload_n 2, 1) := by decide +kernel
theorem dX11_faultOf_24 : decode cX11_faultOf 24 = .ok (.if_icmp .le 20, 3) := by decide +kernel
theorem dX11_faultOf_27 : decode cX11_faultOf 27 = .ok (.iload 4, 2) := by decide +kernel
theorem dX11_faultOf_29 : decode cX11_faultOf 29 = .ok (.ifCond .ne 11, 3) := by decide +kernel
theorem dX11_faultOf_32 : decode cX11_faultOf 32 = .ok (.aload_n 0, 1) := by decide +kernel
theorem dX11_faultOf_33 : decode cX11_faultOf 33 = .ok (.getfield 136, 3) := by decide +kernel
theorem dX11_faultOf_36 : decode cX11_faultOf 36 = .ok (.iload_n 2, 1) := by decide +kernel
theorem dX11_faultOf_37 : decode cX11_faultOf 37 = .ok (.if_icmp .lt 7, 3) := by decide +kernel
theorem dX11_faultOf_40 : decode cX11_faultOf 40 = .ok (.iconst (-1), 1) := by decide +kernel
theorem dX11_faultOf_41 : decode cX11_faultOf 41 = .ok (.iload_n 2, 1) := by decide +kernel
theorem dX11_faultOf_42 : decode cX11_faultOf 42 = .ok (.isub, 1) := by decide +kernel
theorem dX11_faultOf_43 : decode cX11_faultOf 43 = .ok (.ireturn, 1) := by decide +kernel
theorem dX11_faultOf_44 : decode cX11_faultOf 44 = .ok (.iload 4, 2) := by decide +kernel
theorem dX11_faultOf_46 : decode cX11_faultOf 46 = .ok (.ifCond .eq 7, 3) := by decide +kernel
theorem dX11_faultOf_49 : decode cX11_faultOf 49 = .ok (.iconst 0, 1) := by decide +kernel
theorem dX11_faultOf_50 : decode cX11_faultOf 50 = .ok (.goto 9, 3) := by decide +kernel
theorem dX11_faultOf_53 : decode cX11_faultOf 53 = .ok (.iconst (-1), 1) := by decide +kernel
theorem dX11_faultOf_54 : decode cX11_faultOf 54 = .ok (.aload_n 0, 1) := by decide +kernel
theorem dX11_faultOf_55 : decode cX11_faultOf 55 = .ok (.getfield 136, 3) := by decide +kernel
theorem dX11_faultOf_58 : decode cX11_faultOf 58 = .ok (.isub, 1) := by decide +kernel
theorem dX11_faultOf_59 : decode cX11_faultOf 59 = .ok (.ireturn, 1) := by decide +kernel
theorem dX11_digitOf_0 : decode cX11_digitOf 0 = .ok (.aload_n 0, 1) := by decide +kernel
theorem dX11_digitOf_1 : decode cX11_digitOf 1 = .ok (.iconst 0, 1) := by decide +kernel
theorem dX11_digitOf_2 : decode cX11_digitOf 2 = .ok (.bipush 7, 2) := by decide +kernel
theorem dX11_digitOf_4 : decode cX11_digitOf 4 = .ok (.invokevirtual 173, 3) := by decide +kernel
theorem dX11_digitOf_7 : decode cX11_digitOf 7 = .ok (.istore_n 2, 1) := by decide +kernel
theorem dX11_digitOf_8 : decode cX11_digitOf 8 = .ok (.aload_n 0, 1) := by decide +kernel
theorem dX11_digitOf_9 : decode cX11_digitOf 9 = .ok (.dup, 1) := by decide +kernel
theorem dX11_digitOf_10 : decode cX11_digitOf 10 = .ok (.getfield 136, 3) := by decide +kernel
theorem dX11_digitOf_13 : decode cX11_digitOf 13 = .ok (.iload_n 2, 1) := by decide +kernel
theorem dX11_digitOf_14 : decode cX11_digitOf 14 = .ok (.iload_n 1, 1) := by decide +kernel
theorem dX11_digitOf_15 : decode cX11_digitOf 15 = .ok (.if_icmp .ne 7, 3) := by decide +kernel
theorem dX11_digitOf_18 : decode cX11_digitOf 18 = .ok (.iconst 1, 1) := by decide +kernel
theorem dX11_digitOf_19 : decode cX11_digitOf 19 = .ok (.goto 4, 3) := by decide +kernel
theorem dX11_digitOf_22 : decode cX11_digitOf 22 = .ok (.iconst 0, 1) := by decide +kernel
theorem dX11_digitOf_23 : decode cX11_digitOf 23 = .ok (.invokestatic 151, 3) := by decide +kernel
theorem dX11_digitOf_26 : decode cX11_digitOf 26 = .ok (.isub, 1) := by decide +kernel
theorem dX11_digitOf_27 : decode cX11_digitOf 27 = .ok (.putfield 136, 3) := by decide +kernel
theorem dX11_digitOf_30 : decode cX11_digitOf 30 = .ok (.iload_n 2, 1) := by decide +kernel
theorem dX11_digitOf_31 : decode cX11_digitOf 31 = .ok (.iload_n 1, 1) := by decide +kernel
theorem dX11_digitOf_32 : decode cX11_digitOf 32 = .ok (.if_icmp .ne 7, 3) := by decide +kernel
theorem dX11_digitOf_35 : decode cX11_digitOf 35 = .ok (.iconst (-1), 1) := by decide +kernel
theorem dX11_digitOf_36 : decode cX11_digitOf 36 = .ok (.goto 4, 3) := by decide +kernel
theorem dX11_digitOf_39 : decode cX11_digitOf 39 = .ok (.iload_n 2, 1) := by decide +kernel
theorem dX11_digitOf_40 : decode cX11_digitOf 40 = .ok (.ireturn, 1) := by decide +kernel
theorem dX11_readsLine_0 : decode cX11_readsLine 0 = .ok (.aload_n 0, 1) := by decide +kernel
theorem dX11_readsLine_1 : decode cX11_readsLine 1 = .ok (.getfield 176, 3) := by decide +kernel
theorem dX11_readsLine_4 : decode cX11_readsLine 4 = .ok (.iconst 1, 1) := by decide +kernel
theorem dX11_readsLine_5 : decode cX11_readsLine 5 = .ok (.iadd, 1) := by decide +kernel
theorem dX11_readsLine_6 : decode cX11_readsLine 6 = .ok (.istore_n 1, 1) := by decide +kernel
theorem dX11_readsLine_7 : decode cX11_readsLine 7 = .ok (.iload_n 1, 1) := by decide +kernel
theorem dX11_readsLine_8 : decode cX11_readsLine 8 = .ok (.bipush 8, 2) := by decide +kernel
theorem dX11_readsLine_10 : decode cX11_readsLine 10 = .ok (.if_icmp .ne 5, 3) := by decide +kernel
theorem dX11_readsLine_13 : decode cX11_readsLine 13 = .ok (.iconst 0, 1) := by decide +kernel
theorem dX11_readsLine_14 : decode cX11_readsLine 14 = .ok (.ireturn, 1) := by decide +kernel
theorem dX11_readsLine_15 : decode cX11_readsLine 15 = .ok (.iconst 0, 1) := by decide +kernel
theorem dX11_readsLine_16 : decode cX11_readsLine 16 = .ok (.istore_n 2, 1) := by decide +kernel
theorem dX11_readsLine_17 : decode cX11_readsLine 17 = .ok (.iconst 1, 1) := by decide +kernel
theorem dX11_readsLine_18 : decode cX11_readsLine 18 = .ok (.istore_n 3, 1) := by decide +kernel
theorem dX11_readsLine_19 : decode cX11_readsLine 19 = .ok (.iload_n 3, 1) := by decide +kernel
theorem dX11_readsLine_20 : decode cX11_readsLine 20 = .ok (.ifCond .eq 63, 3) := by decide +kernel
theorem dX11_readsLine_23 : decode cX11_readsLine 23 = .ok (.iload_n 2, 1) := by decide +kernel
theorem dX11_readsLine_24 : decode cX11_readsLine 24 = .ok (.ifCond .eq 10, 3) := by decide +kernel
theorem dX11_readsLine_27 : decode cX11_readsLine 27 = .ok (.aload_n 0, 1) := by decide +kernel
theorem dX11_readsLine_28 : decode cX11_readsLine 28 = .ok (.invokevirtual 169, 3) := by decide +kernel
theorem dX11_readsLine_31 : decode cX11_readsLine 31 = .ok (.ifCond .eq 52, 3) := by decide +kernel
theorem dX11_readsLine_34 : decode cX11_readsLine 34 = .ok (.iload_n 2, 1) := by decide +kernel
theorem dX11_readsLine_35 : decode cX11_readsLine 35 = .ok (.iconst 4, 1) := by decide +kernel
theorem dX11_readsLine_36 : decode cX11_readsLine 36 = .ok (.if_icmp .ge 11, 3) := by decide +kernel
theorem dX11_readsLine_39 : decode cX11_readsLine 39 = .ok (.aload_n 0, 1) := by decide +kernel
theorem dX11_readsLine_40 : decode cX11_readsLine 40 = .ok (.iload_n 1, 1) := by decide +kernel
theorem dX11_readsLine_41 : decode cX11_readsLine 41 = .ok (.invokevirtual 179, 3) := by decide +kernel
theorem dX11_readsLine_44 : decode cX11_readsLine 44 = .ok (.goto 4, 3) := by decide +kernel
theorem dX11_readsLine_47 : decode cX11_readsLine 47 = .ok (.iconst (-1), 1) := by decide +kernel
theorem dX11_readsLine_48 : decode cX11_readsLine 48 = .ok (.istore 4, 2) := by decide +kernel
theorem dX11_readsLine_50 : decode cX11_readsLine 50 = .ok (.iload 4, 2) := by decide +kernel
theorem dX11_readsLine_52 : decode cX11_readsLine 52 = .ok (.ifCond .lt 7, 3) := by decide +kernel
theorem dX11_readsLine_55 : decode cX11_readsLine 55 = .ok (.iconst 1, 1) := by decide +kernel
theorem dX11_readsLine_56 : decode cX11_readsLine 56 = .ok (.goto 4, 3) := by decide +kernel
theorem dX11_readsLine_59 : decode cX11_readsLine 59 = .ok (.iconst 0, 1) := by decide +kernel
theorem dX11_readsLine_60 : decode cX11_readsLine 60 = .ok (.istore_n 3, 1) := by decide +kernel
theorem dX11_readsLine_61 : decode cX11_readsLine 61 = .ok (.iload_n 3, 1) := by decide +kernel
theorem dX11_readsLine_62 : decode cX11_readsLine 62 = .ok (.ifCond .eq 18, 3) := by decide +kernel
theorem dX11_readsLine_65 : decode cX11_readsLine 65 = .ok (.aload_n 0, 1) := by decide +kernel
theorem dX11_readsLine_66 : decode cX11_readsLine 66 = .ok (.getfield 50, 3) := by decide +kernel
theorem dX11_readsLine_69 : decode cX11_readsLine 69 = .ok (.iconst 4, 1) := by decide +kernel
theorem dX11_readsLine_70 : decode cX11_readsLine 70 = .ok (.iload_n 1, 1) := by decide +kernel
theorem dX11_readsLine_71 : decode cX11_readsLine 71 = .ok (.imul, 1) := by decide +kernel
theorem dX11_readsLine_72 : decode cX11_readsLine 72 = .ok (.iload_n 2, 1) := by decide +kernel
theorem dX11_readsLine_73 : decode cX11_readsLine 73 = .ok (.iadd, 1) := by decide +kernel
theorem dX11_readsLine_74 : decode cX11_readsLine 74 = .ok (.iload 4, 2) := by decide +kernel
theorem dX11_readsLine_76 : decode cX11_readsLine 76 = .ok (.iastore, 1) := by decide +kernel
theorem dX11_readsLine_77 : decode cX11_readsLine 77 = .ok (.iinc 2 1, 3) := by decide +kernel
theorem dX11_readsLine_80 : decode cX11_readsLine 80 = .ok (.goto (-61), 3) := by decide +kernel
theorem dX11_readsLine_83 : decode cX11_readsLine 83 = .ok (.aload_n 0, 1) := by decide +kernel
theorem dX11_readsLine_84 : decode cX11_readsLine 84 = .ok (.getfield 47, 3) := by decide +kernel
theorem dX11_readsLine_87 : decode cX11_readsLine 87 = .ok (.iload_n 1, 1) := by decide +kernel
theorem dX11_readsLine_88 : decode cX11_readsLine 88 = .ok (.iload_n 2, 1) := by decide +kernel
theorem dX11_readsLine_89 : decode cX11_readsLine 89 = .ok (.iastore, 1) := by decide +kernel
theorem dX11_readsLine_90 : decode cX11_readsLine 90 = .ok (.aload_n 0, 1) := by decide +kernel
theorem dX11_readsLine_91 : decode cX11_readsLine 91 = .ok (.dup, 1) := by decide +kernel
theorem dX11_readsLine_92 : decode cX11_readsLine 92 = .ok (.getfield 176, 3) := by decide +kernel
theorem dX11_readsLine_95 : decode cX11_readsLine 95 = .ok (.iconst 1, 1) := by decide +kernel
theorem dX11_readsLine_96 : decode cX11_readsLine 96 = .ok (.iadd, 1) := by decide +kernel
theorem dX11_readsLine_97 : decode cX11_readsLine 97 = .ok (.putfield 176, 3) := by decide +kernel
theorem dX11_readsLine_100 : decode cX11_readsLine 100 = .ok (.iload_n 3, 1) := by decide +kernel
theorem dX11_readsLine_101 : decode cX11_readsLine 101 = .ok (.ireturn, 1) := by decide +kernel
theorem dX11_allCome_0 : decode cX11_allCome 0 = .ok (.iconst 1, 1) := by decide +kernel
theorem dX11_allCome_1 : decode cX11_allCome 1 = .ok (.istore_n 1, 1) := by decide +kernel
theorem dX11_allCome_2 : decode cX11_allCome 2 = .ok (.iconst 0, 1) := by decide +kernel
theorem dX11_allCome_3 : decode cX11_allCome 3 = .ok (.istore_n 2, 1) := by decide +kernel
theorem dX11_allCome_4 : decode cX11_allCome 4 = .ok (.iload_n 2, 1) := by decide +kernel
theorem dX11_allCome_5 : decode cX11_allCome 5 = .ok (.bipush 8, 2) := by decide +kernel
theorem dX11_allCome_7 : decode cX11_allCome 7 = .ok (.if_icmp .ge 73, 3) := by decide +kernel
theorem dX11_allCome_10 : decode cX11_allCome 10 = .ok (.iconst 1, 1) := by decide +kernel
theorem dX11_allCome_11 : decode cX11_allCome 11 = .ok (.istore_n 3, 1) := by decide +kernel
theorem dX11_allCome_12 : decode cX11_allCome 12 = .ok (.iload_n 3, 1) := by decide +kernel
theorem dX11_allCome_13 : decode cX11_allCome 13 = .ok (.aload_n 0, 1) := by decide +kernel
theorem dX11_allCome_14 : decode cX11_allCome 14 = .ok (.getfield 176, 3) := by decide +kernel
theorem dX11_allCome_17 : decode cX11_allCome 17 = .ok (.if_icmp .gt 57, 3) := by decide +kernel
theorem dX11_allCome_20 : decode cX11_allCome 20 = .ok (.iconst 0, 1) := by decide +kernel
theorem dX11_allCome_21 : decode cX11_allCome 21 = .ok (.istore 4, 2) := by decide +kernel
theorem dX11_allCome_23 : decode cX11_allCome 23 = .ok (.iload 4, 2) := by decide +kernel
theorem dX11_allCome_25 : decode cX11_allCome 25 = .ok (.aload_n 0, 1) := by decide +kernel
theorem dX11_allCome_26 : decode cX11_allCome 26 = .ok (.getfield 47, 3) := by decide +kernel
theorem dX11_allCome_29 : decode cX11_allCome 29 = .ok (.iload_n 3, 1) := by decide +kernel
theorem dX11_allCome_30 : decode cX11_allCome 30 = .ok (.iaload, 1) := by decide +kernel
theorem dX11_allCome_31 : decode cX11_allCome 31 = .ok (.if_icmp .ge 37, 3) := by decide +kernel
theorem dX11_allCome_34 : decode cX11_allCome 34 = .ok (.iload_n 1, 1) := by decide +kernel
theorem dX11_allCome_35 : decode cX11_allCome 35 = .ok (.iload_n 1, 1) := by decide +kernel
theorem dX11_allCome_36 : decode cX11_allCome 36 = .ok (.aload_n 0, 1) := by decide +kernel
theorem dX11_allCome_37 : decode cX11_allCome 37 = .ok (.getfield 50, 3) := by decide +kernel
theorem dX11_allCome_40 : decode cX11_allCome 40 = .ok (.iconst 4, 1) := by decide +kernel
theorem dX11_allCome_41 : decode cX11_allCome 41 = .ok (.iload_n 3, 1) := by decide +kernel
theorem dX11_allCome_42 : decode cX11_allCome 42 = .ok (.imul, 1) := by decide +kernel
theorem dX11_allCome_43 : decode cX11_allCome 43 = .ok (.iload 4, 2) := by decide +kernel
theorem dX11_allCome_45 : decode cX11_allCome 45 = .ok (.iadd, 1) := by decide +kernel
theorem dX11_allCome_46 : decode cX11_allCome 46 = .ok (.iaload, 1) := by decide +kernel
theorem dX11_allCome_47 : decode cX11_allCome 47 = .ok (.invokestatic 183, 3) := by decide +kernel
theorem dX11_allCome_50 : decode cX11_allCome 50 = .ok (.ifCond .eq 9, 3) := by decide +kernel
theorem dX11_allCome_53 : decode cX11_allCome 53 = .ok (.iconst 1, 1) := by decide +kernel
theorem dX11_allCome_54 : decode cX11_allCome 54 = .ok (.iload_n 3, 1) := by decide +kernel
theorem dX11_allCome_55 : decode cX11_allCome 55 = .ok (.ishl, 1) := by decide +kernel
theorem dX11_allCome_56 : decode cX11_allCome 56 = .ok (.goto 4, 3) := by decide +kernel
theorem dX11_allCome_59 : decode cX11_allCome 59 = .ok (.iconst 0, 1) := by decide +kernel
theorem dX11_allCome_60 : decode cX11_allCome 60 = .ok (.ior, 1) := by decide +kernel
theorem dX11_allCome_61 : decode cX11_allCome 61 = .ok (.istore_n 1, 1) := by decide +kernel
theorem dX11_allCome_62 : decode cX11_allCome 62 = .ok (.iinc 4 1, 3) := by decide +kernel
theorem dX11_allCome_65 : decode cX11_allCome 65 = .ok (.goto (-42), 3) := by decide +kernel
theorem dX11_allCome_68 : decode cX11_allCome 68 = .ok (.iinc 3 1, 3) := by decide +kernel
theorem dX11_allCome_71 : decode cX11_allCome 71 = .ok (.goto (-59), 3) := by decide +kernel
theorem dX11_allCome_74 : decode cX11_allCome 74 = .ok (.iinc 2 1, 3) := by decide +kernel
theorem dX11_allCome_77 : decode cX11_allCome 77 = .ok (.goto (-73), 3) := by decide +kernel
theorem dX11_allCome_80 : decode cX11_allCome 80 = .ok (.iload_n 1, 1) := by decide +kernel
theorem dX11_allCome_81 : decode cX11_allCome 81 = .ok (.iconst 1, 1) := by decide +kernel
theorem dX11_allCome_82 : decode cX11_allCome 82 = .ok (.aload_n 0, 1) := by decide +kernel
theorem dX11_allCome_83 : decode cX11_allCome 83 = .ok (.getfield 176, 3) := by decide +kernel
theorem dX11_allCome_86 : decode cX11_allCome 86 = .ok (.iconst 1, 1) := by decide +kernel
theorem dX11_allCome_87 : decode cX11_allCome 87 = .ok (.iadd, 1) := by decide +kernel
theorem dX11_allCome_88 : decode cX11_allCome 88 = .ok (.ishl, 1) := by decide +kernel
theorem dX11_allCome_89 : decode cX11_allCome 89 = .ok (.iconst 1, 1) := by decide +kernel
theorem dX11_allCome_90 : decode cX11_allCome 90 = .ok (.isub, 1) := by decide +kernel
theorem dX11_allCome_91 : decode cX11_allCome 91 = .ok (.if_icmp .ne 7, 3) := by decide +kernel
theorem dX11_allCome_94 : decode cX11_allCome 94 = .ok (.iconst 1, 1) := by decide +kernel
theorem dX11_allCome_95 : decode cX11_allCome 95 = .ok (.goto 4, 3) := by decide +kernel
theorem dX11_allCome_98 : decode cX11_allCome 98 = .ok (.iconst 0, 1) := by decide +kernel
theorem dX11_allCome_99 : decode cX11_allCome 99 = .ok (.ireturn, 1) := by decide +kernel
theorem dX11_net_0 : decode cX11_net 0 = .ok (.aload_n 0, 1) := by decide +kernel
theorem dX11_net_1 : decode cX11_net 1 = .ok (.iconst 0, 1) := by decide +kernel
theorem dX11_net_2 : decode cX11_net 2 = .ok (.putfield 3, 3) := by decide +kernel
theorem dX11_net_5 : decode cX11_net 5 = .ok (.aload_n 0, 1) := by decide +kernel
theorem dX11_net_6 : decode cX11_net 6 = .ok (.bipush 80, 2) := by decide +kernel
theorem dX11_net_8 : decode cX11_net 8 = .ok (.invokevirtual 187, 3) := by decide +kernel
theorem dX11_net_11 : decode cX11_net 11 = .ok (.pop, 1) := by decide +kernel
theorem dX11_net_12 : decode cX11_net 12 = .ok (.aload_n 0, 1) := by decide +kernel
theorem dX11_net_13 : decode cX11_net 13 = .ok (.iconst 0, 1) := by decide +kernel
theorem dX11_net_14 : decode cX11_net 14 = .ok (.putfield 176, 3) := by decide +kernel
theorem dX11_net_17 : decode cX11_net 17 = .ok (.iconst 1, 1) := by decide +kernel
theorem dX11_net_18 : decode cX11_net 18 = .ok (.istore_n 1, 1) := by decide +kernel
theorem dX11_net_19 : decode cX11_net 19 = .ok (.iconst 1, 1) := by decide +kernel
theorem dX11_net_20 : decode cX11_net 20 = .ok (.istore_n 2, 1) := by decide +kernel
theorem dX11_net_21 : decode cX11_net 21 = .ok (.iload_n 2, 1) := by decide +kernel
theorem dX11_net_22 : decode cX11_net 22 = .ok (.ifCond .eq 30, 3) := by decide +kernel
theorem dX11_net_25 : decode cX11_net 25 = .ok (.aload_n 0, 1) := by decide +kernel
theorem dX11_net_26 : decode cX11_net 26 = .ok (.invokevirtual 190, 3) := by decide +kernel
theorem dX11_net_29 : decode cX11_net 29 = .ok (.istore_n 1, 1) := by decide +kernel
theorem dX11_net_30 : decode cX11_net 30 = .ok (.iload_n 1, 1) := by decide +kernel
theorem dX11_net_31 : decode cX11_net 31 = .ok (.ifCond .eq 16, 3) := by decide +kernel
theorem dX11_net_34 : decode cX11_net 34 = .ok (.aload_n 0, 1) := by decide +kernel
theorem dX11_net_35 : decode cX11_net 35 = .ok (.bipush 59, 2) := by decide +kernel
theorem dX11_net_37 : decode cX11_net 37 = .ok (.invokevirtual 193, 3) := by decide +kernel
theorem dX11_net_40 : decode cX11_net 40 = .ok (.ifCond .eq 7, 3) := by decide +kernel
theorem dX11_net_43 : decode cX11_net 43 = .ok (.iconst 1, 1) := by decide +kernel
theorem dX11_net_44 : decode cX11_net 44 = .ok (.goto 4, 3) := by decide +kernel
theorem dX11_net_47 : decode cX11_net 47 = .ok (.iconst 0, 1) := by decide +kernel
theorem dX11_net_48 : decode cX11_net 48 = .ok (.istore_n 2, 1) := by decide +kernel
theorem dX11_net_49 : decode cX11_net 49 = .ok (.goto (-28), 3) := by decide +kernel
theorem dX11_net_52 : decode cX11_net 52 = .ok (.iload_n 1, 1) := by decide +kernel
theorem dX11_net_53 : decode cX11_net 53 = .ok (.ifCond .eq 14, 3) := by decide +kernel
theorem dX11_net_56 : decode cX11_net 56 = .ok (.aload_n 0, 1) := by decide +kernel
theorem dX11_net_57 : decode cX11_net 57 = .ok (.getfield 136, 3) := by decide +kernel
theorem dX11_net_60 : decode cX11_net 60 = .ok (.aload_n 0, 1) := by decide +kernel
theorem dX11_net_61 : decode cX11_net 61 = .ok (.getfield 148, 3) := by decide +kernel
theorem dX11_net_64 : decode cX11_net 64 = .ok (.if_icmp .ge 10, 3) := by decide +kernel
theorem dX11_net_67 : decode cX11_net 67 = .ok (.iconst (-1), 1) := by decide +kernel
theorem dX11_net_68 : decode cX11_net 68 = .ok (.aload_n 0, 1) := by decide +kernel
theorem dX11_net_69 : decode cX11_net 69 = .ok (.getfield 136, 3) := by decide +kernel
theorem dX11_net_72 : decode cX11_net 72 = .ok (.isub, 1) := by decide +kernel
theorem dX11_net_73 : decode cX11_net 73 = .ok (.ireturn, 1) := by decide +kernel
theorem dX11_net_74 : decode cX11_net 74 = .ok (.iconst 1, 1) := by decide +kernel
theorem dX11_net_75 : decode cX11_net 75 = .ok (.istore_n 3, 1) := by decide +kernel
theorem dX11_net_76 : decode cX11_net 76 = .ok (.iload_n 3, 1) := by decide +kernel
theorem dX11_net_77 : decode cX11_net 77 = .ok (.aload_n 0, 1) := by decide +kernel
theorem dX11_net_78 : decode cX11_net 78 = .ok (.getfield 176, 3) := by decide +kernel
theorem dX11_net_81 : decode cX11_net 81 = .ok (.if_icmp .gt 50, 3) := by decide +kernel
theorem dX11_net_84 : decode cX11_net 84 = .ok (.iconst 0, 1) := by decide +kernel
theorem dX11_net_85 : decode cX11_net 85 = .ok (.istore 4, 2) := by decide +kernel
theorem dX11_net_87 : decode cX11_net 87 = .ok (.iload 4, 2) := by decide +kernel
theorem dX11_net_89 : decode cX11_net 89 = .ok (.aload_n 0, 1) := by decide +kernel
theorem dX11_net_90 : decode cX11_net 90 = .ok (.getfield 47, 3) := by decide +kernel
theorem dX11_net_93 : decode cX11_net 93 = .ok (.iload_n 3, 1) := by decide +kernel
theorem dX11_net_94 : decode cX11_net 94 = .ok (.iaload, 1) := by decide +kernel
theorem dX11_net_95 : decode cX11_net 95 = .ok (.if_icmp .ge 30, 3) := by decide +kernel
theorem dX11_net_98 : decode cX11_net 98 = .ok (.aload_n 0, 1) := by decide +kernel
theorem dX11_net_99 : decode cX11_net 99 = .ok (.getfield 50, 3) := by decide +kernel
theorem dX11_net_102 : decode cX11_net 102 = .ok (.iconst 4, 1) := by decide +kernel
theorem dX11_net_103 : decode cX11_net 103 = .ok (.iload_n 3, 1) := by decide +kernel
theorem dX11_net_104 : decode cX11_net 104 = .ok (.imul, 1) := by decide +kernel
theorem dX11_net_105 : decode cX11_net 105 = .ok (.iload 4, 2) := by decide +kernel
theorem dX11_net_107 : decode cX11_net 107 = .ok (.iadd, 1) := by decide +kernel
theorem dX11_net_108 : decode cX11_net 108 = .ok (.iaload, 1) := by decide +kernel
theorem dX11_net_109 : decode cX11_net 109 = .ok (.aload_n 0, 1) := by decide +kernel
theorem dX11_net_110 : decode cX11_net 110 = .ok (.getfield 176, 3) := by decide +kernel
theorem dX11_net_113 : decode cX11_net 113 = .ok (.if_icmp .le 6, 3) := by decide +kernel
theorem dX11_net_116 : decode cX11_net 116 = .ok (.bipush (-100), 2) := by decide +kernel
theorem dX11_net_118 : decode cX11_net 118 = .ok (.ireturn, 1) := by decide +kernel
theorem dX11_net_119 : decode cX11_net 119 = .ok (.iinc 4 1, 3) := by decide +kernel
theorem dX11_net_122 : decode cX11_net 122 = .ok (.goto (-35), 3) := by decide +kernel
theorem dX11_net_125 : decode cX11_net 125 = .ok (.iinc 3 1, 3) := by decide +kernel
theorem dX11_net_128 : decode cX11_net 128 = .ok (.goto (-52), 3) := by decide +kernel
theorem dX11_net_131 : decode cX11_net 131 = .ok (.aload_n 0, 1) := by decide +kernel
theorem dX11_net_132 : decode cX11_net 132 = .ok (.invokevirtual 197, 3) := by decide +kernel
theorem dX11_net_135 : decode cX11_net 135 = .ok (.ifCond .ne 6, 3) := by decide +kernel
theorem dX11_net_138 : decode cX11_net 138 = .ok (.bipush (-101), 2) := by decide +kernel
theorem dX11_net_140 : decode cX11_net 140 = .ok (.ireturn, 1) := by decide +kernel
theorem dX11_net_141 : decode cX11_net 141 = .ok (.aload_n 0, 1) := by decide +kernel
theorem dX11_net_142 : decode cX11_net 142 = .ok (.aload_n 0, 1) := by decide +kernel
theorem dX11_net_143 : decode cX11_net 143 = .ok (.getfield 176, 3) := by decide +kernel
theorem dX11_net_146 : decode cX11_net 146 = .ok (.iconst 1, 1) := by decide +kernel
theorem dX11_net_147 : decode cX11_net 147 = .ok (.iadd, 1) := by decide +kernel
theorem dX11_net_148 : decode cX11_net 148 = .ok (.putfield 28, 3) := by decide +kernel
theorem dX11_net_151 : decode cX11_net 151 = .ok (.iconst 1, 1) := by decide +kernel
theorem dX11_net_152 : decode cX11_net 152 = .ok (.istore_n 3, 1) := by decide +kernel
theorem dX11_net_153 : decode cX11_net 153 = .ok (.iload_n 3, 1) := by decide +kernel
theorem dX11_net_154 : decode cX11_net 154 = .ok (.aload_n 0, 1) := by decide +kernel
theorem dX11_net_155 : decode cX11_net 155 = .ok (.getfield 28, 3) := by decide +kernel
theorem dX11_net_158 : decode cX11_net 158 = .ok (.if_icmp .ge 58, 3) := by decide +kernel
theorem dX11_net_161 : decode cX11_net 161 = .ok (.aload_n 0, 1) := by decide +kernel
theorem dX11_net_162 : decode cX11_net 162 = .ok (.getfield 31, 3) := by decide +kernel
theorem dX11_net_165 : decode cX11_net 165 = .ok (.iload_n 3, 1) := by decide +kernel
theorem dX11_net_166 : decode cX11_net 166 = .ok (.aload_n 0, 1) := by decide +kernel
theorem dX11_net_167 : decode cX11_net 167 = .ok (.getfield 47, 3) := by decide +kernel
theorem dX11_net_170 : decode cX11_net 170 = .ok (.iload_n 3, 1) := by decide +kernel
theorem dX11_net_171 : decode cX11_net 171 = .ok (.iaload, 1) := by decide +kernel
theorem dX11_net_172 : decode cX11_net 172 = .ok (.iastore, 1) := by decide +kernel
theorem dX11_net_173 : decode cX11_net 173 = .ok (.iconst 0, 1) := by decide +kernel
theorem dX11_net_174 : decode cX11_net 174 = .ok (.istore 4, 2) := by decide +kernel
theorem dX11_net_176 : decode cX11_net 176 = .ok (.iload 4, 2) := by decide +kernel
theorem dX11_net_178 : decode cX11_net 178 = .ok (.iconst 4, 1) := by decide +kernel
theorem dX11_net_179 : decode cX11_net 179 = .ok (.if_icmp .ge 31, 3) := by decide +kernel
theorem dX11_net_182 : decode cX11_net 182 = .ok (.aload_n 0, 1) := by decide +kernel
theorem dX11_net_183 : decode cX11_net 183 = .ok (.getfield 35, 3) := by decide +kernel
theorem dX11_net_186 : decode cX11_net 186 = .ok (.iconst 4, 1) := by decide +kernel
theorem dX11_net_187 : decode cX11_net 187 = .ok (.iload_n 3, 1) := by decide +kernel
theorem dX11_net_188 : decode cX11_net 188 = .ok (.imul, 1) := by decide +kernel
theorem dX11_net_189 : decode cX11_net 189 = .ok (.iload 4, 2) := by decide +kernel
theorem dX11_net_191 : decode cX11_net 191 = .ok (.iadd, 1) := by decide +kernel
theorem dX11_net_192 : decode cX11_net 192 = .ok (.aload_n 0, 1) := by decide +kernel
theorem dX11_net_193 : decode cX11_net 193 = .ok (.getfield 50, 3) := by decide +kernel
theorem dX11_net_196 : decode cX11_net 196 = .ok (.iconst 4, 1) := by decide +kernel
theorem dX11_net_197 : decode cX11_net 197 = .ok (.iload_n 3, 1) := by decide +kernel
theorem dX11_net_198 : decode cX11_net 198 = .ok (.imul, 1) := by decide +kernel
theorem dX11_net_199 : decode cX11_net 199 = .ok (.iload 4, 2) := by decide +kernel
theorem dX11_net_201 : decode cX11_net 201 = .ok (.iadd, 1) := by decide +kernel
theorem dX11_net_202 : decode cX11_net 202 = .ok (.iaload, 1) := by decide +kernel
theorem dX11_net_203 : decode cX11_net 203 = .ok (.iastore, 1) := by decide +kernel
theorem dX11_net_204 : decode cX11_net 204 = .ok (.iinc 4 1, 3) := by decide +kernel
theorem dX11_net_207 : decode cX11_net 207 = .ok (.goto (-31), 3) := by decide +kernel
theorem dX11_net_210 : decode cX11_net 210 = .ok (.iinc 3 1, 3) := by decide +kernel
theorem dX11_net_213 : decode cX11_net 213 = .ok (.goto (-60), 3) := by decide +kernel
theorem dX11_net_216 : decode cX11_net 216 = .ok (.iconst 0, 1) := by decide +kernel
theorem dX11_net_217 : decode cX11_net 217 = .ok (.istore_n 3, 1) := by decide +kernel
theorem dX11_net_218 : decode cX11_net 218 = .ok (.iload_n 3, 1) := by decide +kernel
theorem dX11_net_219 : decode cX11_net 219 = .ok (.bipush 17, 2) := by decide +kernel
theorem dX11_net_221 : decode cX11_net 221 = .ok (.if_icmp .ge 16, 3) := by decide +kernel
theorem dX11_net_224 : decode cX11_net 224 = .ok (.aload_n 0, 1) := by decide +kernel
theorem dX11_net_225 : decode cX11_net 225 = .ok (.getfield 38, 3) := by decide +kernel
theorem dX11_net_228 : decode cX11_net 228 = .ok (.iload_n 3, 1) := by decide +kernel
theorem dX11_net_229 : decode cX11_net 229 = .ok (.iconst 0, 1) := by decide +kernel
theorem dX11_net_230 : decode cX11_net 230 = .ok (.iastore, 1) := by decide +kernel
theorem dX11_net_231 : decode cX11_net 231 = .ok (.iinc 3 1, 3) := by decide +kernel
theorem dX11_net_234 : decode cX11_net 234 = .ok (.goto (-16), 3) := by decide +kernel
theorem dX11_net_237 : decode cX11_net 237 = .ok (.aload_n 0, 1) := by decide +kernel
theorem dX11_net_238 : decode cX11_net 238 = .ok (.iconst 0, 1) := by decide +kernel
theorem dX11_net_239 : decode cX11_net 239 = .ok (.putfield 200, 3) := by decide +kernel
theorem dX11_net_242 : decode cX11_net 242 = .ok (.aload_n 0, 1) := by decide +kernel
theorem dX11_net_243 : decode cX11_net 243 = .ok (.iconst 0, 1) := by decide +kernel
theorem dX11_net_244 : decode cX11_net 244 = .ok (.putfield 203, 3) := by decide +kernel
theorem dX11_net_247 : decode cX11_net 247 = .ok (.aload_n 0, 1) := by decide +kernel
theorem dX11_net_248 : decode cX11_net 248 = .ok (.iconst 0, 1) := by decide +kernel
theorem dX11_net_249 : decode cX11_net 249 = .ok (.putfield 206, 3) := by decide +kernel
theorem dX11_net_252 : decode cX11_net 252 = .ok (.iconst 0, 1) := by decide +kernel
theorem dX11_net_253 : decode cX11_net 253 = .ok (.istore_n 3, 1) := by decide +kernel
theorem dX11_net_254 : decode cX11_net 254 = .ok (.iload_n 3, 1) := by decide +kernel
theorem dX11_net_255 : decode cX11_net 255 = .ok (.iconst 3, 1) := by decide +kernel
theorem dX11_net_256 : decode cX11_net 256 = .ok (.if_icmp .ge 16, 3) := by decide +kernel
theorem dX11_net_259 : decode cX11_net 259 = .ok (.aload_n 0, 1) := by decide +kernel
theorem dX11_net_260 : decode cX11_net 260 = .ok (.getfield 123, 3) := by decide +kernel
theorem dX11_net_263 : decode cX11_net 263 = .ok (.iload_n 3, 1) := by decide +kernel
theorem dX11_net_264 : decode cX11_net 264 = .ok (.iconst 0, 1) := by decide +kernel
theorem dX11_net_265 : decode cX11_net 265 = .ok (.bastore, 1) := by decide +kernel
theorem dX11_net_266 : decode cX11_net 266 = .ok (.iinc 3 1, 3) := by decide +kernel
theorem dX11_net_269 : decode cX11_net 269 = .ok (.goto (-15), 3) := by decide +kernel
theorem dX11_net_272 : decode cX11_net 272 = .ok (.aload_n 0, 1) := by decide +kernel
theorem dX11_net_273 : decode cX11_net 273 = .ok (.getfield 28, 3) := by decide +kernel
theorem dX11_net_276 : decode cX11_net 276 = .ok (.ireturn, 1) := by decide +kernel
theorem dX11_codes_0 : decode cX11_codes 0 = .ok (.aload_n 0, 1) := by decide +kernel
theorem dX11_codes_1 : decode cX11_codes 1 = .ok (.getfield 56, 3) := by decide +kernel
theorem dX11_codes_4 : decode cX11_codes 4 = .ok (.aload_n 0, 1) := by decide +kernel
theorem dX11_codes_5 : decode cX11_codes 5 = .ok (.getfield 209, 3) := by decide +kernel
theorem dX11_codes_8 : decode cX11_codes 8 = .ok (.iload_n 1, 1) := by decide +kernel
theorem dX11_codes_9 : decode cX11_codes 9 = .ok (.iastore, 1) := by decide +kernel
theorem dX11_codes_10 : decode cX11_codes 10 = .ok (.aload_n 0, 1) := by decide +kernel
theorem dX11_codes_11 : decode cX11_codes 11 = .ok (.dup, 1) := by decide +kernel
theorem dX11_codes_12 : decode cX11_codes 12 = .ok (.getfield 209, 3) := by decide +kernel
theorem dX11_codes_15 : decode cX11_codes 15 = .ok (.iconst 1, 1) := by decide +kernel
theorem dX11_codes_16 : decode cX11_codes 16 = .ok (.iadd, 1) := by decide +kernel
theorem dX11_codes_17 : decode cX11_codes 17 = .ok (.putfield 209, 3) := by decide +kernel
theorem dX11_codes_20 : decode cX11_codes 20 = .ok (.return_, 1) := by decide +kernel
