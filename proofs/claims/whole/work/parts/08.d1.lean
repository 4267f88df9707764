theorem dX5_makeUnit_0 : decode cX5_makeUnit 0 = .ok (.aload_n 0, 1) := by decide +kernel
theorem dX5_makeUnit_1 : decode cX5_makeUnit 1 = .ok (.aload_n 1, 1) := by decide +kernel
theorem dX5_makeUnit_2 : decode cX5_makeUnit 2 = .ok (.invokevirtual 43, 3) := by decide +kernel
theorem dX5_makeUnit_5 : decode cX5_makeUnit 5 = .ok (.aload_n 0, 1) := by decide +kernel
theorem dX5_makeUnit_6 : decode cX5_makeUnit 6 = .ok (.aload_n 1, 1) := by decide +kernel
theorem dX5_makeUnit_7 : decode cX5_makeUnit 7 = .ok (.invokevirtual 47, 3) := by decide +kernel
theorem dX5_makeUnit_10 : decode cX5_makeUnit 10 = .ok (.ifCond .ge 6, 3) := by decide +kernel
theorem dX5_makeUnit_13 : decode cX5_makeUnit 13 = .ok (.bipush (-3), 2) := by decide +kernel
theorem dX5_makeUnit_15 : decode cX5_makeUnit 15 = .ok (.ireturn, 1) := by decide +kernel
theorem dX5_makeUnit_16 : decode cX5_makeUnit 16 = .ok (.iconst 0, 1) := by decide +kernel
theorem dX5_makeUnit_17 : decode cX5_makeUnit 17 = .ok (.istore_n 2, 1) := by decide +kernel
theorem dX5_makeUnit_18 : decode cX5_makeUnit 18 = .ok (.iload_n 2, 1) := by decide +kernel
theorem dX5_makeUnit_19 : decode cX5_makeUnit 19 = .ok (.bipush 8, 2) := by decide +kernel
theorem dX5_makeUnit_21 : decode cX5_makeUnit 21 = .ok (.if_icmp .ge 21, 3) := by decide +kernel
theorem dX5_makeUnit_24 : decode cX5_makeUnit 24 = .ok (.aload_n 0, 1) := by decide +kernel
theorem dX5_makeUnit_25 : decode cX5_makeUnit 25 = .ok (.getfield 18, 3) := by decide +kernel
theorem dX5_makeUnit_28 : decode cX5_makeUnit 28 = .ok (.iload_n 2, 1) := by decide +kernel
theorem dX5_makeUnit_29 : decode cX5_makeUnit 29 = .ok (.aload_n 0, 1) := by decide +kernel
theorem dX5_makeUnit_30 : decode cX5_makeUnit 30 = .ok (.getfield 9, 3) := by decide +kernel
theorem dX5_makeUnit_33 : decode cX5_makeUnit 33 = .ok (.iload_n 2, 1) := by decide +kernel
theorem dX5_makeUnit_34 : decode cX5_makeUnit 34 = .ok (.iaload, 1) := by decide +kernel
theorem dX5_makeUnit_35 : decode cX5_makeUnit 35 = .ok (.iastore, 1) := by decide +kernel
theorem dX5_makeUnit_36 : decode cX5_makeUnit 36 = .ok (.iinc 2 1, 3) := by decide +kernel
theorem dX5_makeUnit_39 : decode cX5_makeUnit 39 = .ok (.goto (-21), 3) := by decide +kernel
theorem dX5_makeUnit_42 : decode cX5_makeUnit 42 = .ok (.aload_n 0, 1) := by decide +kernel
theorem dX5_makeUnit_43 : decode cX5_makeUnit 43 = .ok (.aload_n 1, 1) := by decide +kernel
theorem dX5_makeUnit_44 : decode cX5_makeUnit 44 = .ok (.invokevirtual 43, 3) := by decide +kernel
theorem dX5_makeUnit_47 : decode cX5_makeUnit 47 = .ok (.iconst 0, 1) := by decide +kernel
theorem dX5_makeUnit_48 : decode cX5_makeUnit 48 = .ok (.istore_n 2, 1) := by decide +kernel
theorem dX5_makeUnit_49 : decode cX5_makeUnit 49 = .ok (.iload_n 2, 1) := by decide +kernel
theorem dX5_makeUnit_50 : decode cX5_makeUnit 50 = .ok (.bipush 8, 2) := by decide +kernel
theorem dX5_makeUnit_52 : decode cX5_makeUnit 52 = .ok (.if_icmp .ge 24, 3) := by decide +kernel
theorem dX5_makeUnit_55 : decode cX5_makeUnit 55 = .ok (.aload_n 0, 1) := by decide +kernel
theorem dX5_makeUnit_56 : decode cX5_makeUnit 56 = .ok (.getfield 9, 3) := by decide +kernel
theorem dX5_makeUnit_59 : decode cX5_makeUnit 59 = .ok (.iload_n 2, 1) := by decide +kernel
theorem dX5_makeUnit_60 : decode cX5_makeUnit 60 = .ok (.dup2, 1) := by decide +kernel
theorem dX5_makeUnit_61 : decode cX5_makeUnit 61 = .ok (.iaload, 1) := by decide +kernel
theorem dX5_makeUnit_62 : decode cX5_makeUnit 62 = .ok (.aload_n 0, 1) := by decide +kernel
theorem dX5_makeUnit_63 : decode cX5_makeUnit 63 = .ok (.getfield 18, 3) := by decide +kernel
theorem dX5_makeUnit_66 : decode cX5_makeUnit 66 = .ok (.iload_n 2, 1) := by decide +kernel
theorem dX5_makeUnit_67 : decode cX5_makeUnit 67 = .ok (.iaload, 1) := by decide +kernel
theorem dX5_makeUnit_68 : decode cX5_makeUnit 68 = .ok (.isub, 1) := by decide +kernel
theorem dX5_makeUnit_69 : decode cX5_makeUnit 69 = .ok (.iastore, 1) := by decide +kernel
theorem dX5_makeUnit_70 : decode cX5_makeUnit 70 = .ok (.iinc 2 1, 3) := by decide +kernel
theorem dX5_makeUnit_73 : decode cX5_makeUnit 73 = .ok (.goto (-24), 3) := by decide +kernel
theorem dX5_makeUnit_76 : decode cX5_makeUnit 76 = .ok (.aload_n 0, 1) := by decide +kernel
theorem dX5_makeUnit_77 : decode cX5_makeUnit 77 = .ok (.aload_n 1, 1) := by decide +kernel
theorem dX5_makeUnit_78 : decode cX5_makeUnit 78 = .ok (.invokevirtual 47, 3) := by decide +kernel
theorem dX5_makeUnit_81 : decode cX5_makeUnit 81 = .ok (.ifCond .ge 6, 3) := by decide +kernel
theorem dX5_makeUnit_84 : decode cX5_makeUnit 84 = .ok (.bipush (-3), 2) := by decide +kernel
theorem dX5_makeUnit_86 : decode cX5_makeUnit 86 = .ok (.ireturn, 1) := by decide +kernel
theorem dX5_makeUnit_87 : decode cX5_makeUnit 87 = .ok (.iconst 0, 1) := by decide +kernel
theorem dX5_makeUnit_88 : decode cX5_makeUnit 88 = .ok (.istore_n 2, 1) := by decide +kernel
theorem dX5_makeUnit_89 : decode cX5_makeUnit 89 = .ok (.iconst 0, 1) := by decide +kernel
theorem dX5_makeUnit_90 : decode cX5_makeUnit 90 = .ok (.istore_n 3, 1) := by decide +kernel
theorem dX5_makeUnit_91 : decode cX5_makeUnit 91 = .ok (.iload_n 3, 1) := by decide +kernel
theorem dX5_makeUnit_92 : decode cX5_makeUnit 92 = .ok (.bipush 8, 2) := by decide +kernel
theorem dX5_makeUnit_94 : decode cX5_makeUnit 94 = .ok (.if_icmp .ge 30, 3) := by decide +kernel
theorem dX5_makeUnit_97 : decode cX5_makeUnit 97 = .ok (.aload_n 0, 1) := by decide +kernel
theorem dX5_makeUnit_98 : decode cX5_makeUnit 98 = .ok (.getfield 18, 3) := by decide +kernel
theorem dX5_makeUnit_101 : decode cX5_makeUnit 101 = .ok (.iload_n 3, 1) := by decide +kernel
theorem dX5_makeUnit_102 : decode cX5_makeUnit 102 = .ok (.aload_n 0, 1) := by decide +kernel
theorem dX5_makeUnit_103 : decode cX5_makeUnit 103 = .ok (.getfield 9, 3) := by decide +kernel
theorem dX5_makeUnit_106 : decode cX5_makeUnit 106 = .ok (.iload_n 3, 1) := by decide +kernel
theorem dX5_makeUnit_107 : decode cX5_makeUnit 107 = .ok (.iaload, 1) := by decide +kernel
theorem dX5_makeUnit_108 : decode cX5_makeUnit 108 = .ok (.iastore, 1) := by decide +kernel
theorem dX5_makeUnit_109 : decode cX5_makeUnit 109 = .ok (.iload_n 2, 1) := by decide +kernel
theorem dX5_makeUnit_110 : decode cX5_makeUnit 110 = .ok (.aload_n 0, 1) := by decide +kernel
theorem dX5_makeUnit_111 : decode cX5_makeUnit 111 = .ok (.getfield 18, 3) := by decide +kernel
theorem dX5_makeUnit_114 : decode cX5_makeUnit 114 = .ok (.iload_n 3, 1) := by decide +kernel
theorem dX5_makeUnit_115 : decode cX5_makeUnit 115 = .ok (.iaload, 1) := by decide +kernel
theorem dX5_makeUnit_116 : decode cX5_makeUnit 116 = .ok (.iadd, 1) := by decide +kernel
theorem dX5_makeUnit_117 : decode cX5_makeUnit 117 = .ok (.istore_n 2, 1) := by decide +kernel
theorem dX5_makeUnit_118 : decode cX5_makeUnit 118 = .ok (.iinc 3 1, 3) := by decide +kernel
theorem dX5_makeUnit_121 : decode cX5_makeUnit 121 = .ok (.goto (-30), 3) := by decide +kernel
theorem dX5_makeUnit_124 : decode cX5_makeUnit 124 = .ok (.iload_n 2, 1) := by decide +kernel
theorem dX5_makeUnit_125 : decode cX5_makeUnit 125 = .ok (.ireturn, 1) := by decide +kernel
theorem dX5_fillTwice_0 : decode cX5_fillTwice 0 = .ok (.iconst 0, 1) := by decide +kernel
theorem dX5_fillTwice_1 : decode cX5_fillTwice 1 = .ok (.istore_n 2, 1) := by decide +kernel
theorem dX5_fillTwice_2 : decode cX5_fillTwice 2 = .ok (.iload_n 2, 1) := by decide +kernel
theorem dX5_fillTwice_3 : decode cX5_fillTwice 3 = .ok (.bipush 8, 2) := by decide +kernel
theorem dX5_fillTwice_5 : decode cX5_fillTwice 5 = .ok (.if_icmp .ge 36, 3) := by decide +kernel
theorem dX5_fillTwice_8 : decode cX5_fillTwice 8 = .ok (.aload_n 0, 1) := by decide +kernel
theorem dX5_fillTwice_9 : decode cX5_fillTwice 9 = .ok (.getfield 9, 3) := by decide +kernel
theorem dX5_fillTwice_12 : decode cX5_fillTwice 12 = .ok (.iload_n 2, 1) := by decide +kernel
theorem dX5_fillTwice_13 : decode cX5_fillTwice 13 = .ok (.aload_n 1, 1) := by decide +kernel
theorem dX5_fillTwice_14 : decode cX5_fillTwice 14 = .ok (.iload_n 2, 1) := by decide +kernel
theorem dX5_fillTwice_15 : decode cX5_fillTwice 15 = .ok (.invokevirtual 39, 3) := by decide +kernel
theorem dX5_fillTwice_18 : decode cX5_fillTwice 18 = .ok (.ifCond .eq 15, 3) := by decide +kernel
theorem dX5_fillTwice_21 : decode cX5_fillTwice 21 = .ok (.iconst 2, 1) := by decide +kernel
theorem dX5_fillTwice_22 : decode cX5_fillTwice 22 = .ok (.aload_n 1, 1) := by decide +kernel
theorem dX5_fillTwice_23 : decode cX5_fillTwice 23 = .ok (.iload_n 2, 1) := by decide +kernel
theorem dX5_fillTwice_24 : decode cX5_fillTwice 24 = .ok (.invokevirtual 31, 3) := by decide +kernel
theorem dX5_fillTwice_27 : decode cX5_fillTwice 27 = .ok (.iconst 1, 1) := by decide +kernel
theorem dX5_fillTwice_28 : decode cX5_fillTwice 28 = .ok (.isub, 1) := by decide +kernel
theorem dX5_fillTwice_29 : decode cX5_fillTwice 29 = .ok (.imul, 1) := by decide +kernel
theorem dX5_fillTwice_30 : decode cX5_fillTwice 30 = .ok (.goto 4, 3) := by decide +kernel
theorem dX5_fillTwice_33 : decode cX5_fillTwice 33 = .ok (.iconst 0, 1) := by decide +kernel
theorem dX5_fillTwice_34 : decode cX5_fillTwice 34 = .ok (.iastore, 1) := by decide +kernel
theorem dX5_fillTwice_35 : decode cX5_fillTwice 35 = .ok (.iinc 2 1, 3) := by decide +kernel
theorem dX5_fillTwice_38 : decode cX5_fillTwice 38 = .ok (.goto (-36), 3) := by decide +kernel
theorem dX5_fillTwice_41 : decode cX5_fillTwice 41 = .ok (.return_, 1) := by decide +kernel
theorem dX6_init_0 : decode cX6_init 0 = .ok (.aload_n 0, 1) := by decide +kernel
theorem dX6_init_1 : decode cX6_init 1 = .ok (.invokespecial 1, 3) := by decide +kernel
theorem dX6_init_4 : decode cX6_init 4 = .ok (.aload_n 0, 1) := by decide +kernel
theorem dX6_init_5 : decode cX6_init 5 = .ok (.bipush 10, 2) := by decide +kernel
theorem dX6_init_7 : decode cX6_init 7 = .ok (.newarray .int, 2) := by decide +kernel
theorem dX6_init_9 : decode cX6_init 9 = .ok (.putfield 9, 3) := by decide +kernel
theorem dX6_init_12 : decode cX6_init 12 = .ok (.aload_n 0, 1) := by decide +kernel
theorem dX6_init_13 : decode cX6_init 13 = .ok (.bipush 10, 2) := by decide +kernel
theorem dX6_init_15 : decode cX6_init 15 = .ok (.newarray .int, 2) := by decide +kernel
theorem dX6_init_17 : decode cX6_init 17 = .ok (.putfield 13, 3) := by decide +kernel
theorem dX6_init_20 : decode cX6_init 20 = .ok (.aload_n 0, 1) := by decide +kernel
theorem dX6_init_21 : decode cX6_init 21 = .ok (.bipush 10, 2) := by decide +kernel
theorem dX6_init_23 : decode cX6_init 23 = .ok (.newarray .int, 2) := by decide +kernel
theorem dX6_init_25 : decode cX6_init 25 = .ok (.putfield 16, 3) := by decide +kernel
theorem dX6_init_28 : decode cX6_init 28 = .ok (.return_, 1) := by decide +kernel
theorem dX6_size_0 : decode cX6_size 0 = .ok (.aload_n 0, 1) := by decide +kernel
theorem dX6_size_1 : decode cX6_size 1 = .ok (.getfield 19, 3) := by decide +kernel
theorem dX6_size_4 : decode cX6_size 4 = .ok (.ireturn, 1) := by decide +kernel
theorem dX6_clear_0 : decode cX6_clear 0 = .ok (.aload_n 0, 1) := by decide +kernel
theorem dX6_clear_1 : decode cX6_clear 1 = .ok (.iconst 0, 1) := by decide +kernel
theorem dX6_clear_2 : decode cX6_clear 2 = .ok (.putfield 19, 3) := by decide +kernel
theorem dX6_clear_5 : decode cX6_clear 5 = .ok (.return_, 1) := by decide +kernel
theorem dX6_add_0 : decode cX6_add 0 = .ok (.aload_n 0, 1) := by decide +kernel
theorem dX6_add_1 : decode cX6_add 1 = .ok (.getfield 19, 3) := by decide +kernel
theorem dX6_add_4 : decode cX6_add 4 = .ok (.bipush 10, 2) := by decide +kernel
theorem dX6_add_6 : decode cX6_add 6 = .ok (.if_icmp .lt 5, 3) := by decide +kernel
theorem dX6_add_9 : decode cX6_add 9 = .ok (.iconst 0, 1) := by decide +kernel
theorem dX6_add_10 : decode cX6_add 10 = .ok (.ireturn, 1) := by decide +kernel
theorem dX6_add_11 : decode cX6_add 11 = .ok (.aload_n 0, 1) := by decide +kernel
theorem dX6_add_12 : decode cX6_add 12 = .ok (.getfield 9, 3) := by decide +kernel
theorem dX6_add_15 : decode cX6_add 15 = .ok (.aload_n 0, 1) := by decide +kernel
theorem dX6_add_16 : decode cX6_add 16 = .ok (.getfield 19, 3) := by decide +kernel
theorem dX6_add_19 : decode cX6_add 19 = .ok (.iload_n 1, 1) := by decide +kernel
theorem dX6_add_20 : decode cX6_add 20 = .ok (.iastore, 1) := by decide +kernel
theorem dX6_add_21 : decode cX6_add 21 = .ok (.aload_n 0, 1) := by decide +kernel
theorem dX6_add_22 : decode cX6_add 22 = .ok (.getfield 13, 3) := by decide +kernel
theorem dX6_add_25 : decode cX6_add 25 = .ok (.aload_n 0, 1) := by decide +kernel
theorem dX6_add_26 : decode cX6_add 26 = .ok (.getfield 19, 3) := by decide +kernel
theorem dX6_add_29 : decode cX6_add 29 = .ok (.iload_n 2, 1) := by decide +kernel
theorem dX6_add_30 : decode cX6_add 30 = .ok (.iastore, 1) := by decide +kernel
theorem dX6_add_31 : decode cX6_add 31 = .ok (.aload_n 0, 1) := by decide +kernel
theorem dX6_add_32 : decode cX6_add 32 = .ok (.getfield 16, 3) := by decide +kernel
theorem dX6_add_35 : decode cX6_add 35 = .ok (.aload_n 0, 1) := by decide +kernel
theorem dX6_add_36 : decode cX6_add 36 = .ok (.getfield 19, 3) := by decide +kernel
theorem dX6_add_39 : decode cX6_add 39 = .ok (.iload_n 3, 1) := by decide +kernel
theorem dX6_add_40 : decode cX6_add 40 = .ok (.iastore, 1) := by decide +kernel
theorem dX6_add_41 : decode cX6_add 41 = .ok (.aload_n 0, 1) := by decide +kernel
theorem dX6_add_42 : decode cX6_add 42 = .ok (.dup, 1) := by decide +kernel
theorem dX6_add_43 : decode cX6_add 43 = .ok (.getfield 19, 3) := by decide +kernel
theorem dX6_add_46 : decode cX6_add 46 = .ok (.iconst 1, 1) := by decide +kernel
theorem dX6_add_47 : decode cX6_add 47 = .ok (.iadd, 1) := by decide +kernel
theorem dX6_add_48 : decode cX6_add 48 = .ok (.putfield 19, 3) := by decide +kernel
theorem dX6_add_51 : decode cX6_add 51 = .ok (.iconst 1, 1) := by decide +kernel
theorem dX6_add_52 : decode cX6_add 52 = .ok (.ireturn, 1) := by decide +kernel
theorem dX6_start_0 : decode cX6_start 0 = .ok (.iload_n 1, 1) := by decide +kernel
theorem dX6_start_1 : decode cX6_start 1 = .ok (.ifCond .lt 20, 3) := by decide +kernel
theorem dX6_start_4 : decode cX6_start 4 = .ok (.iload_n 1, 1) := by decide +kernel
theorem dX6_start_5 : decode cX6_start 5 = .ok (.aload_n 0, 1) := by decide +kernel
theorem dX6_start_6 : decode cX6_start 6 = .ok (.getfield 19, 3) := by decide +kernel
theorem dX6_start_9 : decode cX6_start 9 = .ok (.if_icmp .ge 12, 3) := by decide +kernel
theorem dX6_start_12 : decode cX6_start 12 = .ok (.aload_n 0, 1) := by decide +kernel
theorem dX6_start_13 : decode cX6_start 13 = .ok (.getfield 9, 3) := by decide +kernel
theorem dX6_start_16 : decode cX6_start 16 = .ok (.iload_n 1, 1) := by decide +kernel
theorem dX6_start_17 : decode cX6_start 17 = .ok (.iaload, 1) := by decide +kernel
theorem dX6_start_18 : decode cX6_start 18 = .ok (.goto 4, 3) := by decide +kernel
theorem dX6_start_21 : decode cX6_start 21 = .ok (.iconst 0, 1) := by decide +kernel
theorem dX6_start_22 : decode cX6_start 22 = .ok (.ireturn, 1) := by decide +kernel
theorem dX6_steps_0 : decode cX6_steps 0 = .ok (.iload_n 1, 1) := by decide +kernel
theorem dX6_steps_1 : decode cX6_steps 1 = .ok (.ifCond .lt 20, 3) := by decide +kernel
theorem dX6_steps_4 : decode cX6_steps 4 = .ok (.iload_n 1, 1) := by decide +kernel
theorem dX6_steps_5 : decode cX6_steps 5 = .ok (.aload_n 0, 1) := by decide +kernel
theorem dX6_steps_6 : decode cX6_steps 6 = .ok (.getfield 19, 3) := by decide +kernel
theorem dX6_steps_9 : decode cX6_steps 9 = .ok (.if_icmp .ge 12, 3) := by decide +kernel
theorem dX6_steps_12 : decode cX6_steps 12 = .ok (.aload_n 0, 1) := by decide +kernel
theorem dX6_steps_13 : decode cX6_steps 13 = .ok (.getfield 13, 3) := by decide +kernel
theorem dX6_steps_16 : decode cX6_steps 16 = .ok (.iload_n 1, 1) := by decide +kernel
theorem dX6_steps_17 : decode cX6_steps 17 = .ok (.iaload, 1) := by decide +kernel
theorem dX6_steps_18 : decode cX6_steps 18 = .ok (.goto 4, 3) := by decide +kernel
theorem dX6_steps_21 : decode cX6_steps 21 = .ok (.iconst 0, 1) := by decide +kernel
theorem dX6_steps_22 : decode cX6_steps 22 = .ok (.ireturn, 1) := by decide +kernel
theorem dX6_place_0 : decode cX6_place 0 = .ok (.iload_n 1, 1) := by decide +kernel
theorem dX6_place_1 : decode cX6_place 1 = .ok (.ifCond .lt 20, 3) := by decide +kernel
theorem dX6_place_4 : decode cX6_place 4 = .ok (.iload_n 1, 1) := by decide +kernel
theorem dX6_place_5 : decode cX6_place 5 = .ok (.aload_n 0, 1) := by decide +kernel
theorem dX6_place_6 : decode cX6_place 6 = .ok (.getfield 19, 3) := by decide +kernel
theorem dX6_place_9 : decode cX6_place 9 = .ok (.if_icmp .ge 12, 3) := by decide +kernel
theorem dX6_place_12 : decode cX6_place 12 = .ok (.aload_n 0, 1) := by decide +kernel
theorem dX6_place_13 : decode cX6_place 13 = .ok (.getfield 16, 3) := by decide +kernel
theorem dX6_place_16 : decode cX6_place 16 = .ok (.iload_n 1, 1) := by decide +kernel
theorem dX6_place_17 : decode cX6_place 17 = .ok (.iaload, 1) := by decide +kernel
theorem dX6_place_18 : decode cX6_place 18 = .ok (.goto 4, 3) := by decide +kernel
theorem dX6_place_21 : decode cX6_place 21 = .ok (.iconst 0, 1) := by decide +kernel
theorem dX6_place_22 : decode cX6_place 22 = .ok (.ireturn, 1) := by decide +kernel
theorem dX7_init_0 : decode cX7_init 0 = .ok (.aload_n 0, 1) := by decide +kernel
theorem dX7_init_1 : decode cX7_init 1 = .ok (.invokespecial 3, 3) := by decide +kernel
theorem dX7_init_4 : decode cX7_init 4 = .ok (.aload_n 0, 1) := by decide +kernel
theorem dX7_init_5 : decode cX7_init 5 = .ok (.bipush 80, 2) := by decide +kernel
theorem dX7_init_7 : decode cX7_init 7 = .ok (.newarray .int, 2) := by decide +kernel
theorem dX7_init_9 : decode cX7_init 9 = .ok (.putfield 9, 3) := by decide +kernel
theorem dX7_init_12 : decode cX7_init 12 = .ok (.return_, 1) := by decide +kernel
theorem dX7_size_0 : decode cX7_size 0 = .ok (.aload_n 0, 1) := by decide +kernel
theorem dX7_size_1 : decode cX7_size 1 = .ok (.getfield 15, 3) := by decide +kernel
theorem dX7_size_4 : decode cX7_size 4 = .ok (.ireturn, 1) := by decide +kernel
theorem dX7_at_0 : decode cX7_at 0 = .ok (.iload_n 1, 1) := by decide +kernel
theorem dX7_at_1 : decode cX7_at 1 = .ok (.ifCond .lt 20, 3) := by decide +kernel
theorem dX7_at_4 : decode cX7_at 4 = .ok (.iload_n 1, 1) := by decide +kernel
theorem dX7_at_5 : decode cX7_at 5 = .ok (.aload_n 0, 1) := by decide +kernel
theorem dX7_at_6 : decode cX7_at 6 = .ok (.getfield 15, 3) := by decide +kernel
theorem dX7_at_9 : decode cX7_at 9 = .ok (.if_icmp .ge 12, 3) := by decide +kernel
theorem dX7_at_12 : decode cX7_at 12 = .ok (.aload_n 0, 1) := by decide +kernel
theorem dX7_at_13 : decode cX7_at 13 = .ok (.getfield 9, 3) := by decide +kernel
theorem dX7_at_16 : decode cX7_at 16 = .ok (.iload_n 1, 1) := by decide +kernel
theorem dX7_at_17 : decode cX7_at 17 = .ok (.iaload, 1) := by decide +kernel
theorem dX7_at_18 : decode cX7_at 18 = .ok (.goto 4, 3) := by decide +kernel
theorem dX7_at_21 : decode cX7_at 21 = .ok (.iconst (-1), 1) := by decide +kernel
theorem dX7_at_22 : decode cX7_at 22 = .ok (.ireturn, 1) := by decide +kernel
theorem dX7_add_0 : decode cX7_add 0 = .ok (.aload_n 0, 1) := by decide +kernel
theorem dX7_add_1 : decode cX7_add 1 = .ok (.getfield 15, 3) := by decide +kernel
theorem dX7_add_4 : decode cX7_add 4 = .ok (.aload_n 0, 1) := by decide +kernel
theorem dX7_add_5 : decode cX7_add 5 = .ok (.getfield 9, 3) := by decide +kernel
theorem dX7_add_8 : decode cX7_add 8 = .ok (.arraylength, 1) := by decide +kernel
theorem dX7_add_9 : decode cX7_add 9 = .ok (.if_icmp .ge 23, 3) := by decide +kernel
theorem dX7_add_12 : decode cX7_add 12 = .ok (.aload_n 0, 1) := by decide +kernel
theorem dX7_add_13 : decode cX7_add 13 = .ok (.getfield 9, 3) := by decide +kernel
theorem dX7_add_16 : decode cX7_add 16 = .ok (.aload_n 0, 1) := by decide +kernel
theorem dX7_add_17 : decode cX7_add 17 = .ok (.getfield 15, 3) := by decide +kernel
theorem dX7_add_20 : decode cX7_add 20 = .ok (.iload_n 1, 1) := by decide +kernel
theorem dX7_add_21 : decode cX7_add 21 = .ok (.iastore, 1) := by decide +kernel
theorem dX7_add_22 : decode cX7_add 22 = .ok (.aload_n 0, 1) := by decide +kernel
theorem dX7_add_23 : decode cX7_add 23 = .ok (.dup, 1) := by decide +kernel
theorem dX7_add_24 : decode cX7_add 24 = .ok (.getfield 15, 3) := by decide +kernel
theorem dX7_add_27 : decode cX7_add 27 = .ok (.iconst 1, 1) := by decide +kernel
theorem dX7_add_28 : decode cX7_add 28 = .ok (.iadd, 1) := by decide +kernel
theorem dX7_add_29 : decode cX7_add 29 = .ok (.putfield 15, 3) := by decide +kernel
theorem dX7_add_32 : decode cX7_add 32 = .ok (.return_, 1) := by decide +kernel
theorem dX7_cut_0 : decode cX7_cut 0 = .ok (.iload_n 1, 1) := by decide +kernel
theorem dX7_cut_1 : decode cX7_cut 1 = .ok (.ifCond .lt 16, 3) := by decide +kernel
theorem dX7_cut_4 : decode cX7_cut 4 = .ok (.iload_n 1, 1) := by decide +kernel
theorem dX7_cut_5 : decode cX7_cut 5 = .ok (.aload_n 0, 1) := by decide +kernel
theorem dX7_cut_6 : decode cX7_cut 6 = .ok (.getfield 15, 3) := by decide +kernel
theorem dX7_cut_9 : decode cX7_cut 9 = .ok (.if_icmp .ge 8, 3) := by decide +kernel
theorem dX7_cut_12 : decode cX7_cut 12 = .ok (.aload_n 0, 1) := by decide +kernel
theorem dX7_cut_13 : decode cX7_cut 13 = .ok (.iload_n 1, 1) := by decide +kernel
theorem dX7_cut_14 : decode cX7_cut 14 = .ok (.putfield 15, 3) := by decide +kernel
theorem dX7_cut_17 : decode cX7_cut 17 = .ok (.return_, 1) := by decide +kernel
theorem dX8_init_0 : decode cX8_init 0 = .ok (.aload_n 0, 1) := by decide +kernel
theorem dX8_init_1 : decode cX8_init 1 = .ok (.invokespecial 3, 3) := by decide +kernel
theorem dX8_init_4 : decode cX8_init 4 = .ok (.aload_n 0, 1) := by decide +kernel
theorem dX8_init_5 : decode cX8_init 5 = .ok (.bipush 8, 2) := by decide +kernel
theorem dX8_init_7 : decode cX8_init 7 = .ok (.newarray .long, 2) := by decide +kernel
theorem dX8_init_9 : decode cX8_init 9 = .ok (.putfield 9, 3) := by decide +kernel
theorem dX8_init_12 : decode cX8_init 12 = .ok (.return_, 1) := by decide +kernel
theorem dX8_size_0 : decode cX8_size 0 = .ok (.aload_n 0, 1) := by decide +kernel
theorem dX8_size_1 : decode cX8_size 1 = .ok (.getfield 15, 3) := by decide +kernel
theorem dX8_size_4 : decode cX8_size 4 = .ok (.ireturn, 1) := by decide +kernel
theorem dX8_at_0 : decode cX8_at 0 = .ok (.iload_n 1, 1) := by decide +kernel
theorem dX8_at_1 : decode cX8_at 1 = .ok (.ifCond .lt 20, 3) := by decide +kernel
theorem dX8_at_4 : decode cX8_at 4 = .ok (.iload_n 1, 1) := by decide +kernel
theorem dX8_at_5 : decode cX8_at 5 = .ok (.aload_n 0, 1) := by decide +kernel
theorem dX8_at_6 : decode cX8_at 6 = .ok (.getfield 15, 3) := by decide +kernel
theorem dX8_at_9 : decode cX8_at 9 = .ok (.if_icmp .ge 12, 3) := by decide +kernel
theorem dX8_at_12 : decode cX8_at 12 = .ok (.aload_n 0, 1) := by decide +kernel
theorem dX8_at_13 : decode cX8_at 13 = .ok (.getfield 9, 3) := by decide +kernel
theorem dX8_at_16 : decode cX8_at 16 = .ok (.iload_n 1, 1) := by decide +kernel
theorem dX8_at_17 : decode cX8_at 17 = .ok (.laload, 1) := by decide +kernel
theorem dX8_at_18 : decode cX8_at 18 = .ok (.goto 4, 3) := by decide +kernel
theorem dX8_at_21 : decode cX8_at 21 = .ok (.lconst 0, 1) := by decide +kernel
theorem dX8_at_22 : decode cX8_at 22 = .ok (.lreturn, 1) := by decide +kernel
theorem dX8_add_0 : decode cX8_add 0 = .ok (.aload_n 0, 1) := by decide +kernel
theorem dX8_add_1 : decode cX8_add 1 = .ok (.getfield 15, 3) := by decide +kernel
theorem dX8_add_4 : decode cX8_add 4 = .ok (.aload_n 0, 1) := by decide +kernel
theorem dX8_add_5 : decode cX8_add 5 = .ok (.getfield 9, 3) := by decide +kernel
theorem dX8_add_8 : decode cX8_add 8 = .ok (.arraylength, 1) := by decide +kernel
theorem dX8_add_9 : decode cX8_add 9 = .ok (.if_icmp .ge 23, 3) := by decide +kernel
theorem dX8_add_12 : decode cX8_add 12 = .ok (.aload_n 0, 1) := by decide +kernel
theorem dX8_add_13 : decode cX8_add 13 = .ok (.getfield 9, 3) := by decide +kernel
theorem dX8_add_16 : decode cX8_add 16 = .ok (.aload_n 0, 1) := by decide +kernel
theorem dX8_add_17 : decode cX8_add 17 = .ok (.getfield 15, 3) := by decide +kernel
theorem dX8_add_20 : decode cX8_add 20 = .ok (.lload_n 1, 1) := by decide +kernel
theorem dX8_add_21 : decode cX8_add 21 = .ok (.lastore, 1) := by decide +kernel
theorem dX8_add_22 : decode cX8_add 22 = .ok (.aload_n 0, 1) := by decide +kernel
theorem dX8_add_23 : decode cX8_add 23 = .ok (.dup, 1) := by decide +kernel
theorem dX8_add_24 : decode cX8_add 24 = .ok (.getfield 15, 3) := by decide +kernel
theorem dX8_add_27 : decode cX8_add 27 = .ok (.iconst 1, 1) := by decide +kernel
theorem dX8_add_28 : decode cX8_add 28 = .ok (.iadd, 1) := by decide +kernel
theorem dX8_add_29 : decode cX8_add 29 = .ok (.putfield 15, 3) := by decide +kernel
theorem dX8_add_32 : decode cX8_add 32 = .ok (.return_, 1) := by decide +kernel
theorem dX8_tell_0 : decode cX8_tell 0 = .ok (.aload_n 0, 1) := by decide +kernel
theorem dX8_tell_1 : decode cX8_tell 1 = .ok (.iconst 0, 1) := by decide +kernel
theorem dX8_tell_2 : decode cX8_tell 2 = .ok (.putfield 15, 3) := by decide +kernel
theorem dX8_tell_5 : decode cX8_tell 5 = .ok (.return_, 1) := by decide +kernel
theorem dX8_tell__0 : decode cX8_tell_ 0 = .ok (.aload_n 0, 1) := by decide +kernel
theorem dX8_tell__1 : decode cX8_tell_ 1 = .ok (.invokevirtual 19, 3) := by decide +kernel
theorem dX8_tell__4 : decode cX8_tell_ 4 = .ok (.aload_n 0, 1) := by decide +kernel
theorem dX8_tell__5 : decode cX8_tell_ 5 = .ok (.lload_n 1, 1) := by decide +kernel
theorem dX8_tell__6 : decode cX8_tell_ 6 = .ok (.invokevirtual 22, 3) := by decide +kernel
theorem dX8_tell__9 : decode cX8_tell_ 9 = .ok (.return_, 1) := by decide +kernel
theorem dX8_tell___0 : decode cX8_tell__ 0 = .ok (.aload_n 0, 1) := by decide +kernel
theorem dX8_tell___1 : decode cX8_tell__ 1 = .ok (.lload_n 1, 1) := by decide +kernel
theorem dX8_tell___2 : decode cX8_tell__ 2 = .ok (.invokevirtual 26, 3) := by decide +kernel
theorem dX8_tell___5 : decode cX8_tell__ 5 = .ok (.aload_n 0, 1) := by decide +kernel
theorem dX8_tell___6 : decode cX8_tell__ 6 = .ok (.lload_n 3, 1) := by decide +kernel
theorem dX8_tell___7 : decode cX8_tell__ 7 = .ok (.invokevirtual 22, 3) := by decide +kernel
theorem dX8_tell___10 : decode cX8_tell__ 10 = .ok (.return_, 1) := by decide +kernel
theorem dX8_tellRow_0 : decode cX8_tellRow 0 = .ok (.aload_n 0, 1) := by decide +kernel
theorem dX8_tellRow_1 : decode cX8_tellRow 1 = .ok (.invokevirtual 19, 3) := by decide +kernel
theorem dX8_tellRow_4 : decode cX8_tellRow 4 = .ok (.iconst 1, 1) := by decide +kernel
theorem dX8_tellRow_5 : decode cX8_tellRow 5 = .ok (.istore_n 3, 1) := by decide +kernel
theorem dX8_tellRow_6 : decode cX8_tellRow 6 = .ok (.iload_n 3, 1) := by decide +kernel
theorem dX8_tellRow_7 : decode cX8_tellRow 7 = .ok (.iload_n 2, 1) := by decide +kernel
theorem dX8_tellRow_8 : decode cX8_tellRow 8 = .ok (.if_icmp .ge 23, 3) := by decide +kernel
theorem dX8_tellRow_11 : decode cX8_tellRow 11 = .ok (.iload_n 3, 1) := by decide +kernel
theorem dX8_tellRow_12 : decode cX8_tellRow 12 = .ok (.aload_n 1, 1) := by decide +kernel
theorem dX8_tellRow_13 : decode cX8_tellRow 13 = .ok (.arraylength, 1) := by decide +kernel
theorem dX8_tellRow_14 : decode cX8_tellRow 14 = .ok (.if_icmp .ge 17, 3) := by decide +kernel
theorem dX8_tellRow_17 : decode cX8_tellRow 17 = .ok (.aload_n 0, 1) := by decide +kernel
theorem dX8_tellRow_18 : decode cX8_tellRow 18 = .ok (.aload_n 1, 1) := by decide +kernel
theorem dX8_tellRow_19 : decode cX8_tellRow 19 = .ok (.iload_n 3, 1) := by decide +kernel
theorem dX8_tellRow_20 : decode cX8_tellRow 20 = .ok (.iaload, 1) := by decide +kernel
theorem dX8_tellRow_21 : decode cX8_tellRow 21 = .ok (.i2l, 1) := by decide +kernel
theorem dX8_tellRow_22 : decode cX8_tellRow 22 = .ok (.invokevirtual 22, 3) := by decide +kernel
theorem dX8_tellRow_25 : decode cX8_tellRow 25 = .ok (.iinc 3 1, 3) := by decide +kernel
theorem dX8_tellRow_28 : decode cX8_tellRow 28 = .ok (.goto (-22), 3) := by decide +kernel
theorem dX8_tellRow_31 : decode cX8_tellRow 31 = .ok (.return_, 1) := by decide +kernel
theorem dX9_init_0 : decode cX9_init 0 = .ok (.aload_n 0, 1) := by decide +kernel
theorem dX9_init_1 : decode cX9_init 1 = .ok (.invokespecial 3, 3) := by decide +kernel
theorem dX9_init_4 : decode cX9_init 4 = .ok (.aload_n 0, 1) := by decide +kernel
theorem dX9_init_5 : decode cX9_init 5 = .ok (.bipush 40, 2) := by decide +kernel
theorem dX9_init_7 : decode cX9_init 7 = .ok (.newarray .int, 2) := by decide +kernel
theorem dX9_init_9 : decode cX9_init 9 = .ok (.putfield 9, 3) := by decide +kernel
theorem dX9_init_12 : decode cX9_init 12 = .ok (.aload_n 0, 1) := by decide +kernel
theorem dX9_init_13 : decode cX9_init 13 = .ok (.bipush 40, 2) := by decide +kernel
theorem dX9_init_15 : decode cX9_init 15 = .ok (.newarray .int, 2) := by decide +kernel
theorem dX9_init_17 : decode cX9_init 17 = .ok (.putfield 15, 3) := by decide +kernel
theorem dX9_init_20 : decode cX9_init 20 = .ok (.aload_n 0, 1) := by decide +kernel
theorem dX9_init_21 : decode cX9_init 21 = .ok (.bipush 40, 2) := by decide +kernel
theorem dX9_init_23 : decode cX9_init 23 = .ok (.newarray .int, 2) := by decide +kernel
theorem dX9_init_25 : decode cX9_init 25 = .ok (.putfield 18, 3) := by decide +kernel
theorem dX9_init_28 : decode cX9_init 28 = .ok (.aload_n 0, 1) := by decide +kernel
theorem dX9_init_29 : decode cX9_init 29 = .ok (.iconst 5, 1) := by decide +kernel
theorem dX9_init_30 : decode cX9_init 30 = .ok (.newarray .boolean, 2) := by decide +kernel
theorem dX9_init_32 : decode cX9_init 32 = .ok (.putfield 21, 3) := by decide +kernel
theorem dX9_init_35 : decode cX9_init 35 = .ok (.return_, 1) := by decide +kernel
theorem dX9_copyFrom_0 : decode cX9_copyFrom 0 = .ok (.aload_n 0, 1) := by decide +kernel
theorem dX9_copyFrom_1 : decode cX9_copyFrom 1 = .ok (.aload_n 1, 1) := by decide +kernel
theorem dX9_copyFrom_2 : decode cX9_copyFrom 2 = .ok (.getfield 25, 3) := by decide +kernel
theorem dX9_copyFrom_5 : decode cX9_copyFrom 5 = .ok (.putfield 25, 3) := by decide +kernel
theorem dX9_copyFrom_8 : decode cX9_copyFrom 8 = .ok (.aload_n 1, 1) := by decide +kernel
theorem dX9_copyFrom_9 : decode cX9_copyFrom 9 = .ok (.getfield 9, 3) := by decide +kernel
theorem dX9_copyFrom_12 : decode cX9_copyFrom 12 = .ok (.iconst 0, 1) := by decide +kernel
theorem dX9_copyFrom_13 : decode cX9_copyFrom 13 = .ok (.aload_n 0, 1) := by decide +kernel
theorem dX9_copyFrom_14 : decode cX9_copyFrom 14 = .ok (.getfield 9, 3) := by decide +kernel
theorem dX9_copyFrom_17 : decode cX9_copyFrom 17 = .ok (.iconst 0, 1) := by decide +kernel
theorem dX9_copyFrom_18 : decode cX9_copyFrom 18 = .ok (.bipush 40, 2) := by decide +kernel
theorem dX9_copyFrom_20 : decode cX9_copyFrom 20 = .ok (.invokestatic 29, 3) := by decide +kernel
theorem dX9_copyFrom_23 : decode cX9_copyFrom 23 = .ok (.return_, 1) := by decide +kernel
theorem dX9_read_0 : decode cX9_read 0 = .ok (.aload_n 0, 1) := by decide +kernel
theorem dX9_read_1 : decode cX9_read 1 = .ok (.iconst 0, 1) := by decide +kernel
theorem dX9_read_2 : decode cX9_read 2 = .ok (.putfield 25, 3) := by decide +kernel
theorem dX9_read_5 : decode cX9_read 5 = .ok (.aload_n 0, 1) := by decide +kernel
theorem dX9_read_6 : decode cX9_read 6 = .ok (.iconst 0, 1) := by decide +kernel
theorem dX9_read_7 : decode cX9_read 7 = .ok (.putfield 35, 3) := by decide +kernel
theorem dX9_read_10 : decode cX9_read 10 = .ok (.aload_n 0, 1) := by decide +kernel
theorem dX9_read_11 : decode cX9_read 11 = .ok (.iconst 0, 1) := by decide +kernel
theorem dX9_read_12 : decode cX9_read 12 = .ok (.putfield 38, 3) := by decide +kernel
theorem dX9_read_15 : decode cX9_read 15 = .ok (.aload_n 0, 1) := by decide +kernel
theorem dX9_read_16 : decode cX9_read 16 = .ok (.iconst 0, 1) := by decide +kernel
theorem dX9_read_17 : decode cX9_read 17 = .ok (.putfield 41, 3) := by decide +kernel
theorem dX9_read_20 : decode cX9_read 20 = .ok (.aload_n 0, 1) := by decide +kernel
theorem dX9_read_21 : decode cX9_read 21 = .ok (.iconst 1, 1) := by decide +kernel
theorem dX9_read_22 : decode cX9_read 22 = .ok (.putfield 44, 3) := by decide +kernel
theorem dX9_read_25 : decode cX9_read 25 = .ok (.aload_n 0, 1) := by decide +kernel
theorem dX9_read_26 : decode cX9_read 26 = .ok (.getfield 21, 3) := by decide +kernel
theorem dX9_read_29 : decode cX9_read 29 = .ok (.iconst 0, 1) := by decide +kernel
theorem dX9_read_30 : decode cX9_read 30 = .ok (.iconst 0, 1) := by decide +kernel
theorem dX9_read_31 : decode cX9_read 31 = .ok (.bastore, 1) := by decide +kernel
theorem dX9_read_32 : decode cX9_read 32 = .ok (.aload_n 1, 1) := by decide +kernel
theorem dX9_read_33 : decode cX9_read 33 = .ok (.invokevirtual 48, 3) := by decide +kernel
theorem dX9_read_36 : decode cX9_read 36 = .ok (.bipush 40, 2) := by decide +kernel
theorem dX9_read_38 : decode cX9_read 38 = .ok (.invokestatic 53, 3) := by decide +kernel
theorem dX9_read_41 : decode cX9_read 41 = .ok (.istore_n 2, 1) := by decide +kernel
theorem dX9_read_42 : decode cX9_read 42 = .ok (.iconst 0, 1) := by decide +kernel
theorem dX9_read_43 : decode cX9_read 43 = .ok (.istore_n 3, 1) := by decide +kernel
theorem dX9_read_44 : decode cX9_read 44 = .ok (.iload_n 3, 1) := by decide +kernel
theorem dX9_read_45 : decode cX9_read 45 = .ok (.iload_n 2, 1) := by decide +kernel
theorem dX9_read_46 : decode cX9_read 46 = .ok (.if_icmp .ge 48, 3) := by decide +kernel
theorem dX9_read_49 : decode cX9_read 49 = .ok (.aload_n 0, 1) := by decide +kernel
theorem dX9_read_50 : decode cX9_read 50 = .ok (.getfield 44, 3) := by decide +kernel
theorem dX9_read_53 : decode cX9_read 53 = .ok (.ifCond .eq 15, 3) := by decide +kernel
theorem dX9_read_56 : decode cX9_read 56 = .ok (.aload_n 0, 1) := by decide +kernel
theorem dX9_read_57 : decode cX9_read 57 = .ok (.aload_n 1, 1) := by decide +kernel
theorem dX9_read_58 : decode cX9_read 58 = .ok (.iload_n 3, 1) := by decide +kernel
theorem dX9_read_59 : decode cX9_read 59 = .ok (.invokevirtual 59, 3) := by decide +kernel
theorem dX9_read_62 : decode cX9_read 62 = .ok (.invokevirtual 63, 3) := by decide +kernel
theorem dX9_read_65 : decode cX9_read 65 = .ok (.goto 12, 3) := by decide +kernel
theorem dX9_read_68 : decode cX9_read 68 = .ok (.aload_n 0, 1) := by decide +kernel
theorem dX9_read_69 : decode cX9_read 69 = .ok (.aload_n 1, 1) := by decide +kernel
theorem dX9_read_70 : decode cX9_read 70 = .ok (.iload_n 3, 1) := by decide +kernel
theorem dX9_read_71 : decode cX9_read 71 = .ok (.invokevirtual 59, 3) := by decide +kernel
theorem dX9_read_74 : decode cX9_read 74 = .ok (.invokevirtual 67, 3) := by decide +kernel
theorem dX9_read_77 : decode cX9_read 77 = .ok (.istore 4, 2) := by decide +kernel
theorem dX9_read_79 : decode cX9_read 79 = .ok (.iload 4, 2) := by decide +kernel
theorem dX9_read_81 : decode cX9_read 81 = .ok (.ifCond .ne 7, 3) := by decide +kernel
theorem dX9_read_84 : decode cX9_read 84 = .ok (.iconst (-1), 1) := by decide +kernel
theorem dX9_read_85 : decode cX9_read 85 = .ok (.iload_n 3, 1) := by decide +kernel
theorem dX9_read_86 : decode cX9_read 86 = .ok (.isub, 1) := by decide +kernel
theorem dX9_read_87 : decode cX9_read 87 = .ok (.ireturn, 1) := by decide +kernel
theorem dX9_read_88 : decode cX9_read 88 = .ok (.iinc 3 1, 3) := by decide +kernel
theorem dX9_read_91 : decode cX9_read 91 = .ok (.goto (-47), 3) := by decide +kernel
theorem dX9_read_94 : decode cX9_read 94 = .ok (.aload_n 1, 1) := by decide +kernel
theorem dX9_read_95 : decode cX9_read 95 = .ok (.invokevirtual 48, 3) := by decide +kernel
theorem dX9_read_98 : decode cX9_read 98 = .ok (.bipush 40, 2) := by decide +kernel
theorem dX9_read_100 : decode cX9_read 100 = .ok (.if_icmp .le 6, 3) := by decide +kernel
theorem dX9_read_103 : decode cX9_read 103 = .ok (.bipush (-41), 2) := by decide +kernel
theorem dX9_read_105 : decode cX9_read 105 = .ok (.ireturn, 1) := by decide +kernel
theorem dX9_read_106 : decode cX9_read 106 = .ok (.aload_n 1, 1) := by decide +kernel
theorem dX9_read_107 : decode cX9_read 107 = .ok (.invokevirtual 48, 3) := by decide +kernel
theorem dX9_read_110 : decode cX9_read 110 = .ok (.ifCond .le 24, 3) := by decide +kernel
theorem dX9_read_113 : decode cX9_read 113 = .ok (.aload_n 0, 1) := by decide +kernel
theorem dX9_read_114 : decode cX9_read 114 = .ok (.getfield 44, 3) := by decide +kernel
theorem dX9_read_117 : decode cX9_read 117 = .ok (.ifCond .ne 10, 3) := by decide +kernel
theorem dX9_read_120 : decode cX9_read 120 = .ok (.aload_n 0, 1) := by decide +kernel
theorem dX9_read_121 : decode cX9_read 121 = .ok (.getfield 38, 3) := by decide +kernel
theorem dX9_read_124 : decode cX9_read 124 = .ok (.ifCond .le 10, 3) := by decide +kernel
theorem dX9_read_127 : decode cX9_read 127 = .ok (.iconst (-1), 1) := by decide +kernel
theorem dX9_read_128 : decode cX9_read 128 = .ok (.aload_n 1, 1) := by decide +kernel
theorem dX9_read_129 : decode cX9_read 129 = .ok (.invokevirtual 48, 3) := by decide +kernel
theorem dX9_read_132 : decode cX9_read 132 = .ok (.isub, 1) := by decide +kernel
theorem dX9_read_133 : decode cX9_read 133 = .ok (.ireturn, 1) := by decide +kernel
theorem dX9_read_134 : decode cX9_read 134 = .ok (.aload_n 0, 1) := by decide +kernel
theorem dX9_read_135 : decode cX9_read 135 = .ok (.iconst 1, 1) := by decide +kernel
theorem dX9_read_136 : decode cX9_read 136 = .ok (.invokevirtual 70, 3) := by decide +kernel
theorem dX9_read_139 : decode cX9_read 139 = .ok (.iconst 0, 1) := by decide +kernel
theorem dX9_read_140 : decode cX9_read 140 = .ok (.ireturn, 1) := by decide +kernel
theorem dX9_takeThing_0 : decode cX9_takeThing 0 = .ok (.iload_n 1, 1) := by decide +kernel
theorem dX9_takeThing_1 : decode cX9_takeThing 1 = .ok (.bipush 45, 2) := by decide +kernel
theorem dX9_takeThing_3 : decode cX9_takeThing 3 = .ok (.if_icmp .ne 12, 3) := by decide +kernel
theorem dX9_takeThing_6 : decode cX9_takeThing 6 = .ok (.aload_n 0, 1) := by decide +kernel
theorem dX9_takeThing_7 : decode cX9_takeThing 7 = .ok (.sipush 3000, 3) := by decide +kernel
theorem dX9_takeThing_10 : decode cX9_takeThing 10 = .ok (.invokevirtual 74, 3) := by decide +kernel
theorem dX9_takeThing_13 : decode cX9_takeThing 13 = .ok (.iconst 1, 1) := by decide +kernel
theorem dX9_takeThing_14 : decode cX9_takeThing 14 = .ok (.ireturn, 1) := by decide +kernel
theorem dX9_takeThing_15 : decode cX9_takeThing 15 = .ok (.iload_n 1, 1) := by decide +kernel
theorem dX9_takeThing_16 : decode cX9_takeThing 16 = .ok (.bipush 40, 2) := by decide +kernel
theorem dX9_takeThing_18 : decode cX9_takeThing 18 = .ok (.if_icmp .ne 42, 3) := by decide +kernel
theorem dX9_takeThing_21 : decode cX9_takeThing 21 = .ok (.aload_n 0, 1) := by decide +kernel
theorem dX9_takeThing_22 : decode cX9_takeThing 22 = .ok (.getfield 38, 3) := by decide +kernel
theorem dX9_takeThing_25 : decode cX9_takeThing 25 = .ok (.iconst 4, 1) := by decide +kernel
theorem dX9_takeThing_26 : decode cX9_takeThing 26 = .ok (.if_icmp .lt 5, 3) := by decide +kernel
theorem dX9_takeThing_29 : decode cX9_takeThing 29 = .ok (.iconst 0, 1) := by decide +kernel
theorem dX9_takeThing_30 : decode cX9_takeThing 30 = .ok (.ireturn, 1) := by decide +kernel
theorem dX9_takeThing_31 : decode cX9_takeThing 31 = .ok (.aload_n 0, 1) := by decide +kernel
theorem dX9_takeThing_32 : decode cX9_takeThing 32 = .ok (.dup, 1) := by decide +kernel
theorem dX9_takeThing_33 : decode cX9_takeThing 33 = .ok (.getfield 38, 3) := by decide +kernel
theorem dX9_takeThing_36 : decode cX9_takeThing 36 = .ok (.iconst 1, 1) := by decide +kernel
theorem dX9_takeThing_37 : decode cX9_takeThing 37 = .ok (.iadd, 1) := by decide +kernel
theorem dX9_takeThing_38 : decode cX9_takeThing 38 = .ok (.putfield 38, 3) := by decide +kernel
theorem dX9_takeThing_41 : decode cX9_takeThing 41 = .ok (.aload_n 0, 1) := by decide +kernel
theorem dX9_takeThing_42 : decode cX9_takeThing 42 = .ok (.getfield 21, 3) := by decide +kernel
theorem dX9_takeThing_45 : decode cX9_takeThing 45 = .ok (.aload_n 0, 1) := by decide +kernel
theorem dX9_takeThing_46 : decode cX9_takeThing 46 = .ok (.getfield 38, 3) := by decide +kernel
theorem dX9_takeThing_49 : decode cX9_takeThing 49 = .ok (.iconst 0, 1) := by decide +kernel
theorem dX9_takeThing_50 : decode cX9_takeThing 50 = .ok (.bastore, 1) := by decide +kernel
theorem dX9_takeThing_51 : decode cX9_takeThing 51 = .ok (.aload_n 0, 1) := by decide +kernel
theorem dX9_takeThing_52 : decode cX9_takeThing 52 = .ok (.sipush 3001, 3) := by decide +kernel
theorem dX9_takeThing_55 : decode cX9_takeThing 55 = .ok (.invokevirtual 74, 3) := by decide +kernel
theorem dX9_takeThing_58 : decode cX9_takeThing 58 = .ok (.iconst 1, 1) := by decide +kernel
theorem dX9_takeThing_59 : decode cX9_takeThing 59 = .ok (.ireturn, 1) := by decide +kernel
theorem dX9_takeThing_60 : decode cX9_takeThing 60 = .ok (.iload_n 1, 1) := by decide +kernel
theorem dX9_takeThing_61 : decode cX9_takeThing 61 = .ok (.invokestatic 77, 3) := by decide +kernel
theorem dX9_takeThing_64 : decode cX9_takeThing 64 = .ok (.istore_n 2, 1) := by decide +kernel
theorem dX9_takeThing_65 : decode cX9_takeThing 65 = .ok (.iload_n 2, 1) := by decide +kernel
theorem dX9_takeThing_66 : decode cX9_takeThing 66 = .ok (.ifCond .ne 12, 3) := by decide +kernel
theorem dX9_takeThing_69 : decode cX9_takeThing 69 = .ok (.iload_n 1, 1) := by decide +kernel
theorem dX9_takeThing_70 : decode cX9_takeThing 70 = .ok (.invokestatic 80, 3) := by decide +kernel
theorem dX9_takeThing_73 : decode cX9_takeThing 73 = .ok (.ifCond .ne 5, 3) := by decide +kernel
theorem dX9_takeThing_76 : decode cX9_takeThing 76 = .ok (.iconst 0, 1) := by decide +kernel
theorem dX9_takeThing_77 : decode cX9_takeThing 77 = .ok (.ireturn, 1) := by decide +kernel
theorem dX9_takeThing_78 : decode cX9_takeThing 78 = .ok (.aload_n 0, 1) := by decide +kernel
theorem dX9_takeThing_79 : decode cX9_takeThing 79 = .ok (.iload_n 2, 1) := by decide +kernel
theorem dX9_takeThing_80 : decode cX9_takeThing 80 = .ok (.ifCond .eq 10, 3) := by decide +kernel
theorem dX9_takeThing_83 : decode cX9_takeThing 83 = .ok (.iload_n 1, 1) := by decide +kernel
theorem dX9_takeThing_84 : decode cX9_takeThing 84 = .ok (.bipush 48, 2) := by decide +kernel
theorem dX9_takeThing_86 : decode cX9_takeThing 86 = .ok (.isub, 1) := by decide +kernel
theorem dX9_takeThing_87 : decode cX9_takeThing 87 = .ok (.goto 8, 3) := by decide +kernel
theorem dX9_takeThing_90 : decode cX9_takeThing 90 = .ok (.sipush 1000, 3) := by decide +kernel
theorem dX9_takeThing_93 : decode cX9_takeThing 93 = .ok (.iload_n 1, 1) := by decide +kernel
theorem dX9_takeThing_94 : decode cX9_takeThing 94 = .ok (.iadd, 1) := by decide +kernel
theorem dX9_takeThing_95 : decode cX9_takeThing 95 = .ok (.invokevirtual 83, 3) := by decide +kernel
theorem dX9_takeThing_98 : decode cX9_takeThing 98 = .ok (.aload_n 0, 1) := by decide +kernel
theorem dX9_takeThing_99 : decode cX9_takeThing 99 = .ok (.iload_n 2, 1) := by decide +kernel
theorem dX9_takeThing_100 : decode cX9_takeThing 100 = .ok (.ifCond .eq 7, 3) := by decide +kernel
theorem dX9_takeThing_103 : decode cX9_takeThing 103 = .ok (.iconst 1, 1) := by decide +kernel
theorem dX9_takeThing_104 : decode cX9_takeThing 104 = .ok (.goto 4, 3) := by decide +kernel
theorem dX9_takeThing_107 : decode cX9_takeThing 107 = .ok (.iconst 0, 1) := by decide +kernel
theorem dX9_takeThing_108 : decode cX9_takeThing 108 = .ok (.putfield 41, 3) := by decide +kernel
theorem dX9_takeThing_111 : decode cX9_takeThing 111 = .ok (.aload_n 0, 1) := by decide +kernel
theorem dX9_takeThing_112 : decode cX9_takeThing 112 = .ok (.iconst 0, 1) := by decide +kernel
theorem dX9_takeThing_113 : decode cX9_takeThing 113 = .ok (.putfield 44, 3) := by decide +kernel
theorem dX9_takeThing_116 : decode cX9_takeThing 116 = .ok (.iconst 1, 1) := by decide +kernel
theorem dX9_takeThing_117 : decode cX9_takeThing 117 = .ok (.ireturn, 1) := by decide +kernel
theorem dX9_takeNext_0 : decode cX9_takeNext 0 = .ok (.iload_n 1, 1) := by decide +kernel
theorem dX9_takeNext_1 : decode cX9_takeNext 1 = .ok (.invokestatic 77, 3) := by decide +kernel
theorem dX9_takeNext_4 : decode cX9_takeNext 4 = .ok (.ifCond .eq 12, 3) := by decide +kernel
theorem dX9_takeNext_7 : decode cX9_takeNext 7 = .ok (.aload_n 0, 1) := by decide +kernel
theorem dX9_takeNext_8 : decode cX9_takeNext 8 = .ok (.iload_n 1, 1) := by decide +kernel
theorem dX9_takeNext_9 : decode cX9_takeNext 9 = .ok (.bipush 48, 2) := by decide +kernel
theorem dX9_takeNext_11 : decode cX9_takeNext 11 = .ok (.isub, 1) := by decide +kernel
theorem dX9_takeNext_12 : decode cX9_takeNext 12 = .ok (.invokevirtual 86, 3) := by decide +kernel
theorem dX9_takeNext_15 : decode cX9_takeNext 15 = .ok (.ireturn, 1) := by decide +kernel
theorem dX9_takeNext_16 : decode cX9_takeNext 16 = .ok (.aload_n 0, 1) := by decide +kernel
theorem dX9_takeNext_17 : decode cX9_takeNext 17 = .ok (.iconst 0, 1) := by decide +kernel
theorem dX9_takeNext_18 : decode cX9_takeNext 18 = .ok (.putfield 41, 3) := by decide +kernel
theorem dX9_takeNext_21 : decode cX9_takeNext 21 = .ok (.iload_n 1, 1) := by decide +kernel
theorem dX9_takeNext_22 : decode cX9_takeNext 22 = .ok (.bipush 41, 2) := by decide +kernel
theorem dX9_takeNext_24 : decode cX9_takeNext 24 = .ok (.if_icmp .ne 46, 3) := by decide +kernel
theorem dX9_takeNext_27 : decode cX9_takeNext 27 = .ok (.aload_n 0, 1) := by decide +kernel
theorem dX9_takeNext_28 : decode cX9_takeNext 28 = .ok (.getfield 38, 3) := by decide +kernel
theorem dX9_takeNext_31 : decode cX9_takeNext 31 = .ok (.ifCond .ne 5, 3) := by decide +kernel
theorem dX9_takeNext_34 : decode cX9_takeNext 34 = .ok (.iconst 0, 1) := by decide +kernel
theorem dX9_takeNext_35 : decode cX9_takeNext 35 = .ok (.ireturn, 1) := by decide +kernel
theorem dX9_takeNext_36 : decode cX9_takeNext 36 = .ok (.aload_n 0, 1) := by decide +kernel
theorem dX9_takeNext_37 : decode cX9_takeNext 37 = .ok (.iconst 1, 1) := by decide +kernel
theorem dX9_takeNext_38 : decode cX9_takeNext 38 = .ok (.invokevirtual 70, 3) := by decide +kernel
theorem dX9_takeNext_41 : decode cX9_takeNext 41 = .ok (.aload_n 0, 1) := by decide +kernel
theorem dX9_takeNext_42 : decode cX9_takeNext 42 = .ok (.getfield 35, 3) := by decide +kernel
theorem dX9_takeNext_45 : decode cX9_takeNext 45 = .ok (.ifCond .le 13, 3) := by decide +kernel
theorem dX9_takeNext_48 : decode cX9_takeNext 48 = .ok (.aload_n 0, 1) := by decide +kernel
theorem dX9_takeNext_49 : decode cX9_takeNext 49 = .ok (.dup, 1) := by decide +kernel
theorem dX9_takeNext_50 : decode cX9_takeNext 50 = .ok (.getfield 35, 3) := by decide +kernel
theorem dX9_takeNext_53 : decode cX9_takeNext 53 = .ok (.iconst 1, 1) := by decide +kernel
theorem dX9_takeNext_54 : decode cX9_takeNext 54 = .ok (.isub, 1) := by decide +kernel
theorem dX9_takeNext_55 : decode cX9_takeNext 55 = .ok (.putfield 35, 3) := by decide +kernel
theorem dX9_takeNext_58 : decode cX9_takeNext 58 = .ok (.aload_n 0, 1) := by decide +kernel
theorem dX9_takeNext_59 : decode cX9_takeNext 59 = .ok (.dup, 1) := by decide +kernel
theorem dX9_takeNext_60 : decode cX9_takeNext 60 = .ok (.getfield 38, 3) := by decide +kernel
theorem dX9_takeNext_63 : decode cX9_takeNext 63 = .ok (.iconst 1, 1) := by decide +kernel
theorem dX9_takeNext_64 : decode cX9_takeNext 64 = .ok (.isub, 1) := by decide +kernel
theorem dX9_takeNext_65 : decode cX9_takeNext 65 = .ok (.putfield 38, 3) := by decide +kernel
theorem dX9_takeNext_68 : decode cX9_takeNext 68 = .ok (.iconst 1, 1) := by decide +kernel
theorem dX9_takeNext_69 : decode cX9_takeNext 69 = .ok (.ireturn, 1) := by decide +kernel
theorem dX9_takeNext_70 : decode cX9_takeNext 70 = .ok (.sipush 2000, 3) := by decide +kernel
theorem dX9_takeNext_73 : decode cX9_takeNext 73 = .ok (.iload_n 1, 1) := by decide +kernel
theorem dX9_takeNext_74 : decode cX9_takeNext 74 = .ok (.iadd, 1) := by decide +kernel
theorem dX9_takeNext_75 : decode cX9_takeNext 75 = .ok (.invokestatic 89, 3) := by decide +kernel
theorem dX9_takeNext_78 : decode cX9_takeNext 78 = .ok (.istore_n 2, 1) := by decide +kernel
theorem dX9_takeNext_79 : decode cX9_takeNext 79 = .ok (.iload_n 2, 1) := by decide +kernel
theorem dX9_takeNext_80 : decode cX9_takeNext 80 = .ok (.ifCond .ne 5, 3) := by decide +kernel
theorem dX9_takeNext_83 : decode cX9_takeNext 83 = .ok (.iconst 0, 1) := by decide +kernel
theorem dX9_takeNext_84 : decode cX9_takeNext 84 = .ok (.ireturn, 1) := by decide +kernel
theorem dX9_takeNext_85 : decode cX9_takeNext 85 = .ok (.iload_n 2, 1) := by decide +kernel
theorem dX9_takeNext_86 : decode cX9_takeNext 86 = .ok (.iconst 1, 1) := by decide +kernel
theorem dX9_takeNext_87 : decode cX9_takeNext 87 = .ok (.if_icmp .ne 42, 3) := by decide +kernel
theorem dX9_takeNext_90 : decode cX9_takeNext 90 = .ok (.aload_n 0, 1) := by decide +kernel
theorem dX9_takeNext_91 : decode cX9_takeNext 91 = .ok (.getfield 38, 3) := by decide +kernel
theorem dX9_takeNext_94 : decode cX9_takeNext 94 = .ok (.ifCond .lt 23, 3) := by decide +kernel
theorem dX9_takeNext_97 : decode cX9_takeNext 97 = .ok (.aload_n 0, 1) := by decide +kernel
theorem dX9_takeNext_98 : decode cX9_takeNext 98 = .ok (.getfield 38, 3) := by decide +kernel
theorem dX9_takeNext_101 : decode cX9_takeNext 101 = .ok (.iconst 4, 1) := by decide +kernel
theorem dX9_takeNext_102 : decode cX9_takeNext 102 = .ok (.if_icmp .gt 15, 3) := by decide +kernel
theorem dX9_takeNext_105 : decode cX9_takeNext 105 = .ok (.aload_n 0, 1) := by decide +kernel
theorem dX9_takeNext_106 : decode cX9_takeNext 106 = .ok (.getfield 21, 3) := by decide +kernel
theorem dX9_takeNext_109 : decode cX9_takeNext 109 = .ok (.aload_n 0, 1) := by decide +kernel
theorem dX9_takeNext_110 : decode cX9_takeNext 110 = .ok (.getfield 38, 3) := by decide +kernel
theorem dX9_takeNext_113 : decode cX9_takeNext 113 = .ok (.baload, 1) := by decide +kernel
theorem dX9_takeNext_114 : decode cX9_takeNext 114 = .ok (.ifCond .eq 5, 3) := by decide +kernel
theorem dX9_takeNext_117 : decode cX9_takeNext 117 = .ok (.iconst 0, 1) := by decide +kernel
theorem dX9_takeNext_118 : decode cX9_takeNext 118 = .ok (.ireturn, 1) := by decide +kernel
theorem dX9_takeNext_119 : decode cX9_takeNext 119 = .ok (.aload_n 0, 1) := by decide +kernel
theorem dX9_takeNext_120 : decode cX9_takeNext 120 = .ok (.getfield 21, 3) := by decide +kernel
theorem dX9_takeNext_123 : decode cX9_takeNext 123 = .ok (.aload_n 0, 1) := by decide +kernel
theorem dX9_takeNext_124 : decode cX9_takeNext 124 = .ok (.getfield 38, 3) := by decide +kernel
theorem dX9_takeNext_127 : decode cX9_takeNext 127 = .ok (.iconst 1, 1) := by decide +kernel
theorem dX9_takeNext_128 : decode cX9_takeNext 128 = .ok (.bastore, 1) := by decide +kernel
theorem dX9_takeNext_129 : decode cX9_takeNext 129 = .ok (.aload_n 0, 1) := by decide +kernel
theorem dX9_takeNext_130 : decode cX9_takeNext 130 = .ok (.iload_n 2, 1) := by decide +kernel
theorem dX9_takeNext_131 : decode cX9_takeNext 131 = .ok (.invokevirtual 70, 3) := by decide +kernel
theorem dX9_takeNext_134 : decode cX9_takeNext 134 = .ok (.aload_n 0, 1) := by decide +kernel
theorem dX9_takeNext_135 : decode cX9_takeNext 135 = .ok (.sipush 2000, 3) := by decide +kernel
theorem dX9_takeNext_138 : decode cX9_takeNext 138 = .ok (.iload_n 1, 1) := by decide +kernel
theorem dX9_takeNext_139 : decode cX9_takeNext 139 = .ok (.iadd, 1) := by decide +kernel
theorem dX9_takeNext_140 : decode cX9_takeNext 140 = .ok (.invokevirtual 74, 3) := by decide +kernel
theorem dX9_takeNext_143 : decode cX9_takeNext 143 = .ok (.aload_n 0, 1) := by decide +kernel
theorem dX9_takeNext_144 : decode cX9_takeNext 144 = .ok (.iconst 1, 1) := by decide +kernel
theorem dX9_takeNext_145 : decode cX9_takeNext 145 = .ok (.putfield 44, 3) := by decide +kernel
theorem dX9_takeNext_148 : decode cX9_takeNext 148 = .ok (.iconst 1, 1) := by decide +kernel
theorem dX9_takeNext_149 : decode cX9_takeNext 149 = .ok (.ireturn, 1) := by decide +kernel
theorem dX9_takeDigit_0 : decode cX9_takeDigit 0 = .ok (.aload_n 0, 1) := by decide +kernel
theorem dX9_takeDigit_1 : decode cX9_takeDigit 1 = .ok (.getfield 41, 3) := by decide +kernel
theorem dX9_takeDigit_4 : decode cX9_takeDigit 4 = .ok (.iconst 1, 1) := by decide +kernel
theorem dX9_takeDigit_5 : decode cX9_takeDigit 5 = .ok (.if_icmp .lt 19, 3) := by decide +kernel
theorem dX9_takeDigit_8 : decode cX9_takeDigit 8 = .ok (.aload_n 0, 1) := by decide +kernel
theorem dX9_takeDigit_9 : decode cX9_takeDigit 9 = .ok (.getfield 41, 3) := by decide +kernel
theorem dX9_takeDigit_12 : decode cX9_takeDigit 12 = .ok (.iconst 2, 1) := by decide +kernel
theorem dX9_takeDigit_13 : decode cX9_takeDigit 13 = .ok (.if_icmp .gt 11, 3) := by decide +kernel
theorem dX9_takeDigit_16 : decode cX9_takeDigit 16 = .ok (.aload_n 0, 1) := by decide +kernel
theorem dX9_takeDigit_17 : decode cX9_takeDigit 17 = .ok (.getfield 25, 3) := by decide +kernel
theorem dX9_takeDigit_20 : decode cX9_takeDigit 20 = .ok (.iconst 1, 1) := by decide +kernel
theorem dX9_takeDigit_21 : decode cX9_takeDigit 21 = .ok (.if_icmp .ge 5, 3) := by decide +kernel
theorem dX9_takeDigit_24 : decode cX9_takeDigit 24 = .ok (.iconst 0, 1) := by decide +kernel
theorem dX9_takeDigit_25 : decode cX9_takeDigit 25 = .ok (.ireturn, 1) := by decide +kernel
theorem dX9_takeDigit_26 : decode cX9_takeDigit 26 = .ok (.aload_n 0, 1) := by decide +kernel
theorem dX9_takeDigit_27 : decode cX9_takeDigit 27 = .ok (.getfield 9, 3) := by decide +kernel
theorem dX9_takeDigit_30 : decode cX9_takeDigit 30 = .ok (.aload_n 0, 1) := by decide +kernel
theorem dX9_takeDigit_31 : decode cX9_takeDigit 31 = .ok (.getfield 25, 3) := by decide +kernel
theorem dX9_takeDigit_34 : decode cX9_takeDigit 34 = .ok (.iconst 1, 1) := by decide +kernel
theorem dX9_takeDigit_35 : decode cX9_takeDigit 35 = .ok (.isub, 1) := by decide +kernel
theorem dX9_takeDigit_36 : decode cX9_takeDigit 36 = .ok (.aload_n 0, 1) := by decide +kernel
theorem dX9_takeDigit_37 : decode cX9_takeDigit 37 = .ok (.getfield 9, 3) := by decide +kernel
theorem dX9_takeDigit_40 : decode cX9_takeDigit 40 = .ok (.aload_n 0, 1) := by decide +kernel
theorem dX9_takeDigit_41 : decode cX9_takeDigit 41 = .ok (.getfield 25, 3) := by decide +kernel
theorem dX9_takeDigit_44 : decode cX9_takeDigit 44 = .ok (.iconst 1, 1) := by decide +kernel
theorem dX9_takeDigit_45 : decode cX9_takeDigit 45 = .ok (.isub, 1) := by decide +kernel
theorem dX9_takeDigit_46 : decode cX9_takeDigit 46 = .ok (.iaload, 1) := by decide +kernel
theorem dX9_takeDigit_47 : decode cX9_takeDigit 47 = .ok (.bipush 10, 2) := by decide +kernel
theorem dX9_takeDigit_49 : decode cX9_takeDigit 49 = .ok (.imul, 1) := by decide +kernel
theorem dX9_takeDigit_50 : decode cX9_takeDigit 50 = .ok (.iload_n 1, 1) := by decide +kernel
theorem dX9_takeDigit_51 : decode cX9_takeDigit 51 = .ok (.iadd, 1) := by decide +kernel
theorem dX9_takeDigit_52 : decode cX9_takeDigit 52 = .ok (.iastore, 1) := by decide +kernel
theorem dX9_takeDigit_53 : decode cX9_takeDigit 53 = .ok (.aload_n 0, 1) := by decide +kernel
theorem dX9_takeDigit_54 : decode cX9_takeDigit 54 = .ok (.dup, 1) := by decide +kernel
theorem dX9_takeDigit_55 : decode cX9_takeDigit 55 = .ok (.getfield 41, 3) := by decide +kernel
theorem dX9_takeDigit_58 : decode cX9_takeDigit 58 = .ok (.iconst 1, 1) := by decide +kernel
theorem dX9_takeDigit_59 : decode cX9_takeDigit 59 = .ok (.iadd, 1) := by decide +kernel
theorem dX9_takeDigit_60 : decode cX9_takeDigit 60 = .ok (.putfield 41, 3) := by decide +kernel
theorem dX9_takeDigit_63 : decode cX9_takeDigit 63 = .ok (.iconst 1, 1) := by decide +kernel
theorem dX9_takeDigit_64 : decode cX9_takeDigit 64 = .ok (.ireturn, 1) := by decide +kernel
theorem dX9_isLetter_0 : decode cX9_isLetter 0 = .ok (.iload_n 0, 1) := by decide +kernel
theorem dX9_isLetter_1 : decode cX9_isLetter 1 = .ok (.tableswitch 101 99 119 #[99, 99, 101, 101, 101, 99, 99, 101, 99, 101, 101, 99, 101, 101, 101, 101, 101, 101, 101, 101, 99], 99) := by decide +kernel
theorem dX9_isLetter_100 : decode cX9_isLetter 100 = .ok (.iconst 1, 1) := by decide +kernel
theorem dX9_isLetter_101 : decode cX9_isLetter 101 = .ok (.ireturn, 1) := by decide +kernel
theorem dX9_isLetter_102 : decode cX9_isLetter 102 = .ok (.iconst 0, 1) := by decide +kernel
theorem dX9_isLetter_103 : decode cX9_isLetter 103 = .ok (.ireturn, 1) := by decide +kernel
theorem dX9_strengthOf_0 : decode cX9_strengthOf 0 = .ok (.iload_n 0, 1) := by decide +kernel
theorem dX9_strengthOf_1 : decode cX9_strengthOf 1 = .ok (.lookupswitch 83 #[(2042, 79), (2043, 77), (2045, 77), (2047, 79), (2060, 75), (2061, 75), (2062, 75), (3000, 81)], 75) := by decide +kernel
theorem dX9_strengthOf_76 : decode cX9_strengthOf 76 = .ok (.iconst 1, 1) := by decide +kernel
theorem dX9_strengthOf_77 : decode cX9_strengthOf 77 = .ok (.ireturn, 1) := by decide +kernel
theorem dX9_strengthOf_78 : decode cX9_strengthOf 78 = .ok (.iconst 2, 1) := by decide +kernel
theorem dX9_strengthOf_79 : decode cX9_strengthOf 79 = .ok (.ireturn, 1) := by decide +kernel
theorem dX9_strengthOf_80 : decode cX9_strengthOf 80 = .ok (.iconst 3, 1) := by decide +kernel
theorem dX9_strengthOf_81 : decode cX9_strengthOf 81 = .ok (.ireturn, 1) := by decide +kernel
theorem dX9_strengthOf_82 : decode cX9_strengthOf 82 = .ok (.iconst 4, 1) := by decide +kernel
theorem dX9_strengthOf_83 : decode cX9_strengthOf 83 = .ok (.ireturn, 1) := by decide +kernel
theorem dX9_strengthOf_84 : decode cX9_strengthOf 84 = .ok (.iconst 0, 1) := by decide +kernel
theorem dX9_strengthOf_85 : decode cX9_strengthOf 85 = .ok (.ireturn, 1) := by decide +kernel
theorem dX9_emit_0 : decode cX9_emit 0 = .ok (.aload_n 0, 1) := by decide +kernel
theorem dX9_emit_1 : decode cX9_emit 1 = .ok (.getfield 25, 3) := by decide +kernel
theorem dX9_emit_4 : decode cX9_emit 4 = .ok (.aload_n 0, 1) := by decide +kernel
theorem dX9_emit_5 : decode cX9_emit 5 = .ok (.getfield 9, 3) := by decide +kernel
theorem dX9_emit_8 : decode cX9_emit 8 = .ok (.arraylength, 1) := by decide +kernel
theorem dX9_emit_9 : decode cX9_emit 9 = .ok (.if_icmp .ge 23, 3) := by decide +kernel
theorem dX9_emit_12 : decode cX9_emit 12 = .ok (.aload_n 0, 1) := by decide +kernel
theorem dX9_emit_13 : decode cX9_emit 13 = .ok (.getfield 9, 3) := by decide +kernel
theorem dX9_emit_16 : decode cX9_emit 16 = .ok (.aload_n 0, 1) := by decide +kernel
theorem dX9_emit_17 : decode cX9_emit 17 = .ok (.getfield 25, 3) := by decide +kernel
theorem dX9_emit_20 : decode cX9_emit 20 = .ok (.iload_n 1, 1) := by decide +kernel
theorem dX9_emit_21 : decode cX9_emit 21 = .ok (.iastore, 1) := by decide +kernel
theorem dX9_emit_22 : decode cX9_emit 22 = .ok (.aload_n 0, 1) := by decide +kernel
theorem dX9_emit_23 : decode cX9_emit 23 = .ok (.dup, 1) := by decide +kernel
theorem dX9_emit_24 : decode cX9_emit 24 = .ok (.getfield 25, 3) := by decide +kernel
theorem dX9_emit_27 : decode cX9_emit 27 = .ok (.iconst 1, 1) := by decide +kernel
theorem dX9_emit_28 : decode cX9_emit 28 = .ok (.iadd, 1) := by decide +kernel
theorem dX9_emit_29 : decode cX9_emit 29 = .ok (.putfield 25, 3) := by decide +kernel
theorem dX9_emit_32 : decode cX9_emit 32 = .ok (.return_, 1) := by decide +kernel
theorem dX9_hold_0 : decode cX9_hold 0 = .ok (.aload_n 0, 1) := by decide +kernel
theorem dX9_hold_1 : decode cX9_hold 1 = .ok (.getfield 35, 3) := by decide +kernel
theorem dX9_hold_4 : decode cX9_hold 4 = .ok (.aload_n 0, 1) := by decide +kernel
theorem dX9_hold_5 : decode cX9_hold 5 = .ok (.getfield 15, 3) := by decide +kernel
theorem dX9_hold_8 : decode cX9_hold 8 = .ok (.arraylength, 1) := by decide +kernel
theorem dX9_hold_9 : decode cX9_hold 9 = .ok (.if_icmp .ge 23, 3) := by decide +kernel
theorem dX9_hold_12 : decode cX9_hold 12 = .ok (.aload_n 0, 1) := by decide +kernel
theorem dX9_hold_13 : decode cX9_hold 13 = .ok (.getfield 15, 3) := by decide +kernel
theorem dX9_hold_16 : decode cX9_hold 16 = .ok (.aload_n 0, 1) := by decide +kernel
theorem dX9_hold_17 : decode cX9_hold 17 = .ok (.getfield 35, 3) := by decide +kernel
theorem dX9_hold_20 : decode cX9_hold 20 = .ok (.iload_n 1, 1) := by decide +kernel
theorem dX9_hold_21 : decode cX9_hold 21 = .ok (.iastore, 1) := by decide +kernel
theorem dX9_hold_22 : decode cX9_hold 22 = .ok (.aload_n 0, 1) := by decide +kernel
theorem dX9_hold_23 : decode cX9_hold 23 = .ok (.dup, 1) := by decide +kernel
theorem dX9_hold_24 : decode cX9_hold 24 = .ok (.getfield 35, 3) := by decide +kernel
theorem dX9_hold_27 : decode cX9_hold 27 = .ok (.iconst 1, 1) := by decide +kernel
theorem dX9_hold_28 : decode cX9_hold 28 = .ok (.iadd, 1) := by decide +kernel
theorem dX9_hold_29 : decode cX9_hold 29 = .ok (.putfield 35, 3) := by decide +kernel
theorem dX9_hold_32 : decode cX9_hold 32 = .ok (.return_, 1) := by decide +kernel
theorem dX9_emitWaiting_0 : decode cX9_emitWaiting 0 = .ok (.aload_n 0, 1) := by decide +kernel
theorem dX9_emitWaiting_1 : decode cX9_emitWaiting 1 = .ok (.getfield 35, 3) := by decide +kernel
theorem dX9_emitWaiting_4 : decode cX9_emitWaiting 4 = .ok (.ifCond .le 47, 3) := by decide +kernel
theorem dX9_emitWaiting_7 : decode cX9_emitWaiting 7 = .ok (.aload_n 0, 1) := by decide +kernel
theorem dX9_emitWaiting_8 : decode cX9_emitWaiting 8 = .ok (.getfield 15, 3) := by decide +kernel
theorem dX9_emitWaiting_11 : decode cX9_emitWaiting 11 = .ok (.aload_n 0, 1) := by decide +kernel
theorem dX9_emitWaiting_12 : decode cX9_emitWaiting 12 = .ok (.getfield 35, 3) := by decide +kernel
theorem dX9_emitWaiting_15 : decode cX9_emitWaiting 15 = .ok (.iconst 1, 1) := by decide +kernel
theorem dX9_emitWaiting_16 : decode cX9_emitWaiting 16 = .ok (.isub, 1) := by decide +kernel
theorem dX9_emitWaiting_17 : decode cX9_emitWaiting 17 = .ok (.iaload, 1) := by decide +kernel
theorem dX9_emitWaiting_18 : decode cX9_emitWaiting 18 = .ok (.invokestatic 89, 3) := by decide +kernel
theorem dX9_emitWaiting_21 : decode cX9_emitWaiting 21 = .ok (.iload_n 1, 1) := by decide +kernel
theorem dX9_emitWaiting_22 : decode cX9_emitWaiting 22 = .ok (.if_icmp .lt 29, 3) := by decide +kernel
theorem dX9_emitWaiting_25 : decode cX9_emitWaiting 25 = .ok (.aload_n 0, 1) := by decide +kernel
theorem dX9_emitWaiting_26 : decode cX9_emitWaiting 26 = .ok (.dup, 1) := by decide +kernel
theorem dX9_emitWaiting_27 : decode cX9_emitWaiting 27 = .ok (.getfield 35, 3) := by decide +kernel
theorem dX9_emitWaiting_30 : decode cX9_emitWaiting 30 = .ok (.iconst 1, 1) := by decide +kernel
theorem dX9_emitWaiting_31 : decode cX9_emitWaiting 31 = .ok (.isub, 1) := by decide +kernel
theorem dX9_emitWaiting_32 : decode cX9_emitWaiting 32 = .ok (.putfield 35, 3) := by decide +kernel
theorem dX9_emitWaiting_35 : decode cX9_emitWaiting 35 = .ok (.aload_n 0, 1) := by decide +kernel
theorem dX9_emitWaiting_36 : decode cX9_emitWaiting 36 = .ok (.aload_n 0, 1) := by decide +kernel
theorem dX9_emitWaiting_37 : decode cX9_emitWaiting 37 = .ok (.getfield 15, 3) := by decide +kernel
theorem dX9_emitWaiting_40 : decode cX9_emitWaiting 40 = .ok (.aload_n 0, 1) := by decide +kernel
theorem dX9_emitWaiting_41 : decode cX9_emitWaiting 41 = .ok (.getfield 35, 3) := by decide +kernel
theorem dX9_emitWaiting_44 : decode cX9_emitWaiting 44 = .ok (.iaload, 1) := by decide +kernel
theorem dX9_emitWaiting_45 : decode cX9_emitWaiting 45 = .ok (.invokevirtual 83, 3) := by decide +kernel
theorem dX9_emitWaiting_48 : decode cX9_emitWaiting 48 = .ok (.goto (-48), 3) := by decide +kernel
theorem dX9_emitWaiting_51 : decode cX9_emitWaiting 51 = .ok (.return_, 1) := by decide +kernel
theorem dX9_turn_0 : decode cX9_turn 0 = .ok (.aload_n 0, 1) := by decide +kernel
theorem dX9_turn_1 : decode cX9_turn 1 = .ok (.getfield 25, 3) := by decide +kernel
theorem dX9_turn_4 : decode cX9_turn 4 = .ok (.ifCond .ne 5, 3) := by decide +kernel
theorem dX9_turn_7 : decode cX9_turn 7 = .ok (.iconst 1, 1) := by decide +kernel
theorem dX9_turn_8 : decode cX9_turn 8 = .ok (.ireturn, 1) := by decide +kernel
theorem dX9_turn_9 : decode cX9_turn 9 = .ok (.iconst 0, 1) := by decide +kernel
theorem dX9_turn_10 : decode cX9_turn 10 = .ok (.istore 5, 2) := by decide +kernel
theorem dX9_turn_12 : decode cX9_turn 12 = .ok (.iconst 0, 1) := by decide +kernel
theorem dX9_turn_13 : decode cX9_turn 13 = .ok (.istore 6, 2) := by decide +kernel
theorem dX9_turn_15 : decode cX9_turn 15 = .ok (.iload 6, 2) := by decide +kernel
theorem dX9_turn_17 : decode cX9_turn 17 = .ok (.aload_n 0, 1) := by decide +kernel
theorem dX9_turn_18 : decode cX9_turn 18 = .ok (.getfield 25, 3) := by decide +kernel
theorem dX9_turn_21 : decode cX9_turn 21 = .ok (.if_icmp .ge 154, 3) := by decide +kernel
theorem dX9_turn_24 : decode cX9_turn 24 = .ok (.aload_n 0, 1) := by decide +kernel
theorem dX9_turn_25 : decode cX9_turn 25 = .ok (.getfield 9, 3) := by decide +kernel
theorem dX9_turn_28 : decode cX9_turn 28 = .ok (.iload 6, 2) := by decide +kernel
theorem dX9_turn_30 : decode cX9_turn 30 = .ok (.iaload, 1) := by decide +kernel
theorem dX9_turn_31 : decode cX9_turn 31 = .ok (.istore 7, 2) := by decide +kernel
theorem dX9_turn_33 : decode cX9_turn 33 = .ok (.iload 7, 2) := by decide +kernel
theorem dX9_turn_35 : decode cX9_turn 35 = .ok (.sipush 2000, 3) := by decide +kernel
theorem dX9_turn_38 : decode cX9_turn 38 = .ok (.if_icmp .ge 53, 3) := by decide +kernel
theorem dX9_turn_41 : decode cX9_turn 41 = .ok (.iload 5, 2) := by decide +kernel
theorem dX9_turn_43 : decode cX9_turn 43 = .ok (.aload_n 0, 1) := by decide +kernel
theorem dX9_turn_44 : decode cX9_turn 44 = .ok (.getfield 18, 3) := by decide +kernel
theorem dX9_turn_47 : decode cX9_turn 47 = .ok (.arraylength, 1) := by decide +kernel
theorem dX9_turn_48 : decode cX9_turn 48 = .ok (.if_icmp .ge 121, 3) := by decide +kernel
theorem dX9_turn_51 : decode cX9_turn 51 = .ok (.aload_n 0, 1) := by decide +kernel
theorem dX9_turn_52 : decode cX9_turn 52 = .ok (.getfield 18, 3) := by decide +kernel
theorem dX9_turn_55 : decode cX9_turn 55 = .ok (.iload 5, 2) := by decide +kernel
theorem dX9_turn_57 : decode cX9_turn 57 = .ok (.iload 7, 2) := by decide +kernel
theorem dX9_turn_59 : decode cX9_turn 59 = .ok (.sipush 1000, 3) := by decide +kernel
theorem dX9_turn_62 : decode cX9_turn 62 = .ok (.if_icmp .ge 8, 3) := by decide +kernel
theorem dX9_turn_65 : decode cX9_turn 65 = .ok (.iload 7, 2) := by decide +kernel
theorem dX9_turn_67 : decode cX9_turn 67 = .ok (.goto 17, 3) := by decide +kernel
theorem dX9_turn_70 : decode cX9_turn 70 = .ok (.iload 7, 2) := by decide +kernel
theorem dX9_turn_72 : decode cX9_turn 72 = .ok (.sipush 1000, 3) := by decide +kernel
theorem dX9_turn_75 : decode cX9_turn 75 = .ok (.isub, 1) := by decide +kernel
theorem dX9_turn_76 : decode cX9_turn 76 = .ok (.aload_n 1, 1) := by decide +kernel
theorem dX9_turn_77 : decode cX9_turn 77 = .ok (.iload_n 2, 1) := by decide +kernel
theorem dX9_turn_78 : decode cX9_turn 78 = .ok (.iload_n 3, 1) := by decide +kernel
theorem dX9_turn_79 : decode cX9_turn 79 = .ok (.iload 4, 2) := by decide +kernel
theorem dX9_turn_81 : decode cX9_turn 81 = .ok (.invokestatic 92, 3) := by decide +kernel
theorem dX9_turn_84 : decode cX9_turn 84 = .ok (.iastore, 1) := by decide +kernel
theorem dX9_turn_85 : decode cX9_turn 85 = .ok (.iinc 5 1, 3) := by decide +kernel
theorem dX9_turn_88 : decode cX9_turn 88 = .ok (.goto 81, 3) := by decide +kernel
theorem dX9_turn_91 : decode cX9_turn 91 = .ok (.iload 7, 2) := by decide +kernel
theorem dX9_turn_93 : decode cX9_turn 93 = .ok (.sipush 3000, 3) := by decide +kernel
theorem dX9_turn_96 : decode cX9_turn 96 = .ok (.if_icmp .ne 30, 3) := by decide +kernel
theorem dX9_turn_99 : decode cX9_turn 99 = .ok (.iload 5, 2) := by decide +kernel
theorem dX9_turn_101 : decode cX9_turn 101 = .ok (.ifCond .le 68, 3) := by decide +kernel
theorem dX9_turn_104 : decode cX9_turn 104 = .ok (.aload_n 0, 1) := by decide +kernel
theorem dX9_turn_105 : decode cX9_turn 105 = .ok (.getfield 18, 3) := by decide +kernel
theorem dX9_turn_108 : decode cX9_turn 108 = .ok (.iload 5, 2) := by decide +kernel
theorem dX9_turn_110 : decode cX9_turn 110 = .ok (.iconst 1, 1) := by decide +kernel
theorem dX9_turn_111 : decode cX9_turn 111 = .ok (.isub, 1) := by decide +kernel
theorem dX9_turn_112 : decode cX9_turn 112 = .ok (.aload_n 0, 1) := by decide +kernel
theorem dX9_turn_113 : decode cX9_turn 113 = .ok (.getfield 18, 3) := by decide +kernel
theorem dX9_turn_116 : decode cX9_turn 116 = .ok (.iload 5, 2) := by decide +kernel
theorem dX9_turn_118 : decode cX9_turn 118 = .ok (.iconst 1, 1) := by decide +kernel
theorem dX9_turn_119 : decode cX9_turn 119 = .ok (.isub, 1) := by decide +kernel
theorem dX9_turn_120 : decode cX9_turn 120 = .ok (.iaload, 1) := by decide +kernel
theorem dX9_turn_121 : decode cX9_turn 121 = .ok (.ineg, 1) := by decide +kernel
theorem dX9_turn_122 : decode cX9_turn 122 = .ok (.iastore, 1) := by decide +kernel
theorem dX9_turn_123 : decode cX9_turn 123 = .ok (.goto 46, 3) := by decide +kernel
theorem dX9_turn_126 : decode cX9_turn 126 = .ok (.iload 5, 2) := by decide +kernel
theorem dX9_turn_128 : decode cX9_turn 128 = .ok (.iconst 1, 1) := by decide +kernel
theorem dX9_turn_129 : decode cX9_turn 129 = .ok (.if_icmp .le 40, 3) := by decide +kernel
theorem dX9_turn_132 : decode cX9_turn 132 = .ok (.iinc 5 (-1), 3) := by decide +kernel
theorem dX9_turn_135 : decode cX9_turn 135 = .ok (.aload_n 0, 1) := by decide +kernel
theorem dX9_turn_136 : decode cX9_turn 136 = .ok (.getfield 18, 3) := by decide +kernel
theorem dX9_turn_139 : decode cX9_turn 139 = .ok (.iload 5, 2) := by decide +kernel
theorem dX9_turn_141 : decode cX9_turn 141 = .ok (.iconst 1, 1) := by decide +kernel
theorem dX9_turn_142 : decode cX9_turn 142 = .ok (.isub, 1) := by decide +kernel
theorem dX9_turn_143 : decode cX9_turn 143 = .ok (.iload 7, 2) := by decide +kernel
theorem dX9_turn_145 : decode cX9_turn 145 = .ok (.sipush 2000, 3) := by decide +kernel
theorem dX9_turn_148 : decode cX9_turn 148 = .ok (.isub, 1) := by decide +kernel
theorem dX9_turn_149 : decode cX9_turn 149 = .ok (.aload_n 0, 1) := by decide +kernel
theorem dX9_turn_150 : decode cX9_turn 150 = .ok (.getfield 18, 3) := by decide +kernel
theorem dX9_turn_153 : decode cX9_turn 153 = .ok (.iload 5, 2) := by decide +kernel
theorem dX9_turn_155 : decode cX9_turn 155 = .ok (.iconst 1, 1) := by decide +kernel
theorem dX9_turn_156 : decode cX9_turn 156 = .ok (.isub, 1) := by decide +kernel
theorem dX9_turn_157 : decode cX9_turn 157 = .ok (.iaload, 1) := by decide +kernel
theorem dX9_turn_158 : decode cX9_turn 158 = .ok (.aload_n 0, 1) := by decide +kernel
theorem dX9_turn_159 : decode cX9_turn 159 = .ok (.getfield 18, 3) := by decide +kernel
theorem dX9_turn_162 : decode cX9_turn 162 = .ok (.iload 5, 2) := by decide +kernel
theorem dX9_turn_164 : decode cX9_turn 164 = .ok (.iaload, 1) := by decide +kernel
theorem dX9_turn_165 : decode cX9_turn 165 = .ok (.invokestatic 96, 3) := by decide +kernel
theorem dX9_turn_168 : decode cX9_turn 168 = .ok (.iastore, 1) := by decide +kernel
theorem dX9_turn_169 : decode cX9_turn 169 = .ok (.iinc 6 1, 3) := by decide +kernel
theorem dX9_turn_172 : decode cX9_turn 172 = .ok (.goto (-157), 3) := by decide +kernel
theorem dX9_turn_175 : decode cX9_turn 175 = .ok (.iconst 0, 1) := by decide +kernel
theorem dX9_turn_176 : decode cX9_turn 176 = .ok (.bipush 9, 2) := by decide +kernel
theorem dX9_turn_178 : decode cX9_turn 178 = .ok (.aload_n 0, 1) := by decide +kernel
theorem dX9_turn_179 : decode cX9_turn 179 = .ok (.getfield 18, 3) := by decide +kernel
theorem dX9_turn_182 : decode cX9_turn 182 = .ok (.iconst 0, 1) := by decide +kernel
theorem dX9_turn_183 : decode cX9_turn 183 = .ok (.iaload, 1) := by decide +kernel
theorem dX9_turn_184 : decode cX9_turn 184 = .ok (.invokestatic 53, 3) := by decide +kernel
theorem dX9_turn_187 : decode cX9_turn 187 = .ok (.invokestatic 100, 3) := by decide +kernel
theorem dX9_turn_190 : decode cX9_turn 190 = .ok (.ireturn, 1) := by decide +kernel
theorem dX9_letterValue_0 : decode cX9_letterValue 0 = .ok (.iload_n 2, 1) := by decide +kernel
theorem dX9_letterValue_1 : decode cX9_letterValue 1 = .ok (.iconst 1, 1) := by decide +kernel
theorem dX9_letterValue_2 : decode cX9_letterValue 2 = .ok (.if_icmp .lt 9, 3) := by decide +kernel
theorem dX9_letterValue_5 : decode cX9_letterValue 5 = .ok (.iload_n 2, 1) := by decide +kernel
theorem dX9_letterValue_6 : decode cX9_letterValue 6 = .ok (.bipush 8, 2) := by decide +kernel
theorem dX9_letterValue_8 : decode cX9_letterValue 8 = .ok (.if_icmp .lt 5, 3) := by decide +kernel
theorem dX9_letterValue_11 : decode cX9_letterValue 11 = .ok (.iconst 0, 1) := by decide +kernel
theorem dX9_letterValue_12 : decode cX9_letterValue 12 = .ok (.ireturn, 1) := by decide +kernel
theorem dX9_letterValue_13 : decode cX9_letterValue 13 = .ok (.iload_n 0, 1) := by decide +kernel
theorem dX9_letterValue_14 : decode cX9_letterValue 14 = .ok (.lookupswitch 87 #[(99, 70), (100, 58), (104, 79), (105, 77), (107, 60), (119, 67)], 58) := by decide +kernel
theorem dX9_letterValue_72 : decode cX9_letterValue 72 = .ok (.iload_n 3, 1) := by decide +kernel
theorem dX9_letterValue_73 : decode cX9_letterValue 73 = .ok (.ireturn, 1) := by decide +kernel
theorem dX9_letterValue_74 : decode cX9_letterValue 74 = .ok (.aload_n 1, 1) := by decide +kernel
theorem dX9_letterValue_75 : decode cX9_letterValue 75 = .ok (.getfield 103, 3) := by decide +kernel
theorem dX9_letterValue_78 : decode cX9_letterValue 78 = .ok (.iload_n 2, 1) := by decide +kernel
theorem dX9_letterValue_79 : decode cX9_letterValue 79 = .ok (.iaload, 1) := by decide +kernel
theorem dX9_letterValue_80 : decode cX9_letterValue 80 = .ok (.ireturn, 1) := by decide +kernel
theorem dX9_letterValue_81 : decode cX9_letterValue 81 = .ok (.iload 4, 2) := by decide +kernel
theorem dX9_letterValue_83 : decode cX9_letterValue 83 = .ok (.ireturn, 1) := by decide +kernel
theorem dX9_letterValue_84 : decode cX9_letterValue 84 = .ok (.aload_n 1, 1) := by decide +kernel
theorem dX9_letterValue_85 : decode cX9_letterValue 85 = .ok (.getfield 108, 3) := by decide +kernel
theorem dX9_letterValue_88 : decode cX9_letterValue 88 = .ok (.iload_n 2, 1) := by decide +kernel
theorem dX9_letterValue_89 : decode cX9_letterValue 89 = .ok (.iaload, 1) := by decide +kernel
theorem dX9_letterValue_90 : decode cX9_letterValue 90 = .ok (.ireturn, 1) := by decide +kernel
theorem dX9_letterValue_91 : decode cX9_letterValue 91 = .ok (.iload_n 2, 1) := by decide +kernel
theorem dX9_letterValue_92 : decode cX9_letterValue 92 = .ok (.ireturn, 1) := by decide +kernel
theorem dX9_letterValue_93 : decode cX9_letterValue 93 = .ok (.aload_n 1, 1) := by decide +kernel
theorem dX9_letterValue_94 : decode cX9_letterValue 94 = .ok (.getfield 111, 3) := by decide +kernel
theorem dX9_letterValue_97 : decode cX9_letterValue 97 = .ok (.bipush 7, 2) := by decide +kernel
theorem dX9_letterValue_99 : decode cX9_letterValue 99 = .ok (.irem, 1) := by decide +kernel
theorem dX9_letterValue_100 : decode cX9_letterValue 100 = .ok (.ireturn, 1) := by decide +kernel
theorem dX9_letterValue_101 : decode cX9_letterValue 101 = .ok (.aload_n 1, 1) := by decide +kernel
theorem dX9_letterValue_102 : decode cX9_letterValue 102 = .ok (.getfield 114, 3) := by decide +kernel
theorem dX9_letterValue_105 : decode cX9_letterValue 105 = .ok (.bipush 7, 2) := by decide +kernel
theorem dX9_letterValue_107 : decode cX9_letterValue 107 = .ok (.irem, 1) := by decide +kernel
theorem dX9_letterValue_108 : decode cX9_letterValue 108 = .ok (.ireturn, 1) := by decide +kernel
theorem dX9_joined_0 : decode cX9_joined 0 = .ok (.iload_n 0, 1) := by decide +kernel
theorem dX9_joined_1 : decode cX9_joined 1 = .ok (.lookupswitch 104 #[(42, 100), (43, 92), (45, 96), (60, 59), (61, 81), (62, 70)], 59) := by decide +kernel
theorem dX9_joined_60 : decode cX9_joined 60 = .ok (.iload_n 1, 1) := by decide +kernel
theorem dX9_joined_61 : decode cX9_joined 61 = .ok (.iload_n 2, 1) := by decide +kernel
theorem dX9_joined_62 : decode cX9_joined 62 = .ok (.if_icmp .ge 7, 3) := by decide +kernel
theorem dX9_joined_65 : decode cX9_joined 65 = .ok (.iconst 1, 1) := by decide +kernel
theorem dX9_joined_66 : decode cX9_joined 66 = .ok (.goto 4, 3) := by decide +kernel
theorem dX9_joined_69 : decode cX9_joined 69 = .ok (.iconst 0, 1) := by decide +kernel
theorem dX9_joined_70 : decode cX9_joined 70 = .ok (.ireturn, 1) := by decide +kernel
theorem dX9_joined_71 : decode cX9_joined 71 = .ok (.iload_n 1, 1) := by decide +kernel
theorem dX9_joined_72 : decode cX9_joined 72 = .ok (.iload_n 2, 1) := by decide +kernel
theorem dX9_joined_73 : decode cX9_joined 73 = .ok (.if_icmp .le 7, 3) := by decide +kernel
theorem dX9_joined_76 : decode cX9_joined 76 = .ok (.iconst 1, 1) := by decide +kernel
theorem dX9_joined_77 : decode cX9_joined 77 = .ok (.goto 4, 3) := by decide +kernel
theorem dX9_joined_80 : decode cX9_joined 80 = .ok (.iconst 0, 1) := by decide +kernel
theorem dX9_joined_81 : decode cX9_joined 81 = .ok (.ireturn, 1) := by decide +kernel
theorem dX9_joined_82 : decode cX9_joined 82 = .ok (.iload_n 1, 1) := by decide +kernel
theorem dX9_joined_83 : decode cX9_joined 83 = .ok (.iload_n 2, 1) := by decide +kernel
theorem dX9_joined_84 : decode cX9_joined 84 = .ok (.if_icmp .ne 7, 3) := by decide +kernel
theorem dX9_joined_87 : decode cX9_joined 87 = .ok (.iconst 1, 1) := by decide +kernel
theorem dX9_joined_88 : decode cX9_joined 88 = .ok (.goto 4, 3) := by decide +kernel
theorem dX9_joined_91 : decode cX9_joined 91 = .ok (.iconst 0, 1) := by decide +kernel
theorem dX9_joined_92 : decode cX9_joined 92 = .ok (.ireturn, 1) := by decide +kernel
theorem dX9_joined_93 : decode cX9_joined 93 = .ok (.iload_n 1, 1) := by decide +kernel
theorem dX9_joined_94 : decode cX9_joined 94 = .ok (.iload_n 2, 1) := by decide +kernel
theorem dX9_joined_95 : decode cX9_joined 95 = .ok (.iadd, 1) := by decide +kernel
theorem dX9_joined_96 : decode cX9_joined 96 = .ok (.ireturn, 1) := by decide +kernel
theorem dX9_joined_97 : decode cX9_joined 97 = .ok (.iload_n 1, 1) := by decide +kernel
theorem dX9_joined_98 : decode cX9_joined 98 = .ok (.iload_n 2, 1) := by decide +kernel
theorem dX9_joined_99 : decode cX9_joined 99 = .ok (.isub, 1) := by decide +kernel
theorem dX9_joined_100 : decode cX9_joined 100 = .ok (.ireturn, 1) := by decide +kernel
theorem dX9_joined_101 : decode cX9_joined 101 = .ok (.iload_n 1, 1) := by decide +kernel
theorem dX9_joined_102 : decode cX9_joined 102 = .ok (.iload_n 2, 1) := by decide +kernel
theorem dX9_joined_103 : decode cX9_joined 103 = .ok (.imul, 1) := by decide +kernel
theorem dX9_joined_104 : decode cX9_joined 104 = .ok (.ireturn, 1) := by decide +kernel
theorem dX9_joined_105 : decode cX9_joined 105 = .ok (.iload_n 2, 1) := by decide +kernel
theorem dX9_joined_106 : decode cX9_joined 106 = .ok (.ifCond .ne 7, 3) := by decide +kernel
theorem dX9_joined_109 : decode cX9_joined 109 = .ok (.iconst 0, 1) := by decide +kernel
theorem dX9_joined_110 : decode cX9_joined 110 = .ok (.goto 6, 3) := by decide +kernel
theorem dX9_joined_113 : decode cX9_joined 113 = .ok (.iload_n 1, 1) := by decide +kernel
theorem dX9_joined_114 : decode cX9_joined 114 = .ok (.iload_n 2, 1) := by decide +kernel
theorem dX9_joined_115 : decode cX9_joined 115 = .ok (.idiv, 1) := by decide +kernel
theorem dX9_joined_116 : decode cX9_joined 116 = .ok (.ireturn, 1) := by decide +kernel
theorem dX10_init_0 : decode cX10_init 0 = .ok (.aload_n 0, 1) := by decide +kernel
theorem dX10_init_1 : decode cX10_init 1 = .ok (.invokespecial 3, 3) := by decide +kernel
theorem dX10_init_4 : decode cX10_init 4 = .ok (.aload_n 0, 1) := by decide +kernel
theorem dX10_init_5 : decode cX10_init 5 = .ok (.new 9, 3) := by decide +kernel
theorem dX10_init_8 : decode cX10_init 8 = .ok (.dup, 1) := by decide +kernel
theorem dX10_init_9 : decode cX10_init 9 = .ok (.invokespecial 11, 3) := by decide +kernel
theorem dX10_init_12 : decode cX10_init 12 = .ok (.putfield 12, 3) := by decide +kernel
theorem dX10_init_15 : decode cX10_init 15 = .ok (.aload_n 0, 1) := by decide +kernel
theorem dX10_init_16 : decode cX10_init 16 = .ok (.new 16, 3) := by decide +kernel
theorem dX10_init_19 : decode cX10_init 19 = .ok (.dup, 1) := by decide +kernel
theorem dX10_init_20 : decode cX10_init 20 = .ok (.invokespecial 18, 3) := by decide +kernel
theorem dX10_init_23 : decode cX10_init 23 = .ok (.putfield 19, 3) := by decide +kernel
theorem dX10_init_26 : decode cX10_init 26 = .ok (.aload_n 0, 1) := by decide +kernel
theorem dX10_init_27 : decode cX10_init 27 = .ok (.new 23, 3) := by decide +kernel
theorem dX10_init_30 : decode cX10_init 30 = .ok (.dup, 1) := by decide +kernel
theorem dX10_init_31 : decode cX10_init 31 = .ok (.invokespecial 25, 3) := by decide +kernel
theorem dX10_init_34 : decode cX10_init 34 = .ok (.putfield 26, 3) := by decide +kernel
theorem dX10_init_37 : decode cX10_init 37 = .ok (.aload_n 0, 1) := by decide +kernel
theorem dX10_init_38 : decode cX10_init 38 = .ok (.new 23, 3) := by decide +kernel
theorem dX10_init_41 : decode cX10_init 41 = .ok (.dup, 1) := by decide +kernel
theorem dX10_init_42 : decode cX10_init 42 = .ok (.invokespecial 25, 3) := by decide +kernel
theorem dX10_init_45 : decode cX10_init 45 = .ok (.putfield 30, 3) := by decide +kernel
theorem dX10_init_48 : decode cX10_init 48 = .ok (.aload_n 0, 1) := by decide +kernel
theorem dX10_init_49 : decode cX10_init 49 = .ok (.new 33, 3) := by decide +kernel
theorem dX10_init_52 : decode cX10_init 52 = .ok (.dup, 1) := by decide +kernel
theorem dX10_init_53 : decode cX10_init 53 = .ok (.invokespecial 35, 3) := by decide +kernel
theorem dX10_init_56 : decode cX10_init 56 = .ok (.putfield 36, 3) := by decide +kernel
theorem dX10_init_59 : decode cX10_init 59 = .ok (.aload_n 0, 1) := by decide +kernel
theorem dX10_init_60 : decode cX10_init 60 = .ok (.new 33, 3) := by decide +kernel
theorem dX10_init_63 : decode cX10_init 63 = .ok (.dup, 1) := by decide +kernel
theorem dX10_init_64 : decode cX10_init 64 = .ok (.invokespecial 35, 3) := by decide +kernel
theorem dX10_init_67 : decode cX10_init 67 = .ok (.putfield 40, 3) := by decide +kernel
theorem dX10_init_70 : decode cX10_init 70 = .ok (.aload_n 0, 1) := by decide +kernel
theorem dX10_init_71 : decode cX10_init 71 = .ok (.new 43, 3) := by decide +kernel
theorem dX10_init_74 : decode cX10_init 74 = .ok (.dup, 1) := by decide +kernel
theorem dX10_init_75 : decode cX10_init 75 = .ok (.invokespecial 45, 3) := by decide +kernel
theorem dX10_init_78 : decode cX10_init 78 = .ok (.putfield 46, 3) := by decide +kernel
theorem dX10_init_81 : decode cX10_init 81 = .ok (.aload_n 0, 1) := by decide +kernel
theorem dX10_init_82 : decode cX10_init 82 = .ok (.new 43, 3) := by decide +kernel
theorem dX10_init_85 : decode cX10_init 85 = .ok (.dup, 1) := by decide +kernel
theorem dX10_init_86 : decode cX10_init 86 = .ok (.invokespecial 45, 3) := by decide +kernel
theorem dX10_init_89 : decode cX10_init 89 = .ok (.putfield 50, 3) := by decide +kernel
theorem dX10_init_92 : decode cX10_init 92 = .ok (.aload_n 0, 1) := by decide +kernel
theorem dX10_init_93 : decode cX10_init 93 = .ok (.new 43, 3) := by decide +kernel
theorem dX10_init_96 : decode cX10_init 96 = .ok (.dup, 1) := by decide +kernel
theorem dX10_init_97 : decode cX10_init 97 = .ok (.invokespecial 45, 3) := by decide +kernel
theorem dX10_init_100 : decode cX10_init 100 = .ok (.putfield 53, 3) := by decide +kernel
theorem dX10_init_103 : decode cX10_init 103 = .ok (.aload_n 0, 1) := by decide +kernel
theorem dX10_init_104 : decode cX10_init 104 = .ok (.new 56, 3) := by decide +kernel
theorem dX10_init_107 : decode cX10_init 107 = .ok (.dup, 1) := by decide +kernel
theorem dX10_init_108 : decode cX10_init 108 = .ok (.invokespecial 58, 3) := by decide +kernel
theorem dX10_init_111 : decode cX10_init 111 = .ok (.putfield 59, 3) := by decide +kernel
theorem dX10_init_114 : decode cX10_init 114 = .ok (.aload_n 0, 1) := by decide +kernel
theorem dX10_init_115 : decode cX10_init 115 = .ok (.new 63, 3) := by decide +kernel
theorem dX10_init_118 : decode cX10_init 118 = .ok (.dup, 1) := by decide +kernel
theorem dX10_init_119 : decode cX10_init 119 = .ok (.invokespecial 65, 3) := by decide +kernel
theorem dX10_init_122 : decode cX10_init 122 = .ok (.putfield 66, 3) := by decide +kernel
theorem dX10_init_125 : decode cX10_init 125 = .ok (.aload_n 0, 1) := by decide +kernel
theorem dX10_init_126 : decode cX10_init 126 = .ok (.new 70, 3) := by decide +kernel
theorem dX10_init_129 : decode cX10_init 129 = .ok (.dup, 1) := by decide +kernel
theorem dX10_init_130 : decode cX10_init 130 = .ok (.invokespecial 72, 3) := by decide +kernel
theorem dX10_init_133 : decode cX10_init 133 = .ok (.putfield 73, 3) := by decide +kernel
theorem dX10_init_136 : decode cX10_init 136 = .ok (.aload_n 0, 1) := by decide +kernel
theorem dX10_init_137 : decode cX10_init 137 = .ok (.new 77, 3) := by decide +kernel
theorem dX10_init_140 : decode cX10_init 140 = .ok (.dup, 1) := by decide +kernel
theorem dX10_init_141 : decode cX10_init 141 = .ok (.invokespecial 79, 3) := by decide +kernel
theorem dX10_init_144 : decode cX10_init 144 = .ok (.putfield 80, 3) := by decide +kernel
theorem dX10_init_147 : decode cX10_init 147 = .ok (.aload_n 0, 1) := by decide +kernel
theorem dX10_init_148 : decode cX10_init 148 = .ok (.new 84, 3) := by decide +kernel
theorem dX10_init_151 : decode cX10_init 151 = .ok (.dup, 1) := by decide +kernel
theorem dX10_init_152 : decode cX10_init 152 = .ok (.invokespecial 86, 3) := by decide +kernel
theorem dX10_init_155 : decode cX10_init 155 = .ok (.putfield 87, 3) := by decide +kernel
theorem dX10_init_158 : decode cX10_init 158 = .ok (.aload_n 0, 1) := by decide +kernel
theorem dX10_init_159 : decode cX10_init 159 = .ok (.bipush 8, 2) := by decide +kernel
theorem dX10_init_161 : decode cX10_init 161 = .ok (.newarray .int, 2) := by decide +kernel
theorem dX10_init_163 : decode cX10_init 163 = .ok (.putfield 91, 3) := by decide +kernel
theorem dX10_init_166 : decode cX10_init 166 = .ok (.aload_n 0, 1) := by decide +kernel
theorem dX10_init_167 : decode cX10_init 167 = .ok (.bipush 8, 2) := by decide +kernel
theorem dX10_init_169 : decode cX10_init 169 = .ok (.newarray .int, 2) := by decide +kernel
theorem dX10_init_171 : decode cX10_init 171 = .ok (.putfield 95, 3) := by decide +kernel
theorem dX10_init_174 : decode cX10_init 174 = .ok (.aload_n 0, 1) := by decide +kernel
theorem dX10_init_175 : decode cX10_init 175 = .ok (.bipush 8, 2) := by decide +kernel
theorem dX10_init_177 : decode cX10_init 177 = .ok (.newarray .int, 2) := by decide +kernel
theorem dX10_init_179 : decode cX10_init 179 = .ok (.putfield 98, 3) := by decide +kernel
theorem dX10_init_182 : decode cX10_init 182 = .ok (.aload_n 0, 1) := by decide +kernel
theorem dX10_init_183 : decode cX10_init 183 = .ok (.bipush 84, 2) := by decide +kernel
theorem dX10_init_185 : decode cX10_init 185 = .ok (.newarray .int, 2) := by decide +kernel
theorem dX10_init_187 : decode cX10_init 187 = .ok (.putfield 101, 3) := by decide +kernel
theorem dX10_init_190 : decode cX10_init 190 = .ok (.aload_n 0, 1) := by decide +kernel
theorem dX10_init_191 : decode cX10_init 191 = .ok (.bipush 31, 2) := by decide +kernel
theorem dX10_init_193 : decode cX10_init 193 = .ok (.newarray .int, 2) := by decide +kernel
theorem dX10_init_195 : decode cX10_init 195 = .ok (.putfield 104, 3) := by decide +kernel
theorem dX10_init_198 : decode cX10_init 198 = .ok (.aload_n 0, 1) := by decide +kernel
theorem dX10_init_199 : decode cX10_init 199 = .ok (.getfield 26, 3) := by decide +kernel
theorem dX10_init_202 : decode cX10_init 202 = .ok (.invokevirtual 107, 3) := by decide +kernel
theorem dX10_init_205 : decode cX10_init 205 = .ok (.aload_n 0, 1) := by decide +kernel
theorem dX10_init_206 : decode cX10_init 206 = .ok (.getfield 104, 3) := by decide +kernel
theorem dX10_init_209 : decode cX10_init 209 = .ok (.invokestatic 110, 3) := by decide +kernel
theorem dX10_init_212 : decode cX10_init 212 = .ok (.return_, 1) := by decide +kernel
theorem dX10_sign_0 : decode cX10_sign 0 = .ok (.aload_n 0, 1) := by decide +kernel
theorem dX10_sign_1 : decode cX10_sign 1 = .ok (.getfield 12, 3) := by decide +kernel
theorem dX10_sign_4 : decode cX10_sign 4 = .ok (.invokevirtual 114, 3) := by decide +kernel
theorem dX10_sign_7 : decode cX10_sign 7 = .ok (.iconst 4, 1) := by decide +kernel
theorem dX10_sign_8 : decode cX10_sign 8 = .ok (.iadd, 1) := by decide +kernel
theorem dX10_sign_9 : decode cX10_sign 9 = .ok (.bipush 80, 2) := by decide +kernel
theorem dX10_sign_11 : decode cX10_sign 11 = .ok (.if_icmp .le 5, 3) := by decide +kernel
theorem dX10_sign_14 : decode cX10_sign 14 = .ok (.iconst (-1), 1) := by decide +kernel
theorem dX10_sign_15 : decode cX10_sign 15 = .ok (.ireturn, 1) := by decide +kernel
theorem dX10_sign_16 : decode cX10_sign 16 = .ok (.aload_n 0, 1) := by decide +kernel
theorem dX10_sign_17 : decode cX10_sign 17 = .ok (.getfield 12, 3) := by decide +kernel
theorem dX10_sign_20 : decode cX10_sign 20 = .ok (.iload_n 1, 1) := by decide +kernel
theorem dX10_sign_21 : decode cX10_sign 21 = .ok (.bipush 24, 2) := by decide +kernel
theorem dX10_sign_23 : decode cX10_sign 23 = .ok (.iushr, 1) := by decide +kernel
theorem dX10_sign_24 : decode cX10_sign 24 = .ok (.invokevirtual 118, 3) := by decide +kernel
theorem dX10_sign_27 : decode cX10_sign 27 = .ok (.aload_n 0, 1) := by decide +kernel
theorem dX10_sign_28 : decode cX10_sign 28 = .ok (.getfield 12, 3) := by decide +kernel
theorem dX10_sign_31 : decode cX10_sign 31 = .ok (.iload_n 1, 1) := by decide +kernel
theorem dX10_sign_32 : decode cX10_sign 32 = .ok (.bipush 16, 2) := by decide +kernel
theorem dX10_sign_34 : decode cX10_sign 34 = .ok (.iushr, 1) := by decide +kernel
theorem dX10_sign_35 : decode cX10_sign 35 = .ok (.sipush 255, 3) := by decide +kernel
theorem dX10_sign_38 : decode cX10_sign 38 = .ok (.iand, 1) := by decide +kernel
theorem dX10_sign_39 : decode cX10_sign 39 = .ok (.invokevirtual 118, 3) := by decide +kernel
theorem dX10_sign_42 : decode cX10_sign 42 = .ok (.aload_n 0, 1) := by decide +kernel
theorem dX10_sign_43 : decode cX10_sign 43 = .ok (.getfield 12, 3) := by decide +kernel
theorem dX10_sign_46 : decode cX10_sign 46 = .ok (.iload_n 1, 1) := by decide +kernel
theorem dX10_sign_47 : decode cX10_sign 47 = .ok (.bipush 8, 2) := by decide +kernel
theorem dX10_sign_49 : decode cX10_sign 49 = .ok (.iushr, 1) := by decide +kernel
theorem dX10_sign_50 : decode cX10_sign 50 = .ok (.sipush 255, 3) := by decide +kernel
theorem dX10_sign_53 : decode cX10_sign 53 = .ok (.iand, 1) := by decide +kernel
theorem dX10_sign_54 : decode cX10_sign 54 = .ok (.invokevirtual 118, 3) := by decide +kernel
theorem dX10_sign_57 : decode cX10_sign 57 = .ok (.aload_n 0, 1) := by decide +kernel
theorem dX10_sign_58 : decode cX10_sign 58 = .ok (.getfield 12, 3) := by decide +kernel
theorem dX10_sign_61 : decode cX10_sign 61 = .ok (.iload_n 1, 1) := by decide +kernel
theorem dX10_sign_62 : decode cX10_sign 62 = .ok (.sipush 255, 3) := by decide +kernel
theorem dX10_sign_65 : decode cX10_sign 65 = .ok (.iand, 1) := by decide +kernel
theorem dX10_sign_66 : decode cX10_sign 66 = .ok (.invokevirtual 118, 3) := by decide +kernel
theorem dX10_sign_69 : decode cX10_sign 69 = .ok (.aload_n 0, 1) := by decide +kernel
theorem dX10_sign_70 : decode cX10_sign 70 = .ok (.getfield 12, 3) := by decide +kernel
theorem dX10_sign_73 : decode cX10_sign 73 = .ok (.invokevirtual 114, 3) := by decide +kernel
theorem dX10_sign_76 : decode cX10_sign 76 = .ok (.ireturn, 1) := by decide +kernel
theorem dX10_end_0 : decode cX10_end 0 = .ok (.iload_n 1, 1) := by decide +kernel
theorem dX10_end_1 : decode cX10_end 1 = .ok (.ifCond .lt 14, 3) := by decide +kernel
theorem dX10_end_4 : decode cX10_end 4 = .ok (.iload_n 1, 1) := by decide +kernel
theorem dX10_end_5 : decode cX10_end 5 = .ok (.aload_n 0, 1) := by decide +kernel
theorem dX10_end_6 : decode cX10_end 6 = .ok (.getfield 12, 3) := by decide +kernel
theorem dX10_end_9 : decode cX10_end 9 = .ok (.invokevirtual 114, 3) := by decide +kernel
theorem dX10_end_12 : decode cX10_end 12 = .ok (.if_icmp .le 5, 3) := by decide +kernel
theorem dX10_end_15 : decode cX10_end 15 = .ok (.iconst 0, 1) := by decide +kernel
theorem dX10_end_16 : decode cX10_end 16 = .ok (.ireturn, 1) := by decide +kernel
theorem dX10_end_17 : decode cX10_end 17 = .ok (.aload_n 0, 1) := by decide +kernel
theorem dX10_end_18 : decode cX10_end 18 = .ok (.getfield 12, 3) := by decide +kernel
theorem dX10_end_21 : decode cX10_end 21 = .ok (.iload_n 1, 1) := by decide +kernel
theorem dX10_end_22 : decode cX10_end 22 = .ok (.invokevirtual 122, 3) := by decide +kernel
theorem dX10_end_25 : decode cX10_end 25 = .ok (.iconst 1, 1) := by decide +kernel
theorem dX10_end_26 : decode cX10_end 26 = .ok (.ireturn, 1) := by decide +kernel
theorem dX10_net_0 : decode cX10_net 0 = .ok (.aload_n 0, 1) := by decide +kernel
theorem dX10_net_1 : decode cX10_net 1 = .ok (.getfield 30, 3) := by decide +kernel
theorem dX10_net_4 : decode cX10_net 4 = .ok (.aload_n 0, 1) := by decide +kernel
theorem dX10_net_5 : decode cX10_net 5 = .ok (.getfield 12, 3) := by decide +kernel
theorem dX10_net_8 : decode cX10_net 8 = .ok (.invokevirtual 125, 3) := by decide +kernel
theorem dX10_net_11 : decode cX10_net 11 = .ok (.istore_n 1, 1) := by decide +kernel
theorem dX10_net_12 : decode cX10_net 12 = .ok (.aload_n 0, 1) := by decide +kernel
theorem dX10_net_13 : decode cX10_net 13 = .ok (.getfield 12, 3) := by decide +kernel
theorem dX10_net_16 : decode cX10_net 16 = .ok (.iconst 0, 1) := by decide +kernel
theorem dX10_net_17 : decode cX10_net 17 = .ok (.invokevirtual 122, 3) := by decide +kernel
theorem dX10_net_20 : decode cX10_net 20 = .ok (.iload_n 1, 1) := by decide +kernel
theorem dX10_net_21 : decode cX10_net 21 = .ok (.ifCond .ge 5, 3) := by decide +kernel
theorem dX10_net_24 : decode cX10_net 24 = .ok (.iload_n 1, 1) := by decide +kernel
theorem dX10_net_25 : decode cX10_net 25 = .ok (.ireturn, 1) := by decide +kernel
theorem dX10_net_26 : decode cX10_net 26 = .ok (.aload_n 0, 1) := by decide +kernel
theorem dX10_net_27 : decode cX10_net 27 = .ok (.getfield 26, 3) := by decide +kernel
theorem dX10_net_30 : decode cX10_net 30 = .ok (.aload_n 0, 1) := by decide +kernel
theorem dX10_net_31 : decode cX10_net 31 = .ok (.getfield 30, 3) := by decide +kernel
theorem dX10_net_34 : decode cX10_net 34 = .ok (.invokevirtual 129, 3) := by decide +kernel
theorem dX10_net_37 : decode cX10_net 37 = .ok (.aload_n 0, 1) := by decide +kernel
theorem dX10_net_38 : decode cX10_net 38 = .ok (.getfield 46, 3) := by decide +kernel
theorem dX10_net_41 : decode cX10_net 41 = .ok (.invokevirtual 133, 3) := by decide +kernel
theorem dX10_net_44 : decode cX10_net 44 = .ok (.aload_n 0, 1) := by decide +kernel
theorem dX10_net_45 : decode cX10_net 45 = .ok (.getfield 59, 3) := by decide +kernel
theorem dX10_net_48 : decode cX10_net 48 = .ok (.invokevirtual 136, 3) := by decide +kernel
theorem dX10_net_51 : decode cX10_net 51 = .ok (.aload_n 0, 1) := by decide +kernel
theorem dX10_net_52 : decode cX10_net 52 = .ok (.getfield 80, 3) := by decide +kernel
theorem dX10_net_55 : decode cX10_net 55 = .ok (.invokevirtual 139, 3) := by decide +kernel
theorem dX10_net_58 : decode cX10_net 58 = .ok (.aload_n 0, 1) := by decide +kernel
theorem dX10_net_59 : decode cX10_net 59 = .ok (.getfield 87, 3) := by decide +kernel
theorem dX10_net_62 : decode cX10_net 62 = .ok (.invokevirtual 140, 3) := by decide +kernel
theorem dX10_net_65 : decode cX10_net 65 = .ok (.iload_n 1, 1) := by decide +kernel
theorem dX10_net_66 : decode cX10_net 66 = .ok (.ireturn, 1) := by decide +kernel
theorem dX10_rule_0 : decode cX10_rule 0 = .ok (.aload_n 0, 1) := by decide +kernel
theorem dX10_rule_1 : decode cX10_rule 1 = .ok (.getfield 40, 3) := by decide +kernel
theorem dX10_rule_4 : decode cX10_rule 4 = .ok (.aload_n 0, 1) := by decide +kernel
theorem dX10_rule_5 : decode cX10_rule 5 = .ok (.getfield 12, 3) := by decide +kernel
theorem dX10_rule_8 : decode cX10_rule 8 = .ok (.invokevirtual 141, 3) := by decide +kernel
theorem dX10_rule_11 : decode cX10_rule 11 = .ok (.istore_n 1, 1) := by decide +kernel
theorem dX10_rule_12 : decode cX10_rule 12 = .ok (.aload_n 0, 1) := by decide +kernel
theorem dX10_rule_13 : decode cX10_rule 13 = .ok (.getfield 12, 3) := by decide +kernel
theorem dX10_rule_16 : decode cX10_rule 16 = .ok (.iconst 0, 1) := by decide +kernel
theorem dX10_rule_17 : decode cX10_rule 17 = .ok (.invokevirtual 122, 3) := by decide +kernel
theorem dX10_rule_20 : decode cX10_rule 20 = .ok (.iload_n 1, 1) := by decide +kernel
theorem dX10_rule_21 : decode cX10_rule 21 = .ok (.ifCond .ge 5, 3) := by decide +kernel
theorem dX10_rule_24 : decode cX10_rule 24 = .ok (.iload_n 1, 1) := by decide +kernel
theorem dX10_rule_25 : decode cX10_rule 25 = .ok (.ireturn, 1) := by decide +kernel
theorem dX10_rule_26 : decode cX10_rule 26 = .ok (.aload_n 0, 1) := by decide +kernel
theorem dX10_rule_27 : decode cX10_rule 27 = .ok (.getfield 36, 3) := by decide +kernel
theorem dX10_rule_30 : decode cX10_rule 30 = .ok (.aload_n 0, 1) := by decide +kernel
theorem dX10_rule_31 : decode cX10_rule 31 = .ok (.getfield 40, 3) := by decide +kernel
theorem dX10_rule_34 : decode cX10_rule 34 = .ok (.invokevirtual 142, 3) := by decide +kernel
theorem dX10_rule_37 : decode cX10_rule 37 = .ok (.iconst 0, 1) := by decide +kernel
theorem dX10_rule_38 : decode cX10_rule 38 = .ok (.ireturn, 1) := by decide +kernel
theorem dX10_post_0 : decode cX10_post 0 = .ok (.aload_n 0, 1) := by decide +kernel
theorem dX10_post_1 : decode cX10_post 1 = .ok (.getfield 26, 3) := by decide +kernel
theorem dX10_post_4 : decode cX10_post 4 = .ok (.iload_n 1, 1) := by decide +kernel
theorem dX10_post_5 : decode cX10_post 5 = .ok (.invokevirtual 145, 3) := by decide +kernel
theorem dX10_post_8 : decode cX10_post 8 = .ok (.ifCond .eq 12, 3) := by decide +kernel
theorem dX10_post_11 : decode cX10_post 11 = .ok (.iload_n 2, 1) := by decide +kernel
theorem dX10_post_12 : decode cX10_post 12 = .ok (.ifCond .lt 8, 3) := by decide +kernel
theorem dX10_post_15 : decode cX10_post 15 = .ok (.iload_n 2, 1) := by decide +kernel
theorem dX10_post_16 : decode cX10_post 16 = .ok (.iconst 5, 1) := by decide +kernel
theorem dX10_post_17 : decode cX10_post 17 = .ok (.if_icmp .le 11, 3) := by decide +kernel
theorem dX10_post_20 : decode cX10_post 20 = .ok (.new 149, 3) := by decide +kernel
theorem dX10_post_23 : decode cX10_post 23 = .ok (.dup, 1) := by decide +kernel
theorem dX10_post_24 : decode cX10_post 24 = .ok (.invokespecial 151, 3) := by decide +kernel
theorem dX10_post_27 : decode cX10_post 27 = .ok (.athrow, 1) := by decide +kernel
theorem dX10_post_28 : decode cX10_post 28 = .ok (.iload_n 1, 1) := by decide +kernel
theorem dX10_post_29 : decode cX10_post 29 = .ok (.ifCond .ne 20, 3) := by decide +kernel
theorem dX10_post_32 : decode cX10_post 32 = .ok (.iload_n 2, 1) := by decide +kernel
theorem dX10_post_33 : decode cX10_post 33 = .ok (.iconst 3, 1) := by decide +kernel
theorem dX10_post_34 : decode cX10_post 34 = .ok (.if_icmp .ne 13, 3) := by decide +kernel
theorem dX10_post_37 : decode cX10_post 37 = .ok (.aload_n 0, 1) := by decide +kernel
theorem dX10_post_38 : decode cX10_post 38 = .ok (.getfield 46, 3) := by decide +kernel
theorem dX10_post_41 : decode cX10_post 41 = .ok (.getfield 152, 3) := by decide +kernel
theorem dX10_post_44 : decode cX10_post 44 = .ok (.goto 4, 3) := by decide +kernel
theorem dX10_post_47 : decode cX10_post 47 = .ok (.iconst 0, 1) := by decide +kernel
theorem dX10_post_48 : decode cX10_post 48 = .ok (.ireturn, 1) := by decide +kernel
theorem dX10_post_49 : decode cX10_post 49 = .ok (.iload_n 2, 1) := by decide +kernel
theorem dX10_post_50 : decode cX10_post 50 = .ok (.tableswitch 87 0 4 #[34, 43, 53, 71, 81], 34) := by decide +kernel
theorem dX10_post_84 : decode cX10_post 84 = .ok (.aload_n 0, 1) := by decide +kernel
theorem dX10_post_85 : decode cX10_post 85 = .ok (.getfield 26, 3) := by decide +kernel
theorem dX10_post_88 : decode cX10_post 88 = .ok (.iload_n 1, 1) := by decide +kernel
theorem dX10_post_89 : decode cX10_post 89 = .ok (.invokevirtual 156, 3) := by decide +kernel
theorem dX10_post_92 : decode cX10_post 92 = .ok (.ireturn, 1) := by decide +kernel
theorem dX10_post_93 : decode cX10_post 93 = .ok (.aload_n 0, 1) := by decide +kernel
theorem dX10_post_94 : decode cX10_post 94 = .ok (.getfield 46, 3) := by decide +kernel
theorem dX10_post_97 : decode cX10_post 97 = .ok (.getfield 160, 3) := by decide +kernel
theorem dX10_post_100 : decode cX10_post 100 = .ok (.iload_n 1, 1) := by decide +kernel
theorem dX10_post_101 : decode cX10_post 101 = .ok (.iaload, 1) := by decide +kernel
theorem dX10_post_102 : decode cX10_post 102 = .ok (.ireturn, 1) := by decide +kernel
theorem dX10_post_103 : decode cX10_post 103 = .ok (.aload_n 0, 1) := by decide +kernel
theorem dX10_post_104 : decode cX10_post 104 = .ok (.getfield 26, 3) := by decide +kernel
theorem dX10_post_107 : decode cX10_post 107 = .ok (.iload_n 1, 1) := by decide +kernel
theorem dX10_post_108 : decode cX10_post 108 = .ok (.aload_n 0, 1) := by decide +kernel
theorem dX10_post_109 : decode cX10_post 109 = .ok (.getfield 46, 3) := by decide +kernel
theorem dX10_post_112 : decode cX10_post 112 = .ok (.getfield 160, 3) := by decide +kernel
theorem dX10_post_115 : decode cX10_post 115 = .ok (.iload_n 1, 1) := by decide +kernel
theorem dX10_post_116 : decode cX10_post 116 = .ok (.iaload, 1) := by decide +kernel
theorem dX10_post_117 : decode cX10_post 117 = .ok (.invokevirtual 163, 3) := by decide +kernel
theorem dX10_post_120 : decode cX10_post 120 = .ok (.ireturn, 1) := by decide +kernel
theorem dX10_post_121 : decode cX10_post 121 = .ok (.aload_n 0, 1) := by decide +kernel
theorem dX10_post_122 : decode cX10_post 122 = .ok (.getfield 46, 3) := by decide +kernel
theorem dX10_post_125 : decode cX10_post 125 = .ok (.getfield 167, 3) := by decide +kernel
theorem dX10_post_128 : decode cX10_post 128 = .ok (.iload_n 1, 1) := by decide +kernel
theorem dX10_post_129 : decode cX10_post 129 = .ok (.iaload, 1) := by decide +kernel
theorem dX10_post_130 : decode cX10_post 130 = .ok (.ireturn, 1) := by decide +kernel
theorem dX10_post_131 : decode cX10_post 131 = .ok (.aload_n 0, 1) := by decide +kernel
theorem dX10_post_132 : decode cX10_post 132 = .ok (.iload_n 1, 1) := by decide +kernel
theorem dX10_post_133 : decode cX10_post 133 = .ok (.invokevirtual 170, 3) := by decide +kernel
theorem dX10_post_136 : decode cX10_post 136 = .ok (.ireturn, 1) := by decide +kernel
theorem dX10_post_137 : decode cX10_post 137 = .ok (.aload_n 0, 1) := by decide +kernel
theorem dX10_post_138 : decode cX10_post 138 = .ok (.getfield 26, 3) := by decide +kernel
theorem dX10_post_141 : decode cX10_post 141 = .ok (.iload_n 1, 1) := by decide +kernel
theorem dX10_post_142 : decode cX10_post 142 = .ok (.invokevirtual 173, 3) := by decide +kernel
theorem dX10_post_145 : decode cX10_post 145 = .ok (.ireturn, 1) := by decide +kernel
theorem dX10_turnNow_0 : decode cX10_turnNow 0 = .ok (.aload_n 0, 1) := by decide +kernel
theorem dX10_turnNow_1 : decode cX10_turnNow 1 = .ok (.getfield 26, 3) := by decide +kernel
theorem dX10_turnNow_4 : decode cX10_turnNow 4 = .ok (.iload_n 1, 1) := by decide +kernel
theorem dX10_turnNow_5 : decode cX10_turnNow 5 = .ok (.invokevirtual 176, 3) := by decide +kernel
theorem dX10_turnNow_8 : decode cX10_turnNow 8 = .ok (.ifCond .ne 5, 3) := by decide +kernel
theorem dX10_turnNow_11 : decode cX10_turnNow 11 = .ok (.iconst 0, 1) := by decide +kernel
theorem dX10_turnNow_12 : decode cX10_turnNow 12 = .ok (.ireturn, 1) := by decide +kernel
theorem dX10_turnNow_13 : decode cX10_turnNow 13 = .ok (.aload_n 0, 1) := by decide +kernel
theorem dX10_turnNow_14 : decode cX10_turnNow 14 = .ok (.getfield 36, 3) := by decide +kernel
theorem dX10_turnNow_17 : decode cX10_turnNow 17 = .ok (.aload_n 0, 1) := by decide +kernel
theorem dX10_turnNow_18 : decode cX10_turnNow 18 = .ok (.getfield 46, 3) := by decide +kernel
theorem dX10_turnNow_21 : decode cX10_turnNow 21 = .ok (.iload_n 1, 1) := by decide +kernel
theorem dX10_turnNow_22 : decode cX10_turnNow 22 = .ok (.aload_n 0, 1) := by decide +kernel
theorem dX10_turnNow_23 : decode cX10_turnNow 23 = .ok (.getfield 26, 3) := by decide +kernel
theorem dX10_turnNow_26 : decode cX10_turnNow 26 = .ok (.iload_n 1, 1) := by decide +kernel
theorem dX10_turnNow_27 : decode cX10_turnNow 27 = .ok (.invokevirtual 156, 3) := by decide +kernel
theorem dX10_turnNow_30 : decode cX10_turnNow 30 = .ok (.aload_n 0, 1) := by decide +kernel
theorem dX10_turnNow_31 : decode cX10_turnNow 31 = .ok (.getfield 26, 3) := by decide +kernel
theorem dX10_turnNow_34 : decode cX10_turnNow 34 = .ok (.iload_n 1, 1) := by decide +kernel
theorem dX10_turnNow_35 : decode cX10_turnNow 35 = .ok (.aload_n 0, 1) := by decide +kernel
theorem dX10_turnNow_36 : decode cX10_turnNow 36 = .ok (.getfield 46, 3) := by decide +kernel
theorem dX10_turnNow_39 : decode cX10_turnNow 39 = .ok (.getfield 160, 3) := by decide +kernel
theorem dX10_turnNow_42 : decode cX10_turnNow 42 = .ok (.iload_n 1, 1) := by decide +kernel
theorem dX10_turnNow_43 : decode cX10_turnNow 43 = .ok (.iaload, 1) := by decide +kernel
theorem dX10_turnNow_44 : decode cX10_turnNow 44 = .ok (.invokevirtual 163, 3) := by decide +kernel
theorem dX10_turnNow_47 : decode cX10_turnNow 47 = .ok (.invokevirtual 179, 3) := by decide +kernel
theorem dX10_turnNow_50 : decode cX10_turnNow 50 = .ok (.ireturn, 1) := by decide +kernel
theorem dX10_way_0 : decode cX10_way 0 = .ok (.aload_n 0, 1) := by decide +kernel
theorem dX10_way_1 : decode cX10_way 1 = .ok (.getfield 26, 3) := by decide +kernel
theorem dX10_way_4 : decode cX10_way 4 = .ok (.iload_n 1, 1) := by decide +kernel
theorem dX10_way_5 : decode cX10_way 5 = .ok (.iload_n 2, 1) := by decide +kernel
theorem dX10_way_6 : decode cX10_way 6 = .ok (.invokevirtual 183, 3) := by decide +kernel
theorem dX10_way_9 : decode cX10_way 9 = .ok (.ifCond .ne 11, 3) := by decide +kernel
theorem dX10_way_12 : decode cX10_way 12 = .ok (.new 149, 3) := by decide +kernel
theorem dX10_way_15 : decode cX10_way 15 = .ok (.dup, 1) := by decide +kernel
theorem dX10_way_16 : decode cX10_way 16 = .ok (.invokespecial 151, 3) := by decide +kernel
theorem dX10_way_19 : decode cX10_way 19 = .ok (.athrow, 1) := by decide +kernel
theorem dX10_way_20 : decode cX10_way 20 = .ok (.aload_n 0, 1) := by decide +kernel
theorem dX10_way_21 : decode cX10_way 21 = .ok (.getfield 26, 3) := by decide +kernel
theorem dX10_way_24 : decode cX10_way 24 = .ok (.iload_n 1, 1) := by decide +kernel
theorem dX10_way_25 : decode cX10_way 25 = .ok (.iload_n 2, 1) := by decide +kernel
theorem dX10_way_26 : decode cX10_way 26 = .ok (.invokevirtual 163, 3) := by decide +kernel
theorem dX10_way_29 : decode cX10_way 29 = .ok (.ireturn, 1) := by decide +kernel
theorem dX10_sheet_0 : decode cX10_sheet 0 = .ok (.iload_n 1, 1) := by decide +kernel
theorem dX10_sheet_1 : decode cX10_sheet 1 = .ok (.ifCond .lt 14, 3) := by decide +kernel
theorem dX10_sheet_4 : decode cX10_sheet 4 = .ok (.iload_n 1, 1) := by decide +kernel
theorem dX10_sheet_5 : decode cX10_sheet 5 = .ok (.iconst 3, 1) := by decide +kernel
theorem dX10_sheet_6 : decode cX10_sheet 6 = .ok (.if_icmp .gt 9, 3) := by decide +kernel
theorem dX10_sheet_9 : decode cX10_sheet 9 = .ok (.iload_n 2, 1) := by decide +kernel
theorem dX10_sheet_10 : decode cX10_sheet 10 = .ok (.bipush 8, 2) := by decide +kernel
theorem dX10_sheet_12 : decode cX10_sheet 12 = .ok (.if_icmp .lt 5, 3) := by decide +kernel
theorem dX10_sheet_15 : decode cX10_sheet 15 = .ok (.iconst (-1), 1) := by decide +kernel
theorem dX10_sheet_16 : decode cX10_sheet 16 = .ok (.ireturn, 1) := by decide +kernel
theorem dX10_sheet_17 : decode cX10_sheet 17 = .ok (.iload_n 1, 1) := by decide +kernel
theorem dX10_sheet_18 : decode cX10_sheet 18 = .ok (.iconst 3, 1) := by decide +kernel
theorem dX10_sheet_19 : decode cX10_sheet 19 = .ok (.if_icmp .eq 10, 3) := by decide +kernel
theorem dX10_sheet_22 : decode cX10_sheet 22 = .ok (.iload_n 2, 1) := by decide +kernel
theorem dX10_sheet_23 : decode cX10_sheet 23 = .ok (.ifCond .ge 6, 3) := by decide +kernel
theorem dX10_sheet_26 : decode cX10_sheet 26 = .ok (.bipush (-2), 2) := by decide +kernel
theorem dX10_sheet_28 : decode cX10_sheet 28 = .ok (.ireturn, 1) := by decide +kernel
theorem dX10_sheet_29 : decode cX10_sheet 29 = .ok (.iload_n 1, 1) := by decide +kernel
theorem dX10_sheet_30 : decode cX10_sheet 30 = .ok (.iconst 3, 1) := by decide +kernel
theorem dX10_sheet_31 : decode cX10_sheet 31 = .ok (.if_icmp .ne 7, 3) := by decide +kernel
theorem dX10_sheet_34 : decode cX10_sheet 34 = .ok (.iconst 0, 1) := by decide +kernel
theorem dX10_sheet_35 : decode cX10_sheet 35 = .ok (.goto 4, 3) := by decide +kernel
theorem dX10_sheet_38 : decode cX10_sheet 38 = .ok (.iload_n 2, 1) := by decide +kernel
theorem dX10_sheet_39 : decode cX10_sheet 39 = .ok (.istore 5, 2) := by decide +kernel
theorem dX10_sheet_41 : decode cX10_sheet 41 = .ok (.iconst 1, 1) := by decide +kernel
theorem dX10_sheet_42 : decode cX10_sheet 42 = .ok (.istore 6, 2) := by decide +kernel
theorem dX10_sheet_44 : decode cX10_sheet 44 = .ok (.iload 6, 2) := by decide +kernel
theorem dX10_sheet_46 : decode cX10_sheet 46 = .ok (.bipush 8, 2) := by decide +kernel
theorem dX10_sheet_48 : decode cX10_sheet 48 = .ok (.if_icmp .ge 67, 3) := by decide +kernel
theorem dX10_sheet_51 : decode cX10_sheet 51 = .ok (.iload 6, 2) := by decide +kernel
theorem dX10_sheet_53 : decode cX10_sheet 53 = .ok (.iload 5, 2) := by decide +kernel
theorem dX10_sheet_55 : decode cX10_sheet 55 = .ok (.if_icmp .gt 19, 3) := by decide +kernel
theorem dX10_sheet_58 : decode cX10_sheet 58 = .ok (.aload_n 0, 1) := by decide +kernel
theorem dX10_sheet_59 : decode cX10_sheet 59 = .ok (.getfield 26, 3) := by decide +kernel
theorem dX10_sheet_62 : decode cX10_sheet 62 = .ok (.iload 6, 2) := by decide +kernel
theorem dX10_sheet_64 : decode cX10_sheet 64 = .ok (.invokevirtual 176, 3) := by decide +kernel
theorem dX10_sheet_67 : decode cX10_sheet 67 = .ok (.ifCond .eq 7, 3) := by decide +kernel
theorem dX10_sheet_70 : decode cX10_sheet 70 = .ok (.iconst 1, 1) := by decide +kernel
theorem dX10_sheet_71 : decode cX10_sheet 71 = .ok (.goto 4, 3) := by decide +kernel
theorem dX10_sheet_74 : decode cX10_sheet 74 = .ok (.iconst 0, 1) := by decide +kernel
theorem dX10_sheet_75 : decode cX10_sheet 75 = .ok (.istore 7, 2) := by decide +kernel
theorem dX10_sheet_77 : decode cX10_sheet 77 = .ok (.aload_n 0, 1) := by decide +kernel
theorem dX10_sheet_78 : decode cX10_sheet 78 = .ok (.getfield 46, 3) := by decide +kernel
theorem dX10_sheet_81 : decode cX10_sheet 81 = .ok (.getfield 167, 3) := by decide +kernel
theorem dX10_sheet_84 : decode cX10_sheet 84 = .ok (.iload 6, 2) := by decide +kernel
theorem dX10_sheet_86 : decode cX10_sheet 86 = .ok (.iload 7, 2) := by decide +kernel
theorem dX10_sheet_88 : decode cX10_sheet 88 = .ok (.ifCond .eq 19, 3) := by decide +kernel
theorem dX10_sheet_91 : decode cX10_sheet 91 = .ok (.iload_n 1, 1) := by decide +kernel
theorem dX10_sheet_92 : decode cX10_sheet 92 = .ok (.iload_n 3, 1) := by decide +kernel
theorem dX10_sheet_93 : decode cX10_sheet 93 = .ok (.iload 6, 2) := by decide +kernel
theorem dX10_sheet_95 : decode cX10_sheet 95 = .ok (.iconst 1, 1) := by decide +kernel
theorem dX10_sheet_96 : decode cX10_sheet 96 = .ok (.isub, 1) := by decide +kernel
theorem dX10_sheet_97 : decode cX10_sheet 97 = .ok (.iload 4, 2) := by decide +kernel
theorem dX10_sheet_99 : decode cX10_sheet 99 = .ok (.imul, 1) := by decide +kernel
theorem dX10_sheet_100 : decode cX10_sheet 100 = .ok (.iadd, 1) := by decide +kernel
theorem dX10_sheet_101 : decode cX10_sheet 101 = .ok (.invokestatic 187, 3) := by decide +kernel
theorem dX10_sheet_104 : decode cX10_sheet 104 = .ok (.goto 4, 3) := by decide +kernel
theorem dX10_sheet_107 : decode cX10_sheet 107 = .ok (.iconst 0, 1) := by decide +kernel
theorem dX10_sheet_108 : decode cX10_sheet 108 = .ok (.iastore, 1) := by decide +kernel
theorem dX10_sheet_109 : decode cX10_sheet 109 = .ok (.iinc 6 1, 3) := by decide +kernel
theorem dX10_sheet_112 : decode cX10_sheet 112 = .ok (.goto (-68), 3) := by decide +kernel
theorem dX10_sheet_115 : decode cX10_sheet 115 = .ok (.iload_n 1, 1) := by decide +kernel
theorem dX10_sheet_116 : decode cX10_sheet 116 = .ok (.iconst 3, 1) := by decide +kernel
theorem dX10_sheet_117 : decode cX10_sheet 117 = .ok (.if_icmp .ne 8, 3) := by decide +kernel
theorem dX10_sheet_120 : decode cX10_sheet 120 = .ok (.bipush (-3), 2) := by decide +kernel
theorem dX10_sheet_122 : decode cX10_sheet 122 = .ok (.goto 10, 3) := by decide +kernel
theorem dX10_sheet_125 : decode cX10_sheet 125 = .ok (.aload_n 0, 1) := by decide +kernel
theorem dX10_sheet_126 : decode cX10_sheet 126 = .ok (.getfield 46, 3) := by decide +kernel
theorem dX10_sheet_129 : decode cX10_sheet 129 = .ok (.invokevirtual 190, 3) := by decide +kernel
theorem dX10_sheet_132 : decode cX10_sheet 132 = .ok (.ireturn, 1) := by decide +kernel
theorem dX10_sheetEntry_0 : decode cX10_sheetEntry 0 = .ok (.iload_n 1, 1) := by decide +kernel
theorem dX10_sheetEntry_1 : decode cX10_sheetEntry 1 = .ok (.istore_n 2, 1) := by decide +kernel
theorem dX10_sheetEntry_2 : decode cX10_sheetEntry 2 = .ok (.iload_n 0, 1) := by decide +kernel
theorem dX10_sheetEntry_3 : decode cX10_sheetEntry 3 = .ok (.ifCond .ne 6, 3) := by decide +kernel
theorem dX10_sheetEntry_6 : decode cX10_sheetEntry 6 = .ok (.iload_n 1, 1) := by decide +kernel
theorem dX10_sheetEntry_7 : decode cX10_sheetEntry 7 = .ok (.i2b, 1) := by decide +kernel
theorem dX10_sheetEntry_8 : decode cX10_sheetEntry 8 = .ok (.istore_n 2, 1) := by decide +kernel
theorem dX10_sheetEntry_9 : decode cX10_sheetEntry 9 = .ok (.iload_n 0, 1) := by decide +kernel
theorem dX10_sheetEntry_10 : decode cX10_sheetEntry 10 = .ok (.iconst 1, 1) := by decide +kernel
theorem dX10_sheetEntry_11 : decode cX10_sheetEntry 11 = .ok (.if_icmp .ne 6, 3) := by decide +kernel
theorem dX10_sheetEntry_14 : decode cX10_sheetEntry 14 = .ok (.iload_n 1, 1) := by decide +kernel
theorem dX10_sheetEntry_15 : decode cX10_sheetEntry 15 = .ok (.i2s, 1) := by decide +kernel
theorem dX10_sheetEntry_16 : decode cX10_sheetEntry 16 = .ok (.istore_n 2, 1) := by decide +kernel
theorem dX10_sheetEntry_17 : decode cX10_sheetEntry 17 = .ok (.iconst 0, 1) := by decide +kernel
theorem dX10_sheetEntry_18 : decode cX10_sheetEntry 18 = .ok (.bipush 9, 2) := by decide +kernel
theorem dX10_sheetEntry_20 : decode cX10_sheetEntry 20 = .ok (.iload_n 2, 1) := by decide +kernel
theorem dX10_sheetEntry_21 : decode cX10_sheetEntry 21 = .ok (.invokestatic 193, 3) := by decide +kernel
theorem dX10_sheetEntry_24 : decode cX10_sheetEntry 24 = .ok (.invokestatic 198, 3) := by decide +kernel
theorem dX10_sheetEntry_27 : decode cX10_sheetEntry 27 = .ok (.ireturn, 1) := by decide +kernel
theorem dX10_comes_0 : decode cX10_comes 0 = .ok (.aload_n 0, 1) := by decide +kernel
theorem dX10_comes_1 : decode cX10_comes 1 = .ok (.getfield 53, 3) := by decide +kernel
theorem dX10_comes_4 : decode cX10_comes 4 = .ok (.aload_n 0, 1) := by decide +kernel
theorem dX10_comes_5 : decode cX10_comes 5 = .ok (.getfield 46, 3) := by decide +kernel
theorem dX10_comes_8 : decode cX10_comes 8 = .ok (.invokevirtual 201, 3) := by decide +kernel
theorem dX10_comes_11 : decode cX10_comes 11 = .ok (.aload_n 0, 1) := by decide +kernel
theorem dX10_comes_12 : decode cX10_comes 12 = .ok (.aload_n 0, 1) := by decide +kernel
theorem dX10_comes_13 : decode cX10_comes 13 = .ok (.iload_n 1, 1) := by decide +kernel
theorem dX10_comes_14 : decode cX10_comes 14 = .ok (.iload_n 2, 1) := by decide +kernel
theorem dX10_comes_15 : decode cX10_comes 15 = .ok (.invokevirtual 204, 3) := by decide +kernel
theorem dX10_comes_18 : decode cX10_comes 18 = .ok (.invokevirtual 207, 3) := by decide +kernel
theorem dX10_comes_21 : decode cX10_comes 21 = .ok (.ireturn, 1) := by decide +kernel
theorem dX10_goes_0 : decode cX10_goes 0 = .ok (.aload_n 0, 1) := by decide +kernel
theorem dX10_goes_1 : decode cX10_goes 1 = .ok (.getfield 53, 3) := by decide +kernel
theorem dX10_goes_4 : decode cX10_goes 4 = .ok (.aload_n 0, 1) := by decide +kernel
theorem dX10_goes_5 : decode cX10_goes 5 = .ok (.getfield 46, 3) := by decide +kernel
theorem dX10_goes_8 : decode cX10_goes 8 = .ok (.invokevirtual 201, 3) := by decide +kernel
theorem dX10_goes_11 : decode cX10_goes 11 = .ok (.aload_n 0, 1) := by decide +kernel
theorem dX10_goes_12 : decode cX10_goes 12 = .ok (.aload_n 0, 1) := by decide +kernel
theorem dX10_goes_13 : decode cX10_goes 13 = .ok (.iload_n 1, 1) := by decide +kernel
theorem dX10_goes_14 : decode cX10_goes 14 = .ok (.invokevirtual 210, 3) := by decide +kernel
theorem dX10_goes_17 : decode cX10_goes 17 = .ok (.invokevirtual 207, 3) := by decide +kernel
theorem dX10_goes_20 : decode cX10_goes 20 = .ok (.ireturn, 1) := by decide +kernel
theorem dX10_walks_0 : decode cX10_walks 0 = .ok (.aload_n 0, 1) := by decide +kernel
theorem dX10_walks_1 : decode cX10_walks 1 = .ok (.getfield 53, 3) := by decide +kernel
theorem dX10_walks_4 : decode cX10_walks 4 = .ok (.aload_n 0, 1) := by decide +kernel
theorem dX10_walks_5 : decode cX10_walks 5 = .ok (.getfield 46, 3) := by decide +kernel
theorem dX10_walks_8 : decode cX10_walks 8 = .ok (.invokevirtual 201, 3) := by decide +kernel
theorem dX10_walks_11 : decode cX10_walks 11 = .ok (.aload_n 0, 1) := by decide +kernel
theorem dX10_walks_12 : decode cX10_walks 12 = .ok (.aload_n 0, 1) := by decide +kernel
theorem dX10_walks_13 : decode cX10_walks 13 = .ok (.iload_n 1, 1) := by decide +kernel
theorem dX10_walks_14 : decode cX10_walks 14 = .ok (.invokevirtual 213, 3) := by decide +kernel
theorem dX10_walks_17 : decode cX10_walks 17 = .ok (.invokevirtual 207, 3) := by decide +kernel
theorem dX10_walks_20 : decode cX10_walks 20 = .ok (.ireturn, 1) := by decide +kernel
theorem dX10_bursts_0 : decode cX10_bursts 0 = .ok (.aload_n 0, 1) := by decide +kernel
theorem dX10_bursts_1 : decode cX10_bursts 1 = .ok (.getfield 53, 3) := by decide +kernel
theorem dX10_bursts_4 : decode cX10_bursts 4 = .ok (.aload_n 0, 1) := by decide +kernel
theorem dX10_bursts_5 : decode cX10_bursts 5 = .ok (.getfield 46, 3) := by decide +kernel
theorem dX10_bursts_8 : decode cX10_bursts 8 = .ok (.invokevirtual 201, 3) := by decide +kernel
theorem dX10_bursts_11 : decode cX10_bursts 11 = .ok (.aload_n 0, 1) := by decide +kernel
theorem dX10_bursts_12 : decode cX10_bursts 12 = .ok (.aload_n 0, 1) := by decide +kernel
theorem dX10_bursts_13 : decode cX10_bursts 13 = .ok (.iload_n 1, 1) := by decide +kernel
theorem dX10_bursts_14 : decode cX10_bursts 14 = .ok (.invokevirtual 216, 3) := by decide +kernel
theorem dX10_bursts_17 : decode cX10_bursts 17 = .ok (.invokevirtual 207, 3) := by decide +kernel
theorem dX10_bursts_20 : decode cX10_bursts 20 = .ok (.ireturn, 1) := by decide +kernel
theorem dX10_calms_0 : decode cX10_calms 0 = .ok (.aload_n 0, 1) := by decide +kernel
theorem dX10_calms_1 : decode cX10_calms 1 = .ok (.getfield 53, 3) := by decide +kernel
theorem dX10_calms_4 : decode cX10_calms 4 = .ok (.aload_n 0, 1) := by decide +kernel
theorem dX10_calms_5 : decode cX10_calms 5 = .ok (.getfield 46, 3) := by decide +kernel
theorem dX10_calms_8 : decode cX10_calms 8 = .ok (.invokevirtual 201, 3) := by decide +kernel
theorem dX10_calms_11 : decode cX10_calms 11 = .ok (.aload_n 0, 1) := by decide +kernel
theorem dX10_calms_12 : decode cX10_calms 12 = .ok (.aload_n 0, 1) := by decide +kernel
theorem dX10_calms_13 : decode cX10_calms 13 = .ok (.invokevirtual 219, 3) := by decide +kernel
theorem dX10_calms_16 : decode cX10_calms 16 = .ok (.invokevirtual 207, 3) := by decide +kernel
theorem dX10_calms_19 : decode cX10_calms 19 = .ok (.ireturn, 1) := by decide +kernel
theorem dX10_points_0 : decode cX10_points 0 = .ok (.aload_n 0, 1) := by decide +kernel
theorem dX10_points_1 : decode cX10_points 1 = .ok (.getfield 53, 3) := by decide +kernel
theorem dX10_points_4 : decode cX10_points 4 = .ok (.aload_n 0, 1) := by decide +kernel
theorem dX10_points_5 : decode cX10_points 5 = .ok (.getfield 46, 3) := by decide +kernel
theorem dX10_points_8 : decode cX10_points 8 = .ok (.invokevirtual 201, 3) := by decide +kernel
theorem dX10_points_11 : decode cX10_points 11 = .ok (.aload_n 0, 1) := by decide +kernel
theorem dX10_points_12 : decode cX10_points 12 = .ok (.aload_n 0, 1) := by decide +kernel
theorem dX10_points_13 : decode cX10_points 13 = .ok (.iload_n 1, 1) := by decide +kernel
theorem dX10_points_14 : decode cX10_points 14 = .ok (.iload_n 2, 1) := by decide +kernel
theorem dX10_points_15 : decode cX10_points 15 = .ok (.invokevirtual 222, 3) := by decide +kernel
theorem dX10_points_18 : decode cX10_points 18 = .ok (.invokevirtual 207, 3) := by decide +kernel
theorem dX10_points_21 : decode cX10_points 21 = .ok (.ireturn, 1) := by decide +kernel
theorem dX10_day_0 : decode cX10_day 0 = .ok (.aload_n 0, 1) := by decide +kernel
theorem dX10_day_1 : decode cX10_day 1 = .ok (.invokevirtual 225, 3) := by decide +kernel
theorem dX10_day_4 : decode cX10_day 4 = .ok (.istore_n 1, 1) := by decide +kernel
theorem dX10_day_5 : decode cX10_day 5 = .ok (.iload_n 1, 1) := by decide +kernel
theorem dX10_day_6 : decode cX10_day 6 = .ok (.ifCond .ge 7, 3) := by decide +kernel
theorem dX10_day_9 : decode cX10_day 9 = .ok (.iconst 0, 1) := by decide +kernel
theorem dX10_day_10 : decode cX10_day 10 = .ok (.goto 10, 3) := by decide +kernel
theorem dX10_day_13 : decode cX10_day 13 = .ok (.aload_n 0, 1) := by decide +kernel
theorem dX10_day_14 : decode cX10_day 14 = .ok (.getfield 12, 3) := by decide +kernel
theorem dX10_day_17 : decode cX10_day 17 = .ok (.invokevirtual 114, 3) := by decide +kernel
theorem dX10_day_20 : decode cX10_day 20 = .ok (.istore_n 2, 1) := by decide +kernel
theorem dX10_day_21 : decode cX10_day 21 = .ok (.iconst 0, 1) := by decide +kernel
theorem dX10_day_22 : decode cX10_day 22 = .ok (.istore_n 3, 1) := by decide +kernel
theorem dX10_day_23 : decode cX10_day 23 = .ok (.iconst 0, 1) := by decide +kernel
theorem dX10_day_24 : decode cX10_day 24 = .ok (.istore 4, 2) := by decide +kernel
theorem dX10_day_26 : decode cX10_day 26 = .ok (.aload_n 0, 1) := by decide +kernel
theorem dX10_day_27 : decode cX10_day 27 = .ok (.getfield 53, 3) := by decide +kernel
theorem dX10_day_30 : decode cX10_day 30 = .ok (.aload_n 0, 1) := by decide +kernel
theorem dX10_day_31 : decode cX10_day 31 = .ok (.getfield 46, 3) := by decide +kernel
theorem dX10_day_34 : decode cX10_day 34 = .ok (.invokevirtual 201, 3) := by decide +kernel
theorem dX10_day_37 : decode cX10_day 37 = .ok (.iconst 0, 1) := by decide +kernel
theorem dX10_day_38 : decode cX10_day 38 = .ok (.istore 5, 2) := by decide +kernel
theorem dX10_day_40 : decode cX10_day 40 = .ok (.iload 5, 2) := by decide +kernel
theorem dX10_day_42 : decode cX10_day 42 = .ok (.iload_n 2, 1) := by decide +kernel
theorem dX10_day_43 : decode cX10_day 43 = .ok (.if_icmp .ge 89, 3) := by decide +kernel
theorem dX10_day_46 : decode cX10_day 46 = .ok (.iload 4, 2) := by decide +kernel
theorem dX10_day_48 : decode cX10_day 48 = .ok (.ifCond .ne 84, 3) := by decide +kernel
theorem dX10_day_51 : decode cX10_day 51 = .ok (.aload_n 0, 1) := by decide +kernel
theorem dX10_day_52 : decode cX10_day 52 = .ok (.getfield 12, 3) := by decide +kernel
theorem dX10_day_55 : decode cX10_day 55 = .ok (.iload 5, 2) := by decide +kernel
theorem dX10_day_57 : decode cX10_day 57 = .ok (.invokevirtual 228, 3) := by decide +kernel
theorem dX10_day_60 : decode cX10_day 60 = .ok (.invokestatic 231, 3) := by decide +kernel
theorem dX10_day_63 : decode cX10_day 63 = .ok (.ifCond .ne 6, 3) := by decide +kernel
theorem dX10_day_66 : decode cX10_day 66 = .ok (.goto 60, 3) := by decide +kernel
theorem dX10_day_69 : decode cX10_day 69 = .ok (.aload_n 0, 1) := by decide +kernel
theorem dX10_day_70 : decode cX10_day 70 = .ok (.aload_n 0, 1) := by decide +kernel
theorem dX10_day_71 : decode cX10_day 71 = .ok (.getfield 12, 3) := by decide +kernel
theorem dX10_day_74 : decode cX10_day 74 = .ok (.iload 5, 2) := by decide +kernel
theorem dX10_day_76 : decode cX10_day 76 = .ok (.invokevirtual 228, 3) := by decide +kernel
theorem dX10_day_79 : decode cX10_day 79 = .ok (.aload_n 0, 1) := by decide +kernel
theorem dX10_day_80 : decode cX10_day 80 = .ok (.getfield 12, 3) := by decide +kernel
theorem dX10_day_83 : decode cX10_day 83 = .ok (.iload 5, 2) := by decide +kernel
theorem dX10_day_85 : decode cX10_day 85 = .ok (.iconst 1, 1) := by decide +kernel
theorem dX10_day_86 : decode cX10_day 86 = .ok (.iadd, 1) := by decide +kernel
theorem dX10_day_87 : decode cX10_day 87 = .ok (.invokevirtual 228, 3) := by decide +kernel
theorem dX10_day_90 : decode cX10_day 90 = .ok (.bipush 48, 2) := by decide +kernel
theorem dX10_day_92 : decode cX10_day 92 = .ok (.isub, 1) := by decide +kernel
theorem dX10_day_93 : decode cX10_day 93 = .ok (.aload_n 0, 1) := by decide +kernel
theorem dX10_day_94 : decode cX10_day 94 = .ok (.getfield 12, 3) := by decide +kernel
theorem dX10_day_97 : decode cX10_day 97 = .ok (.iload 5, 2) := by decide +kernel
theorem dX10_day_99 : decode cX10_day 99 = .ok (.iconst 2, 1) := by decide +kernel
theorem dX10_day_100 : decode cX10_day 100 = .ok (.iadd, 1) := by decide +kernel
theorem dX10_day_101 : decode cX10_day 101 = .ok (.invokevirtual 228, 3) := by decide +kernel
theorem dX10_day_104 : decode cX10_day 104 = .ok (.bipush 48, 2) := by decide +kernel
theorem dX10_day_106 : decode cX10_day 106 = .ok (.isub, 1) := by decide +kernel
theorem dX10_day_107 : decode cX10_day 107 = .ok (.invokevirtual 234, 3) := by decide +kernel
theorem dX10_day_110 : decode cX10_day 110 = .ok (.istore 6, 2) := by decide +kernel
theorem dX10_day_112 : decode cX10_day 112 = .ok (.iload 6, 2) := by decide +kernel
theorem dX10_day_114 : decode cX10_day 114 = .ok (.ifCond .ge 9, 3) := by decide +kernel
theorem dX10_day_117 : decode cX10_day 117 = .ok (.iconst 1, 1) := by decide +kernel
theorem dX10_day_118 : decode cX10_day 118 = .ok (.istore 4, 2) := by decide +kernel
theorem dX10_day_120 : decode cX10_day 120 = .ok (.goto 6, 3) := by decide +kernel
theorem dX10_day_123 : decode cX10_day 123 = .ok (.iinc 3 1, 3) := by decide +kernel
theorem dX10_day_126 : decode cX10_day 126 = .ok (.iinc 5 1, 3) := by decide +kernel
theorem dX10_day_129 : decode cX10_day 129 = .ok (.goto (-89), 3) := by decide +kernel
theorem dX10_day_132 : decode cX10_day 132 = .ok (.aload_n 0, 1) := by decide +kernel
theorem dX10_day_133 : decode cX10_day 133 = .ok (.getfield 12, 3) := by decide +kernel
theorem dX10_day_136 : decode cX10_day 136 = .ok (.iconst 0, 1) := by decide +kernel
theorem dX10_day_137 : decode cX10_day 137 = .ok (.invokevirtual 122, 3) := by decide +kernel
theorem dX10_day_140 : decode cX10_day 140 = .ok (.iload_n 1, 1) := by decide +kernel
theorem dX10_day_141 : decode cX10_day 141 = .ok (.ifCond .ge 5, 3) := by decide +kernel
theorem dX10_day_144 : decode cX10_day 144 = .ok (.iload_n 1, 1) := by decide +kernel
theorem dX10_day_145 : decode cX10_day 145 = .ok (.ireturn, 1) := by decide +kernel
theorem dX10_day_146 : decode cX10_day 146 = .ok (.iload_n 3, 1) := by decide +kernel
theorem dX10_day_147 : decode cX10_day 147 = .ok (.ifCond .le 14, 3) := by decide +kernel
theorem dX10_day_150 : decode cX10_day 150 = .ok (.aload_n 0, 1) := by decide +kernel
theorem dX10_day_151 : decode cX10_day 151 = .ok (.getfield 59, 3) := by decide +kernel
theorem dX10_day_154 : decode cX10_day 154 = .ok (.aload_n 0, 1) := by decide +kernel
theorem dX10_day_155 : decode cX10_day 155 = .ok (.getfield 53, 3) := by decide +kernel
theorem dX10_day_158 : decode cX10_day 158 = .ok (.invokevirtual 238, 3) := by decide +kernel
theorem dX10_day_161 : decode cX10_day 161 = .ok (.aload_n 0, 1) := by decide +kernel
theorem dX10_day_162 : decode cX10_day 162 = .ok (.getfield 19, 3) := by decide +kernel
theorem dX10_day_165 : decode cX10_day 165 = .ok (.iload 4, 2) := by decide +kernel
theorem dX10_day_167 : decode cX10_day 167 = .ok (.i2l, 1) := by decide +kernel
theorem dX10_day_168 : decode cX10_day 168 = .ok (.aload_n 0, 1) := by decide +kernel
theorem dX10_day_169 : decode cX10_day 169 = .ok (.getfield 46, 3) := by decide +kernel
theorem dX10_day_172 : decode cX10_day 172 = .ok (.getfield 152, 3) := by decide +kernel
theorem dX10_day_175 : decode cX10_day 175 = .ok (.i2l, 1) := by decide +kernel
theorem dX10_day_176 : decode cX10_day 176 = .ok (.invokevirtual 241, 3) := by decide +kernel
theorem dX10_day_179 : decode cX10_day 179 = .ok (.iload_n 3, 1) := by decide +kernel
theorem dX10_day_180 : decode cX10_day 180 = .ok (.ireturn, 1) := by decide +kernel
theorem dX10_undo_0 : decode cX10_undo 0 = .ok (.aload_n 0, 1) := by decide +kernel
theorem dX10_undo_1 : decode cX10_undo 1 = .ok (.getfield 59, 3) := by decide +kernel
theorem dX10_undo_4 : decode cX10_undo 4 = .ok (.aload_n 0, 1) := by decide +kernel
theorem dX10_undo_5 : decode cX10_undo 5 = .ok (.getfield 46, 3) := by decide +kernel
theorem dX10_undo_8 : decode cX10_undo 8 = .ok (.invokevirtual 245, 3) := by decide +kernel
theorem dX10_undo_11 : decode cX10_undo 11 = .ok (.ifCond .ne 5, 3) := by decide +kernel
theorem dX10_undo_14 : decode cX10_undo 14 = .ok (.iconst (-1), 1) := by decide +kernel
theorem dX10_undo_15 : decode cX10_undo 15 = .ok (.ireturn, 1) := by decide +kernel
theorem dX10_undo_16 : decode cX10_undo 16 = .ok (.aload_n 0, 1) := by decide +kernel
theorem dX10_undo_17 : decode cX10_undo 17 = .ok (.getfield 59, 3) := by decide +kernel
theorem dX10_undo_20 : decode cX10_undo 20 = .ok (.invokevirtual 249, 3) := by decide +kernel
theorem dX10_undo_23 : decode cX10_undo 23 = .ok (.ireturn, 1) := by decide +kernel
theorem dX10_kept_0 : decode cX10_kept 0 = .ok (.iload_n 1, 1) := by decide +kernel
theorem dX10_kept_1 : decode cX10_kept 1 = .ok (.ifCond .lt 14, 3) := by decide +kernel
theorem dX10_kept_4 : decode cX10_kept 4 = .ok (.aload_n 0, 1) := by decide +kernel
theorem dX10_kept_5 : decode cX10_kept 5 = .ok (.getfield 59, 3) := by decide +kernel
theorem dX10_kept_8 : decode cX10_kept 8 = .ok (.aload_n 0, 1) := by decide +kernel
theorem dX10_kept_9 : decode cX10_kept 9 = .ok (.getfield 53, 3) := by decide +kernel
theorem dX10_kept_12 : decode cX10_kept 12 = .ok (.invokevirtual 238, 3) := by decide +kernel
theorem dX10_kept_15 : decode cX10_kept 15 = .ok (.iload_n 1, 1) := by decide +kernel
theorem dX10_kept_16 : decode cX10_kept 16 = .ok (.ireturn, 1) := by decide +kernel
theorem dX10_act_0 : decode cX10_act 0 = .ok (.iload_n 1, 1) := by decide +kernel
theorem dX10_act_1 : decode cX10_act 1 = .ok (.lookupswitch 83 #[(98, 70), (99, 51), (103, 58), (112, 76), (119, 64)], 51) := by decide +kernel
theorem dX10_act_52 : decode cX10_act 52 = .ok (.aload_n 0, 1) := by decide +kernel
theorem dX10_act_53 : decode cX10_act 53 = .ok (.iload_n 2, 1) := by decide +kernel
theorem dX10_act_54 : decode cX10_act 54 = .ok (.iload_n 3, 1) := by decide +kernel
theorem dX10_act_55 : decode cX10_act 55 = .ok (.invokevirtual 204, 3) := by decide +kernel
theorem dX10_act_58 : decode cX10_act 58 = .ok (.ireturn, 1) := by decide +kernel
theorem dX10_act_59 : decode cX10_act 59 = .ok (.aload_n 0, 1) := by decide +kernel
theorem dX10_act_60 : decode cX10_act 60 = .ok (.iload_n 2, 1) := by decide +kernel
theorem dX10_act_61 : decode cX10_act 61 = .ok (.invokevirtual 210, 3) := by decide +kernel
theorem dX10_act_64 : decode cX10_act 64 = .ok (.ireturn, 1) := by decide +kernel
theorem dX10_act_65 : decode cX10_act 65 = .ok (.aload_n 0, 1) := by decide +kernel
theorem dX10_act_66 : decode cX10_act 66 = .ok (.iload_n 2, 1) := by decide +kernel
theorem dX10_act_67 : decode cX10_act 67 = .ok (.invokevirtual 213, 3) := by decide +kernel
theorem dX10_act_70 : decode cX10_act 70 = .ok (.ireturn, 1) := by decide +kernel
theorem dX10_act_71 : decode cX10_act 71 = .ok (.aload_n 0, 1) := by decide +kernel
theorem dX10_act_72 : decode cX10_act 72 = .ok (.iload_n 2, 1) := by decide +kernel
theorem dX10_act_73 : decode cX10_act 73 = .ok (.invokevirtual 216, 3) := by decide +kernel
theorem dX10_act_76 : decode cX10_act 76 = .ok (.ireturn, 1) := by decide +kernel
theorem dX10_act_77 : decode cX10_act 77 = .ok (.aload_n 0, 1) := by decide +kernel
theorem dX10_act_78 : decode cX10_act 78 = .ok (.iload_n 2, 1) := by decide +kernel
theorem dX10_act_79 : decode cX10_act 79 = .ok (.iload_n 3, 1) := by decide +kernel
theorem dX10_act_80 : decode cX10_act 80 = .ok (.invokevirtual 222, 3) := by decide +kernel
theorem dX10_act_83 : decode cX10_act 83 = .ok (.ireturn, 1) := by decide +kernel
theorem dX10_act_84 : decode cX10_act 84 = .ok (.aload_n 0, 1) := by decide +kernel
theorem dX10_act_85 : decode cX10_act 85 = .ok (.invokevirtual 219, 3) := by decide +kernel
theorem dX10_act_88 : decode cX10_act 88 = .ok (.ireturn, 1) := by decide +kernel
theorem dX10_actComes_0 : decode cX10_actComes 0 = .ok (.aload_n 0, 1) := by decide +kernel
theorem dX10_actComes_1 : decode cX10_actComes 1 = .ok (.getfield 26, 3) := by decide +kernel
theorem dX10_actComes_4 : decode cX10_actComes 4 = .ok (.iload_n 1, 1) := by decide +kernel
theorem dX10_actComes_5 : decode cX10_actComes 5 = .ok (.invokevirtual 176, 3) := by decide +kernel
theorem dX10_actComes_8 : decode cX10_actComes 8 = .ok (.ifCond .eq 14, 3) := by decide +kernel
theorem dX10_actComes_11 : decode cX10_actComes 11 = .ok (.iload_n 2, 1) := by decide +kernel
theorem dX10_actComes_12 : decode cX10_actComes 12 = .ok (.iconst 1, 1) := by decide +kernel
theorem dX10_actComes_13 : decode cX10_actComes 13 = .ok (.if_icmp .lt 9, 3) := by decide +kernel
theorem dX10_actComes_16 : decode cX10_actComes 16 = .ok (.iload_n 2, 1) := by decide +kernel
theorem dX10_actComes_17 : decode cX10_actComes 17 = .ok (.bipush 99, 2) := by decide +kernel
theorem dX10_actComes_19 : decode cX10_actComes 19 = .ok (.if_icmp .le 5, 3) := by decide +kernel
theorem dX10_actComes_22 : decode cX10_actComes 22 = .ok (.iconst (-1), 1) := by decide +kernel
theorem dX10_actComes_23 : decode cX10_actComes 23 = .ok (.ireturn, 1) := by decide +kernel
theorem dX10_actComes_24 : decode cX10_actComes 24 = .ok (.aload_n 0, 1) := by decide +kernel
theorem dX10_actComes_25 : decode cX10_actComes 25 = .ok (.getfield 46, 3) := by decide +kernel
theorem dX10_actComes_28 : decode cX10_actComes 28 = .ok (.getfield 167, 3) := by decide +kernel
theorem dX10_actComes_31 : decode cX10_actComes 31 = .ok (.iload_n 1, 1) := by decide +kernel
theorem dX10_actComes_32 : decode cX10_actComes 32 = .ok (.iaload, 1) := by decide +kernel
theorem dX10_actComes_33 : decode cX10_actComes 33 = .ok (.iload_n 2, 1) := by decide +kernel
theorem dX10_actComes_34 : decode cX10_actComes 34 = .ok (.iadd, 1) := by decide +kernel
theorem dX10_actComes_35 : decode cX10_actComes 35 = .ok (.bipush 99, 2) := by decide +kernel
theorem dX10_actComes_37 : decode cX10_actComes 37 = .ok (.if_icmp .le 6, 3) := by decide +kernel
theorem dX10_actComes_40 : decode cX10_actComes 40 = .ok (.bipush (-2), 2) := by decide +kernel
theorem dX10_actComes_42 : decode cX10_actComes 42 = .ok (.ireturn, 1) := by decide +kernel
theorem dX10_actComes_43 : decode cX10_actComes 43 = .ok (.aload_n 0, 1) := by decide +kernel
theorem dX10_actComes_44 : decode cX10_actComes 44 = .ok (.getfield 46, 3) := by decide +kernel
theorem dX10_actComes_47 : decode cX10_actComes 47 = .ok (.getfield 167, 3) := by decide +kernel
theorem dX10_actComes_50 : decode cX10_actComes 50 = .ok (.iload_n 1, 1) := by decide +kernel
theorem dX10_actComes_51 : decode cX10_actComes 51 = .ok (.dup2, 1) := by decide +kernel
theorem dX10_actComes_52 : decode cX10_actComes 52 = .ok (.iaload, 1) := by decide +kernel
theorem dX10_actComes_53 : decode cX10_actComes 53 = .ok (.iload_n 2, 1) := by decide +kernel
theorem dX10_actComes_54 : decode cX10_actComes 54 = .ok (.iadd, 1) := by decide +kernel
theorem dX10_actComes_55 : decode cX10_actComes 55 = .ok (.iastore, 1) := by decide +kernel
theorem dX10_actComes_56 : decode cX10_actComes 56 = .ok (.aload_n 0, 1) := by decide +kernel
theorem dX10_actComes_57 : decode cX10_actComes 57 = .ok (.getfield 46, 3) := by decide +kernel
theorem dX10_actComes_60 : decode cX10_actComes 60 = .ok (.getfield 167, 3) := by decide +kernel
theorem dX10_actComes_63 : decode cX10_actComes 63 = .ok (.iload_n 1, 1) := by decide +kernel
theorem dX10_actComes_64 : decode cX10_actComes 64 = .ok (.iaload, 1) := by decide +kernel
theorem dX10_actComes_65 : decode cX10_actComes 65 = .ok (.ireturn, 1) := by decide +kernel
theorem dX10_actGoes_0 : decode cX10_actGoes 0 = .ok (.aload_n 0, 1) := by decide +kernel
theorem dX10_actGoes_1 : decode cX10_actGoes 1 = .ok (.getfield 26, 3) := by decide +kernel
theorem dX10_actGoes_4 : decode cX10_actGoes 4 = .ok (.iload_n 1, 1) := by decide +kernel
theorem dX10_actGoes_5 : decode cX10_actGoes 5 = .ok (.invokevirtual 176, 3) := by decide +kernel
theorem dX10_actGoes_8 : decode cX10_actGoes 8 = .ok (.ifCond .ne 5, 3) := by decide +kernel
theorem dX10_actGoes_11 : decode cX10_actGoes 11 = .ok (.iconst (-1), 1) := by decide +kernel
theorem dX10_actGoes_12 : decode cX10_actGoes 12 = .ok (.ireturn, 1) := by decide +kernel
theorem dX10_actGoes_13 : decode cX10_actGoes 13 = .ok (.aload_n 0, 1) := by decide +kernel
theorem dX10_actGoes_14 : decode cX10_actGoes 14 = .ok (.getfield 46, 3) := by decide +kernel
theorem dX10_actGoes_17 : decode cX10_actGoes 17 = .ok (.getfield 167, 3) := by decide +kernel
theorem dX10_actGoes_20 : decode cX10_actGoes 20 = .ok (.iload_n 1, 1) := by decide +kernel
theorem dX10_actGoes_21 : decode cX10_actGoes 21 = .ok (.iaload, 1) := by decide +kernel
theorem dX10_actGoes_22 : decode cX10_actGoes 22 = .ok (.iconst 1, 1) := by decide +kernel
theorem dX10_actGoes_23 : decode cX10_actGoes 23 = .ok (.if_icmp .ge 6, 3) := by decide +kernel
theorem dX10_actGoes_26 : decode cX10_actGoes 26 = .ok (.bipush (-2), 2) := by decide +kernel
theorem dX10_actGoes_28 : decode cX10_actGoes 28 = .ok (.ireturn, 1) := by decide +kernel
theorem dX10_actGoes_29 : decode cX10_actGoes 29 = .ok (.aload_n 0, 1) := by decide +kernel
theorem dX10_actGoes_30 : decode cX10_actGoes 30 = .ok (.aload_n 0, 1) := by decide +kernel
theorem dX10_actGoes_31 : decode cX10_actGoes 31 = .ok (.getfield 46, 3) := by decide +kernel
theorem dX10_actGoes_34 : decode cX10_actGoes 34 = .ok (.iload_n 1, 1) := by decide +kernel
theorem dX10_actGoes_35 : decode cX10_actGoes 35 = .ok (.invokevirtual 250, 3) := by decide +kernel
theorem dX10_actGoes_38 : decode cX10_actGoes 38 = .ok (.istore_n 2, 1) := by decide +kernel
theorem dX10_actGoes_39 : decode cX10_actGoes 39 = .ok (.aload_n 0, 1) := by decide +kernel
theorem dX10_actGoes_40 : decode cX10_actGoes 40 = .ok (.getfield 19, 3) := by decide +kernel
theorem dX10_actGoes_43 : decode cX10_actGoes 43 = .ok (.aload_n 0, 1) := by decide +kernel
theorem dX10_actGoes_44 : decode cX10_actGoes 44 = .ok (.getfield 46, 3) := by decide +kernel
theorem dX10_actGoes_47 : decode cX10_actGoes 47 = .ok (.getfield 160, 3) := by decide +kernel
theorem dX10_actGoes_50 : decode cX10_actGoes 50 = .ok (.iload_n 1, 1) := by decide +kernel
theorem dX10_actGoes_51 : decode cX10_actGoes 51 = .ok (.iaload, 1) := by decide +kernel
theorem dX10_actGoes_52 : decode cX10_actGoes 52 = .ok (.i2l, 1) := by decide +kernel
theorem dX10_actGoes_53 : decode cX10_actGoes 53 = .ok (.aload_n 0, 1) := by decide +kernel
theorem dX10_actGoes_54 : decode cX10_actGoes 54 = .ok (.getfield 46, 3) := by decide +kernel
theorem dX10_actGoes_57 : decode cX10_actGoes 57 = .ok (.getfield 167, 3) := by decide +kernel
theorem dX10_actGoes_60 : decode cX10_actGoes 60 = .ok (.iload_n 1, 1) := by decide +kernel
theorem dX10_actGoes_61 : decode cX10_actGoes 61 = .ok (.iaload, 1) := by decide +kernel
theorem dX10_actGoes_62 : decode cX10_actGoes 62 = .ok (.i2l, 1) := by decide +kernel
theorem dX10_actGoes_63 : decode cX10_actGoes 63 = .ok (.invokevirtual 241, 3) := by decide +kernel
theorem dX10_actGoes_66 : decode cX10_actGoes 66 = .ok (.iload_n 2, 1) := by decide +kernel
theorem dX10_actGoes_67 : decode cX10_actGoes 67 = .ok (.ireturn, 1) := by decide +kernel
theorem dX10_actWalks_0 : decode cX10_actWalks 0 = .ok (.aload_n 0, 1) := by decide +kernel
theorem dX10_actWalks_1 : decode cX10_actWalks 1 = .ok (.getfield 26, 3) := by decide +kernel
theorem dX10_actWalks_4 : decode cX10_actWalks 4 = .ok (.iload_n 1, 1) := by decide +kernel
theorem dX10_actWalks_5 : decode cX10_actWalks 5 = .ok (.invokevirtual 176, 3) := by decide +kernel
theorem dX10_actWalks_8 : decode cX10_actWalks 8 = .ok (.ifCond .ne 5, 3) := by decide +kernel
theorem dX10_actWalks_11 : decode cX10_actWalks 11 = .ok (.iconst (-1), 1) := by decide +kernel
theorem dX10_actWalks_12 : decode cX10_actWalks 12 = .ok (.ireturn, 1) := by decide +kernel
theorem dX10_actWalks_13 : decode cX10_actWalks 13 = .ok (.aload_n 0, 1) := by decide +kernel
theorem dX10_actWalks_14 : decode cX10_actWalks 14 = .ok (.getfield 46, 3) := by decide +kernel
theorem dX10_actWalks_17 : decode cX10_actWalks 17 = .ok (.getfield 167, 3) := by decide +kernel
theorem dX10_actWalks_20 : decode cX10_actWalks 20 = .ok (.iload_n 1, 1) := by decide +kernel
theorem dX10_actWalks_21 : decode cX10_actWalks 21 = .ok (.iaload, 1) := by decide +kernel
theorem dX10_actWalks_22 : decode cX10_actWalks 22 = .ok (.iconst 1, 1) := by decide +kernel
theorem dX10_actWalks_23 : decode cX10_actWalks 23 = .ok (.if_icmp .ge 6, 3) := by decide +kernel
theorem dX10_actWalks_26 : decode cX10_actWalks 26 = .ok (.bipush (-2), 2) := by decide +kernel
theorem dX10_actWalks_28 : decode cX10_actWalks 28 = .ok (.ireturn, 1) := by decide +kernel
theorem dX10_actWalks_29 : decode cX10_actWalks 29 = .ok (.aload_n 0, 1) := by decide +kernel
theorem dX10_actWalks_30 : decode cX10_actWalks 30 = .ok (.getfield 50, 3) := by decide +kernel
theorem dX10_actWalks_33 : decode cX10_actWalks 33 = .ok (.aload_n 0, 1) := by decide +kernel
theorem dX10_actWalks_34 : decode cX10_actWalks 34 = .ok (.getfield 46, 3) := by decide +kernel
theorem dX10_actWalks_37 : decode cX10_actWalks 37 = .ok (.invokevirtual 201, 3) := by decide +kernel
theorem dX10_actWalks_40 : decode cX10_actWalks 40 = .ok (.aload_n 0, 1) := by decide +kernel
theorem dX10_actWalks_41 : decode cX10_actWalks 41 = .ok (.getfield 50, 3) := by decide +kernel
theorem dX10_actWalks_44 : decode cX10_actWalks 44 = .ok (.getfield 167, 3) := by decide +kernel
theorem dX10_actWalks_47 : decode cX10_actWalks 47 = .ok (.iload_n 1, 1) := by decide +kernel
theorem dX10_actWalks_48 : decode cX10_actWalks 48 = .ok (.dup2, 1) := by decide +kernel
theorem dX10_actWalks_49 : decode cX10_actWalks 49 = .ok (.iaload, 1) := by decide +kernel
theorem dX10_actWalks_50 : decode cX10_actWalks 50 = .ok (.iconst 1, 1) := by decide +kernel
theorem dX10_actWalks_51 : decode cX10_actWalks 51 = .ok (.isub, 1) := by decide +kernel
theorem dX10_actWalks_52 : decode cX10_actWalks 52 = .ok (.iastore, 1) := by decide +kernel
theorem dX10_actWalks_53 : decode cX10_actWalks 53 = .ok (.aload_n 0, 1) := by decide +kernel
theorem dX10_actWalks_54 : decode cX10_actWalks 54 = .ok (.aload_n 0, 1) := by decide +kernel
theorem dX10_actWalks_55 : decode cX10_actWalks 55 = .ok (.getfield 50, 3) := by decide +kernel
theorem dX10_actWalks_58 : decode cX10_actWalks 58 = .ok (.aload_n 0, 1) := by decide +kernel
theorem dX10_actWalks_59 : decode cX10_actWalks 59 = .ok (.getfield 36, 3) := by decide +kernel
theorem dX10_actWalks_62 : decode cX10_actWalks 62 = .ok (.iload_n 1, 1) := by decide +kernel
theorem dX10_actWalks_63 : decode cX10_actWalks 63 = .ok (.invokevirtual 254, 3) := by decide +kernel
theorem dX10_actWalks_66 : decode cX10_actWalks 66 = .ok (.istore_n 2, 1) := by decide +kernel
theorem dX10_actWalks_67 : decode cX10_actWalks 67 = .ok (.iload_n 2, 1) := by decide +kernel
theorem dX10_actWalks_68 : decode cX10_actWalks 68 = .ok (.ifCond .ge 5, 3) := by decide +kernel
theorem dX10_actWalks_71 : decode cX10_actWalks 71 = .ok (.iload_n 2, 1) := by decide +kernel
theorem dX10_actWalks_72 : decode cX10_actWalks 72 = .ok (.ireturn, 1) := by decide +kernel
theorem dX10_actWalks_73 : decode cX10_actWalks 73 = .ok (.aload_n 0, 1) := by decide +kernel
theorem dX10_actWalks_74 : decode cX10_actWalks 74 = .ok (.getfield 46, 3) := by decide +kernel
theorem dX10_actWalks_77 : decode cX10_actWalks 77 = .ok (.aload_n 0, 1) := by decide +kernel
theorem dX10_actWalks_78 : decode cX10_actWalks 78 = .ok (.getfield 50, 3) := by decide +kernel
theorem dX10_actWalks_81 : decode cX10_actWalks 81 = .ok (.invokevirtual 201, 3) := by decide +kernel
theorem dX10_actWalks_84 : decode cX10_actWalks 84 = .ok (.iconst 1, 1) := by decide +kernel
theorem dX10_actWalks_85 : decode cX10_actWalks 85 = .ok (.istore_n 3, 1) := by decide +kernel
theorem dX10_actWalks_86 : decode cX10_actWalks 86 = .ok (.iconst 1, 1) := by decide +kernel
theorem dX10_actWalks_87 : decode cX10_actWalks 87 = .ok (.istore 4, 2) := by decide +kernel
theorem dX10_actWalks_89 : decode cX10_actWalks 89 = .ok (.iload 4, 2) := by decide +kernel
theorem dX10_actWalks_91 : decode cX10_actWalks 91 = .ok (.bipush 8, 2) := by decide +kernel
theorem dX10_actWalks_93 : decode cX10_actWalks 93 = .ok (.if_icmp .ge 26, 3) := by decide +kernel
theorem dX10_actWalks_96 : decode cX10_actWalks 96 = .ok (.aload_n 0, 1) := by decide +kernel
theorem dX10_actWalks_97 : decode cX10_actWalks 97 = .ok (.getfield 91, 3) := by decide +kernel
theorem dX10_actWalks_100 : decode cX10_actWalks 100 = .ok (.iload 4, 2) := by decide +kernel
theorem dX10_actWalks_102 : decode cX10_actWalks 102 = .ok (.iaload, 1) := by decide +kernel
theorem dX10_actWalks_103 : decode cX10_actWalks 103 = .ok (.ifCond .le 10, 3) := by decide +kernel
theorem dX10_actWalks_106 : decode cX10_actWalks 106 = .ok (.iload_n 3, 1) := by decide +kernel
theorem dX10_actWalks_107 : decode cX10_actWalks 107 = .ok (.iconst 1, 1) := by decide +kernel
theorem dX10_actWalks_108 : decode cX10_actWalks 108 = .ok (.iload 4, 2) := by decide +kernel
theorem dX10_actWalks_110 : decode cX10_actWalks 110 = .ok (.ishl, 1) := by decide +kernel
theorem dX10_actWalks_111 : decode cX10_actWalks 111 = .ok (.ior, 1) := by decide +kernel
theorem dX10_actWalks_112 : decode cX10_actWalks 112 = .ok (.istore_n 3, 1) := by decide +kernel
theorem dX10_actWalks_113 : decode cX10_actWalks 113 = .ok (.iinc 4 1, 3) := by decide +kernel
theorem dX10_actWalks_116 : decode cX10_actWalks 116 = .ok (.goto (-27), 3) := by decide +kernel
theorem dX10_actWalks_119 : decode cX10_actWalks 119 = .ok (.aload_n 0, 1) := by decide +kernel
theorem dX10_actWalks_120 : decode cX10_actWalks 120 = .ok (.getfield 19, 3) := by decide +kernel
theorem dX10_actWalks_123 : decode cX10_actWalks 123 = .ok (.iload_n 3, 1) := by decide +kernel
theorem dX10_actWalks_124 : decode cX10_actWalks 124 = .ok (.i2l, 1) := by decide +kernel
theorem dX10_actWalks_125 : decode cX10_actWalks 125 = .ok (.invokevirtual 258, 3) := by decide +kernel
theorem dX10_actWalks_128 : decode cX10_actWalks 128 = .ok (.iload_n 2, 1) := by decide +kernel
theorem dX10_actWalks_129 : decode cX10_actWalks 129 = .ok (.ireturn, 1) := by decide +kernel
theorem dX10_actBursts_0 : decode cX10_actBursts 0 = .ok (.aload_n 0, 1) := by decide +kernel
theorem dX10_actBursts_1 : decode cX10_actBursts 1 = .ok (.getfield 26, 3) := by decide +kernel
theorem dX10_actBursts_4 : decode cX10_actBursts 4 = .ok (.iload_n 1, 1) := by decide +kernel
theorem dX10_actBursts_5 : decode cX10_actBursts 5 = .ok (.invokevirtual 176, 3) := by decide +kernel
theorem dX10_actBursts_8 : decode cX10_actBursts 8 = .ok (.ifCond .ne 5, 3) := by decide +kernel
theorem dX10_actBursts_11 : decode cX10_actBursts 11 = .ok (.iconst (-1), 1) := by decide +kernel
theorem dX10_actBursts_12 : decode cX10_actBursts 12 = .ok (.ireturn, 1) := by decide +kernel
theorem dX10_actBursts_13 : decode cX10_actBursts 13 = .ok (.aload_n 0, 1) := by decide +kernel
theorem dX10_actBursts_14 : decode cX10_actBursts 14 = .ok (.aload_n 0, 1) := by decide +kernel
theorem dX10_actBursts_15 : decode cX10_actBursts 15 = .ok (.getfield 46, 3) := by decide +kernel
theorem dX10_actBursts_18 : decode cX10_actBursts 18 = .ok (.iload_n 1, 1) := by decide +kernel
theorem dX10_actBursts_19 : decode cX10_actBursts 19 = .ok (.invokevirtual 261, 3) := by decide +kernel
theorem dX10_actBursts_22 : decode cX10_actBursts 22 = .ok (.ifCond .ne 6, 3) := by decide +kernel
theorem dX10_actBursts_25 : decode cX10_actBursts 25 = .ok (.bipush (-2), 2) := by decide +kernel
theorem dX10_actBursts_27 : decode cX10_actBursts 27 = .ok (.ireturn, 1) := by decide +kernel
theorem dX10_actBursts_28 : decode cX10_actBursts 28 = .ok (.aload_n 0, 1) := by decide +kernel
theorem dX10_actBursts_29 : decode cX10_actBursts 29 = .ok (.aload_n 0, 1) := by decide +kernel
theorem dX10_actBursts_30 : decode cX10_actBursts 30 = .ok (.getfield 46, 3) := by decide +kernel
theorem dX10_actBursts_33 : decode cX10_actBursts 33 = .ok (.iload_n 1, 1) := by decide +kernel
theorem dX10_actBursts_34 : decode cX10_actBursts 34 = .ok (.invokevirtual 265, 3) := by decide +kernel
theorem dX10_actBursts_37 : decode cX10_actBursts 37 = .ok (.pop, 1) := by decide +kernel
theorem dX10_actBursts_38 : decode cX10_actBursts 38 = .ok (.aload_n 0, 1) := by decide +kernel
theorem dX10_actBursts_39 : decode cX10_actBursts 39 = .ok (.getfield 46, 3) := by decide +kernel
theorem dX10_actBursts_42 : decode cX10_actBursts 42 = .ok (.getfield 167, 3) := by decide +kernel
theorem dX10_actBursts_45 : decode cX10_actBursts 45 = .ok (.iload_n 1, 1) := by decide +kernel
theorem dX10_actBursts_46 : decode cX10_actBursts 46 = .ok (.iaload, 1) := by decide +kernel
theorem dX10_actBursts_47 : decode cX10_actBursts 47 = .ok (.ireturn, 1) := by decide +kernel
theorem dX10_actCalms_0 : decode cX10_actCalms 0 = .ok (.aload_n 0, 1) := by decide +kernel
theorem dX10_actCalms_1 : decode cX10_actCalms 1 = .ok (.getfield 66, 3) := by decide +kernel
theorem dX10_actCalms_4 : decode cX10_actCalms 4 = .ok (.aload_n 0, 1) := by decide +kernel
theorem dX10_actCalms_5 : decode cX10_actCalms 5 = .ok (.getfield 46, 3) := by decide +kernel
theorem dX10_actCalms_8 : decode cX10_actCalms 8 = .ok (.getfield 167, 3) := by decide +kernel
theorem dX10_actCalms_11 : decode cX10_actCalms 11 = .ok (.invokevirtual 268, 3) := by decide +kernel
theorem dX10_actCalms_14 : decode cX10_actCalms 14 = .ok (.aload_n 0, 1) := by decide +kernel
theorem dX10_actCalms_15 : decode cX10_actCalms 15 = .ok (.getfield 66, 3) := by decide +kernel
theorem dX10_actCalms_18 : decode cX10_actCalms 18 = .ok (.aload_n 0, 1) := by decide +kernel
theorem dX10_actCalms_19 : decode cX10_actCalms 19 = .ok (.getfield 26, 3) := by decide +kernel
theorem dX10_actCalms_22 : decode cX10_actCalms 22 = .ok (.invokevirtual 271, 3) := by decide +kernel
theorem dX10_actCalms_25 : decode cX10_actCalms 25 = .ok (.istore_n 1, 1) := by decide +kernel
theorem dX10_actCalms_26 : decode cX10_actCalms 26 = .ok (.iload_n 1, 1) := by decide +kernel
theorem dX10_actCalms_27 : decode cX10_actCalms 27 = .ok (.ifCond .ge 5, 3) := by decide +kernel
theorem dX10_actCalms_30 : decode cX10_actCalms 30 = .ok (.iload_n 1, 1) := by decide +kernel
theorem dX10_actCalms_31 : decode cX10_actCalms 31 = .ok (.ireturn, 1) := by decide +kernel
theorem dX10_actCalms_32 : decode cX10_actCalms 32 = .ok (.iconst 1, 1) := by decide +kernel
theorem dX10_actCalms_33 : decode cX10_actCalms 33 = .ok (.istore_n 2, 1) := by decide +kernel
theorem dX10_actCalms_34 : decode cX10_actCalms 34 = .ok (.iload_n 2, 1) := by decide +kernel
theorem dX10_actCalms_35 : decode cX10_actCalms 35 = .ok (.aload_n 0, 1) := by decide +kernel
theorem dX10_actCalms_36 : decode cX10_actCalms 36 = .ok (.getfield 26, 3) := by decide +kernel
theorem dX10_actCalms_39 : decode cX10_actCalms 39 = .ok (.invokevirtual 275, 3) := by decide +kernel
theorem dX10_actCalms_42 : decode cX10_actCalms 42 = .ok (.if_icmp .ge 53, 3) := by decide +kernel
theorem dX10_actCalms_45 : decode cX10_actCalms 45 = .ok (.aload_n 0, 1) := by decide +kernel
theorem dX10_actCalms_46 : decode cX10_actCalms 46 = .ok (.getfield 46, 3) := by decide +kernel
theorem dX10_actCalms_49 : decode cX10_actCalms 49 = .ok (.getfield 167, 3) := by decide +kernel
theorem dX10_actCalms_52 : decode cX10_actCalms 52 = .ok (.iload_n 2, 1) := by decide +kernel
theorem dX10_actCalms_53 : decode cX10_actCalms 53 = .ok (.aload_n 0, 1) := by decide +kernel
theorem dX10_actCalms_54 : decode cX10_actCalms 54 = .ok (.getfield 66, 3) := by decide +kernel
theorem dX10_actCalms_57 : decode cX10_actCalms 57 = .ok (.getfield 278, 3) := by decide +kernel
theorem dX10_actCalms_60 : decode cX10_actCalms 60 = .ok (.iload_n 2, 1) := by decide +kernel
theorem dX10_actCalms_61 : decode cX10_actCalms 61 = .ok (.iaload, 1) := by decide +kernel
theorem dX10_actCalms_62 : decode cX10_actCalms 62 = .ok (.iastore, 1) := by decide +kernel
theorem dX10_actCalms_63 : decode cX10_actCalms 63 = .ok (.aload_n 0, 1) := by decide +kernel
theorem dX10_actCalms_64 : decode cX10_actCalms 64 = .ok (.getfield 46, 3) := by decide +kernel
theorem dX10_actCalms_67 : decode cX10_actCalms 67 = .ok (.aload_n 0, 1) := by decide +kernel
theorem dX10_actCalms_68 : decode cX10_actCalms 68 = .ok (.getfield 66, 3) := by decide +kernel
theorem dX10_actCalms_71 : decode cX10_actCalms 71 = .ok (.getfield 281, 3) := by decide +kernel
theorem dX10_actCalms_74 : decode cX10_actCalms 74 = .ok (.iload_n 2, 1) := by decide +kernel
theorem dX10_actCalms_75 : decode cX10_actCalms 75 = .ok (.iaload, 1) := by decide +kernel
theorem dX10_actCalms_76 : decode cX10_actCalms 76 = .ok (.aload_n 0, 1) := by decide +kernel
theorem dX10_actCalms_77 : decode cX10_actCalms 77 = .ok (.getfield 26, 3) := by decide +kernel
theorem dX10_actCalms_80 : decode cX10_actCalms 80 = .ok (.iload_n 2, 1) := by decide +kernel
theorem dX10_actCalms_81 : decode cX10_actCalms 81 = .ok (.iconst 0, 1) := by decide +kernel
theorem dX10_actCalms_82 : decode cX10_actCalms 82 = .ok (.invokevirtual 284, 3) := by decide +kernel
theorem dX10_actCalms_85 : decode cX10_actCalms 85 = .ok (.imul, 1) := by decide +kernel
theorem dX10_actCalms_86 : decode cX10_actCalms 86 = .ok (.invokevirtual 287, 3) := by decide +kernel
theorem dX10_actCalms_89 : decode cX10_actCalms 89 = .ok (.iinc 2 1, 3) := by decide +kernel
theorem dX10_actCalms_92 : decode cX10_actCalms 92 = .ok (.goto (-58), 3) := by decide +kernel
theorem dX10_actCalms_95 : decode cX10_actCalms 95 = .ok (.aload_n 0, 1) := by decide +kernel
theorem dX10_actCalms_96 : decode cX10_actCalms 96 = .ok (.getfield 19, 3) := by decide +kernel
theorem dX10_actCalms_99 : decode cX10_actCalms 99 = .ok (.aload_n 0, 1) := by decide +kernel
theorem dX10_actCalms_100 : decode cX10_actCalms 100 = .ok (.getfield 66, 3) := by decide +kernel
theorem dX10_actCalms_103 : decode cX10_actCalms 103 = .ok (.getfield 281, 3) := by decide +kernel
theorem dX10_actCalms_106 : decode cX10_actCalms 106 = .ok (.aload_n 0, 1) := by decide +kernel
theorem dX10_actCalms_107 : decode cX10_actCalms 107 = .ok (.getfield 26, 3) := by decide +kernel
theorem dX10_actCalms_110 : decode cX10_actCalms 110 = .ok (.invokevirtual 275, 3) := by decide +kernel
theorem dX10_actCalms_113 : decode cX10_actCalms 113 = .ok (.invokevirtual 290, 3) := by decide +kernel
theorem dX10_actCalms_116 : decode cX10_actCalms 116 = .ok (.iload_n 1, 1) := by decide +kernel
theorem dX10_actCalms_117 : decode cX10_actCalms 117 = .ok (.ireturn, 1) := by decide +kernel
theorem dX10_actPoints_0 : decode cX10_actPoints 0 = .ok (.aload_n 0, 1) := by decide +kernel
theorem dX10_actPoints_1 : decode cX10_actPoints 1 = .ok (.getfield 26, 3) := by decide +kernel
theorem dX10_actPoints_4 : decode cX10_actPoints 4 = .ok (.iload_n 1, 1) := by decide +kernel
theorem dX10_actPoints_5 : decode cX10_actPoints 5 = .ok (.iload_n 2, 1) := by decide +kernel
theorem dX10_actPoints_6 : decode cX10_actPoints 6 = .ok (.invokevirtual 183, 3) := by decide +kernel
theorem dX10_actPoints_9 : decode cX10_actPoints 9 = .ok (.ifCond .ne 5, 3) := by decide +kernel
theorem dX10_actPoints_12 : decode cX10_actPoints 12 = .ok (.iconst (-1), 1) := by decide +kernel
theorem dX10_actPoints_13 : decode cX10_actPoints 13 = .ok (.ireturn, 1) := by decide +kernel
theorem dX10_actPoints_14 : decode cX10_actPoints 14 = .ok (.aload_n 0, 1) := by decide +kernel
theorem dX10_actPoints_15 : decode cX10_actPoints 15 = .ok (.getfield 46, 3) := by decide +kernel
theorem dX10_actPoints_18 : decode cX10_actPoints 18 = .ok (.getfield 160, 3) := by decide +kernel
theorem dX10_actPoints_21 : decode cX10_actPoints 21 = .ok (.iload_n 1, 1) := by decide +kernel
theorem dX10_actPoints_22 : decode cX10_actPoints 22 = .ok (.iaload, 1) := by decide +kernel
theorem dX10_actPoints_23 : decode cX10_actPoints 23 = .ok (.istore_n 3, 1) := by decide +kernel
theorem dX10_actPoints_24 : decode cX10_actPoints 24 = .ok (.iload_n 3, 1) := by decide +kernel
theorem dX10_actPoints_25 : decode cX10_actPoints 25 = .ok (.iload_n 2, 1) := by decide +kernel
theorem dX10_actPoints_26 : decode cX10_actPoints 26 = .ok (.if_icmp .ne 6, 3) := by decide +kernel
theorem dX10_actPoints_29 : decode cX10_actPoints 29 = .ok (.bipush (-2), 2) := by decide +kernel
theorem dX10_actPoints_31 : decode cX10_actPoints 31 = .ok (.ireturn, 1) := by decide +kernel
theorem dX10_actPoints_32 : decode cX10_actPoints 32 = .ok (.aload_n 0, 1) := by decide +kernel
theorem dX10_actPoints_33 : decode cX10_actPoints 33 = .ok (.getfield 46, 3) := by decide +kernel
theorem dX10_actPoints_36 : decode cX10_actPoints 36 = .ok (.getfield 160, 3) := by decide +kernel
theorem dX10_actPoints_39 : decode cX10_actPoints 39 = .ok (.iload_n 1, 1) := by decide +kernel
theorem dX10_actPoints_40 : decode cX10_actPoints 40 = .ok (.iload_n 2, 1) := by decide +kernel
theorem dX10_actPoints_41 : decode cX10_actPoints 41 = .ok (.iastore, 1) := by decide +kernel
theorem dX10_actPoints_42 : decode cX10_actPoints 42 = .ok (.bipush 10, 2) := by decide +kernel
theorem dX10_actPoints_44 : decode cX10_actPoints 44 = .ok (.iload_n 3, 1) := by decide +kernel
theorem dX10_actPoints_45 : decode cX10_actPoints 45 = .ok (.iadd, 1) := by decide +kernel
theorem dX10_actPoints_46 : decode cX10_actPoints 46 = .ok (.ireturn, 1) := by decide +kernel
