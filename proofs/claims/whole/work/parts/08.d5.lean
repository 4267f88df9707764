theorem dX11_follows_0 : decode cX11_follows 0 = .ok (.aload_n 0, 1) := by decide +kernel
theorem dX11_follows_1 : decode cX11_follows 1 = .ok (.iconst 0, 1) := by decide +kernel
theorem dX11_follows_2 : decode cX11_follows 2 = .ok (.putfield 3, 3) := by decide +kernel
theorem dX11_follows_5 : decode cX11_follows 5 = .ok (.aload_n 0, 1) := by decide +kernel
theorem dX11_follows_6 : decode cX11_follows 6 = .ok (.iload_n 1, 1) := by decide +kernel
theorem dX11_follows_7 : decode cX11_follows 7 = .ok (.invokevirtual 280, 3) := by decide +kernel
theorem dX11_follows_10 : decode cX11_follows 10 = .ok (.ifCond .ne 5, 3) := by decide +kernel
theorem dX11_follows_13 : decode cX11_follows 13 = .ok (.iconst (-1), 1) := by decide +kernel
theorem dX11_follows_14 : decode cX11_follows 14 = .ok (.ireturn, 1) := by decide +kernel
theorem dX11_follows_15 : decode cX11_follows 15 = .ok (.iconst 1, 1) := by decide +kernel
theorem dX11_follows_16 : decode cX11_follows 16 = .ok (.iload_n 1, 1) := by decide +kernel
theorem dX11_follows_17 : decode cX11_follows 17 = .ok (.ishl, 1) := by decide +kernel
theorem dX11_follows_18 : decode cX11_follows 18 = .ok (.istore_n 2, 1) := by decide +kernel
theorem dX11_follows_19 : decode cX11_follows 19 = .ok (.aload_n 0, 1) := by decide +kernel
theorem dX11_follows_20 : decode cX11_follows 20 = .ok (.iload_n 1, 1) := by decide +kernel
theorem dX11_follows_21 : decode cX11_follows 21 = .ok (.aload_n 0, 1) := by decide +kernel
theorem dX11_follows_22 : decode cX11_follows 22 = .ok (.getfield 38, 3) := by decide +kernel
theorem dX11_follows_25 : decode cX11_follows 25 = .ok (.iload_n 1, 1) := by decide +kernel
theorem dX11_follows_26 : decode cX11_follows 26 = .ok (.iaload, 1) := by decide +kernel
theorem dX11_follows_27 : decode cX11_follows 27 = .ok (.invokevirtual 255, 3) := by decide +kernel
theorem dX11_follows_30 : decode cX11_follows 30 = .ok (.istore_n 3, 1) := by decide +kernel
theorem dX11_follows_31 : decode cX11_follows 31 = .ok (.iconst 1, 1) := by decide +kernel
theorem dX11_follows_32 : decode cX11_follows 32 = .ok (.istore 4, 2) := by decide +kernel
theorem dX11_follows_34 : decode cX11_follows 34 = .ok (.iload_n 3, 1) := by decide +kernel
theorem dX11_follows_35 : decode cX11_follows 35 = .ok (.ifCond .le 35, 3) := by decide +kernel
theorem dX11_follows_38 : decode cX11_follows 38 = .ok (.iload_n 2, 1) := by decide +kernel
theorem dX11_follows_39 : decode cX11_follows 39 = .ok (.iload_n 3, 1) := by decide +kernel
theorem dX11_follows_40 : decode cX11_follows 40 = .ok (.invokestatic 183, 3) := by decide +kernel
theorem dX11_follows_43 : decode cX11_follows 43 = .ok (.ifCond .ne 27, 3) := by decide +kernel
theorem dX11_follows_46 : decode cX11_follows 46 = .ok (.iload_n 2, 1) := by decide +kernel
theorem dX11_follows_47 : decode cX11_follows 47 = .ok (.iconst 1, 1) := by decide +kernel
theorem dX11_follows_48 : decode cX11_follows 48 = .ok (.iload_n 3, 1) := by decide +kernel
theorem dX11_follows_49 : decode cX11_follows 49 = .ok (.ishl, 1) := by decide +kernel
theorem dX11_follows_50 : decode cX11_follows 50 = .ok (.ior, 1) := by decide +kernel
theorem dX11_follows_51 : decode cX11_follows 51 = .ok (.istore_n 2, 1) := by decide +kernel
theorem dX11_follows_52 : decode cX11_follows 52 = .ok (.aload_n 0, 1) := by decide +kernel
theorem dX11_follows_53 : decode cX11_follows 53 = .ok (.iload_n 3, 1) := by decide +kernel
theorem dX11_follows_54 : decode cX11_follows 54 = .ok (.aload_n 0, 1) := by decide +kernel
theorem dX11_follows_55 : decode cX11_follows 55 = .ok (.getfield 38, 3) := by decide +kernel
theorem dX11_follows_58 : decode cX11_follows 58 = .ok (.iload_n 3, 1) := by decide +kernel
theorem dX11_follows_59 : decode cX11_follows 59 = .ok (.iaload, 1) := by decide +kernel
theorem dX11_follows_60 : decode cX11_follows 60 = .ok (.invokevirtual 255, 3) := by decide +kernel
theorem dX11_follows_63 : decode cX11_follows 63 = .ok (.istore_n 3, 1) := by decide +kernel
theorem dX11_follows_64 : decode cX11_follows 64 = .ok (.iinc 4 1, 3) := by decide +kernel
theorem dX11_follows_67 : decode cX11_follows 67 = .ok (.goto (-33), 3) := by decide +kernel
theorem dX11_follows_70 : decode cX11_follows 70 = .ok (.iload_n 2, 1) := by decide +kernel
theorem dX11_follows_71 : decode cX11_follows 71 = .ok (.iconst 1, 1) := by decide +kernel
theorem dX11_follows_72 : decode cX11_follows 72 = .ok (.iload_n 3, 1) := by decide +kernel
theorem dX11_follows_73 : decode cX11_follows 73 = .ok (.ishl, 1) := by decide +kernel
theorem dX11_follows_74 : decode cX11_follows 74 = .ok (.ior, 1) := by decide +kernel
theorem dX11_follows_75 : decode cX11_follows 75 = .ok (.istore_n 2, 1) := by decide +kernel
theorem dX11_follows_76 : decode cX11_follows 76 = .ok (.aload_n 0, 1) := by decide +kernel
theorem dX11_follows_77 : decode cX11_follows 77 = .ok (.iconst 0, 1) := by decide +kernel
theorem dX11_follows_78 : decode cX11_follows 78 = .ok (.putfield 15, 3) := by decide +kernel
theorem dX11_follows_81 : decode cX11_follows 81 = .ok (.aload_n 0, 1) := by decide +kernel
theorem dX11_follows_82 : decode cX11_follows 82 = .ok (.iload_n 3, 1) := by decide +kernel
theorem dX11_follows_83 : decode cX11_follows 83 = .ok (.ifCond .ne 7, 3) := by decide +kernel
theorem dX11_follows_86 : decode cX11_follows 86 = .ok (.iconst 1, 1) := by decide +kernel
theorem dX11_follows_87 : decode cX11_follows 87 = .ok (.goto 4, 3) := by decide +kernel
theorem dX11_follows_90 : decode cX11_follows 90 = .ok (.iconst 0, 1) := by decide +kernel
theorem dX11_follows_91 : decode cX11_follows 91 = .ok (.invokestatic 151, 3) := by decide +kernel
theorem dX11_follows_94 : decode cX11_follows 94 = .ok (.i2l, 1) := by decide +kernel
theorem dX11_follows_95 : decode cX11_follows 95 = .ok (.invokevirtual 18, 3) := by decide +kernel
theorem dX11_follows_98 : decode cX11_follows 98 = .ok (.aload_n 0, 1) := by decide +kernel
theorem dX11_follows_99 : decode cX11_follows 99 = .ok (.iload 4, 2) := by decide +kernel
theorem dX11_follows_101 : decode cX11_follows 101 = .ok (.i2l, 1) := by decide +kernel
theorem dX11_follows_102 : decode cX11_follows 102 = .ok (.invokevirtual 18, 3) := by decide +kernel
theorem dX11_follows_105 : decode cX11_follows 105 = .ok (.iload_n 2, 1) := by decide +kernel
theorem dX11_follows_106 : decode cX11_follows 106 = .ok (.ireturn, 1) := by decide +kernel
theorem dX11_comesBy_0 : decode cX11_comesBy 0 = .ok (.iconst 0, 1) := by decide +kernel
theorem dX11_comesBy_1 : decode cX11_comesBy 1 = .ok (.istore_n 2, 1) := by decide +kernel
theorem dX11_comesBy_2 : decode cX11_comesBy 2 = .ok (.iconst 1, 1) := by decide +kernel
theorem dX11_comesBy_3 : decode cX11_comesBy 3 = .ok (.istore_n 3, 1) := by decide +kernel
theorem dX11_comesBy_4 : decode cX11_comesBy 4 = .ok (.iload_n 3, 1) := by decide +kernel
theorem dX11_comesBy_5 : decode cX11_comesBy 5 = .ok (.aload_n 0, 1) := by decide +kernel
theorem dX11_comesBy_6 : decode cX11_comesBy 6 = .ok (.getfield 28, 3) := by decide +kernel
theorem dX11_comesBy_9 : decode cX11_comesBy 9 = .ok (.if_icmp .ge 61, 3) := by decide +kernel
theorem dX11_comesBy_12 : decode cX11_comesBy 12 = .ok (.iload_n 3, 1) := by decide +kernel
theorem dX11_comesBy_13 : decode cX11_comesBy 13 = .ok (.istore 4, 2) := by decide +kernel
theorem dX11_comesBy_15 : decode cX11_comesBy 15 = .ok (.iconst 0, 1) := by decide +kernel
theorem dX11_comesBy_16 : decode cX11_comesBy 16 = .ok (.istore 5, 2) := by decide +kernel
theorem dX11_comesBy_18 : decode cX11_comesBy 18 = .ok (.iload 5, 2) := by decide +kernel
theorem dX11_comesBy_20 : decode cX11_comesBy 20 = .ok (.bipush 8, 2) := by decide +kernel
theorem dX11_comesBy_22 : decode cX11_comesBy 22 = .ok (.if_icmp .ge 26, 3) := by decide +kernel
theorem dX11_comesBy_25 : decode cX11_comesBy 25 = .ok (.iload 4, 2) := by decide +kernel
theorem dX11_comesBy_27 : decode cX11_comesBy 27 = .ok (.ifCond .le 21, 3) := by decide +kernel
theorem dX11_comesBy_30 : decode cX11_comesBy 30 = .ok (.aload_n 0, 1) := by decide +kernel
theorem dX11_comesBy_31 : decode cX11_comesBy 31 = .ok (.iload 4, 2) := by decide +kernel
theorem dX11_comesBy_33 : decode cX11_comesBy 33 = .ok (.aload_n 1, 1) := by decide +kernel
theorem dX11_comesBy_34 : decode cX11_comesBy 34 = .ok (.iload 4, 2) := by decide +kernel
theorem dX11_comesBy_36 : decode cX11_comesBy 36 = .ok (.iaload, 1) := by decide +kernel
theorem dX11_comesBy_37 : decode cX11_comesBy 37 = .ok (.invokevirtual 255, 3) := by decide +kernel
theorem dX11_comesBy_40 : decode cX11_comesBy 40 = .ok (.istore 4, 2) := by decide +kernel
theorem dX11_comesBy_42 : decode cX11_comesBy 42 = .ok (.iinc 5 1, 3) := by decide +kernel
theorem dX11_comesBy_45 : decode cX11_comesBy 45 = .ok (.goto (-27), 3) := by decide +kernel
theorem dX11_comesBy_48 : decode cX11_comesBy 48 = .ok (.iload_n 2, 1) := by decide +kernel
theorem dX11_comesBy_49 : decode cX11_comesBy 49 = .ok (.iload 4, 2) := by decide +kernel
theorem dX11_comesBy_51 : decode cX11_comesBy 51 = .ok (.ifCond .ne 7, 3) := by decide +kernel
theorem dX11_comesBy_54 : decode cX11_comesBy 54 = .ok (.iconst 1, 1) := by decide +kernel
theorem dX11_comesBy_55 : decode cX11_comesBy 55 = .ok (.goto 4, 3) := by decide +kernel
theorem dX11_comesBy_58 : decode cX11_comesBy 58 = .ok (.iconst 0, 1) := by decide +kernel
theorem dX11_comesBy_59 : decode cX11_comesBy 59 = .ok (.invokestatic 151, 3) := by decide +kernel
theorem dX11_comesBy_62 : decode cX11_comesBy 62 = .ok (.iadd, 1) := by decide +kernel
theorem dX11_comesBy_63 : decode cX11_comesBy 63 = .ok (.istore_n 2, 1) := by decide +kernel
theorem dX11_comesBy_64 : decode cX11_comesBy 64 = .ok (.iinc 3 1, 3) := by decide +kernel
theorem dX11_comesBy_67 : decode cX11_comesBy 67 = .ok (.goto (-63), 3) := by decide +kernel
theorem dX11_comesBy_70 : decode cX11_comesBy 70 = .ok (.iload_n 2, 1) := by decide +kernel
theorem dX11_comesBy_71 : decode cX11_comesBy 71 = .ok (.ireturn, 1) := by decide +kernel
theorem dX11_ringsBy_0 : decode cX11_ringsBy 0 = .ok (.iconst 0, 1) := by decide +kernel
theorem dX11_ringsBy_1 : decode cX11_ringsBy 1 = .ok (.istore_n 2, 1) := by decide +kernel
theorem dX11_ringsBy_2 : decode cX11_ringsBy 2 = .ok (.iconst 1, 1) := by decide +kernel
theorem dX11_ringsBy_3 : decode cX11_ringsBy 3 = .ok (.istore_n 3, 1) := by decide +kernel
theorem dX11_ringsBy_4 : decode cX11_ringsBy 4 = .ok (.iload_n 3, 1) := by decide +kernel
theorem dX11_ringsBy_5 : decode cX11_ringsBy 5 = .ok (.aload_n 0, 1) := by decide +kernel
theorem dX11_ringsBy_6 : decode cX11_ringsBy 6 = .ok (.getfield 28, 3) := by decide +kernel
theorem dX11_ringsBy_9 : decode cX11_ringsBy 9 = .ok (.if_icmp .ge 70, 3) := by decide +kernel
theorem dX11_ringsBy_12 : decode cX11_ringsBy 12 = .ok (.aload_n 0, 1) := by decide +kernel
theorem dX11_ringsBy_13 : decode cX11_ringsBy 13 = .ok (.iload_n 3, 1) := by decide +kernel
theorem dX11_ringsBy_14 : decode cX11_ringsBy 14 = .ok (.aload_n 1, 1) := by decide +kernel
theorem dX11_ringsBy_15 : decode cX11_ringsBy 15 = .ok (.iload_n 3, 1) := by decide +kernel
theorem dX11_ringsBy_16 : decode cX11_ringsBy 16 = .ok (.iaload, 1) := by decide +kernel
theorem dX11_ringsBy_17 : decode cX11_ringsBy 17 = .ok (.invokevirtual 255, 3) := by decide +kernel
theorem dX11_ringsBy_20 : decode cX11_ringsBy 20 = .ok (.istore 4, 2) := by decide +kernel
theorem dX11_ringsBy_22 : decode cX11_ringsBy 22 = .ok (.iconst 0, 1) := by decide +kernel
theorem dX11_ringsBy_23 : decode cX11_ringsBy 23 = .ok (.istore 5, 2) := by decide +kernel
theorem dX11_ringsBy_25 : decode cX11_ringsBy 25 = .ok (.iload 4, 2) := by decide +kernel
theorem dX11_ringsBy_27 : decode cX11_ringsBy 27 = .ok (.iload_n 3, 1) := by decide +kernel
theorem dX11_ringsBy_28 : decode cX11_ringsBy 28 = .ok (.if_icmp .le 28, 3) := by decide +kernel
theorem dX11_ringsBy_31 : decode cX11_ringsBy 31 = .ok (.iload 5, 2) := by decide +kernel
theorem dX11_ringsBy_33 : decode cX11_ringsBy 33 = .ok (.bipush 8, 2) := by decide +kernel
theorem dX11_ringsBy_35 : decode cX11_ringsBy 35 = .ok (.if_icmp .ge 21, 3) := by decide +kernel
theorem dX11_ringsBy_38 : decode cX11_ringsBy 38 = .ok (.aload_n 0, 1) := by decide +kernel
theorem dX11_ringsBy_39 : decode cX11_ringsBy 39 = .ok (.iload 4, 2) := by decide +kernel
theorem dX11_ringsBy_41 : decode cX11_ringsBy 41 = .ok (.aload_n 1, 1) := by decide +kernel
theorem dX11_ringsBy_42 : decode cX11_ringsBy 42 = .ok (.iload 4, 2) := by decide +kernel
theorem dX11_ringsBy_44 : decode cX11_ringsBy 44 = .ok (.iaload, 1) := by decide +kernel
theorem dX11_ringsBy_45 : decode cX11_ringsBy 45 = .ok (.invokevirtual 255, 3) := by decide +kernel
theorem dX11_ringsBy_48 : decode cX11_ringsBy 48 = .ok (.istore 4, 2) := by decide +kernel
theorem dX11_ringsBy_50 : decode cX11_ringsBy 50 = .ok (.iinc 5 1, 3) := by decide +kernel
theorem dX11_ringsBy_53 : decode cX11_ringsBy 53 = .ok (.goto (-28), 3) := by decide +kernel
theorem dX11_ringsBy_56 : decode cX11_ringsBy 56 = .ok (.iload_n 2, 1) := by decide +kernel
theorem dX11_ringsBy_57 : decode cX11_ringsBy 57 = .ok (.iload 4, 2) := by decide +kernel
theorem dX11_ringsBy_59 : decode cX11_ringsBy 59 = .ok (.iload_n 3, 1) := by decide +kernel
theorem dX11_ringsBy_60 : decode cX11_ringsBy 60 = .ok (.if_icmp .ne 7, 3) := by decide +kernel
theorem dX11_ringsBy_63 : decode cX11_ringsBy 63 = .ok (.iconst 1, 1) := by decide +kernel
theorem dX11_ringsBy_64 : decode cX11_ringsBy 64 = .ok (.goto 4, 3) := by decide +kernel
theorem dX11_ringsBy_67 : decode cX11_ringsBy 67 = .ok (.iconst 0, 1) := by decide +kernel
theorem dX11_ringsBy_68 : decode cX11_ringsBy 68 = .ok (.invokestatic 151, 3) := by decide +kernel
theorem dX11_ringsBy_71 : decode cX11_ringsBy 71 = .ok (.iadd, 1) := by decide +kernel
theorem dX11_ringsBy_72 : decode cX11_ringsBy 72 = .ok (.istore_n 2, 1) := by decide +kernel
theorem dX11_ringsBy_73 : decode cX11_ringsBy 73 = .ok (.iinc 3 1, 3) := by decide +kernel
theorem dX11_ringsBy_76 : decode cX11_ringsBy 76 = .ok (.goto (-72), 3) := by decide +kernel
theorem dX11_ringsBy_79 : decode cX11_ringsBy 79 = .ok (.iload_n 2, 1) := by decide +kernel
theorem dX11_ringsBy_80 : decode cX11_ringsBy 80 = .ok (.ireturn, 1) := by decide +kernel
theorem dX11_tree_0 : decode cX11_tree 0 = .ok (.aload_n 0, 1) := by decide +kernel
theorem dX11_tree_1 : decode cX11_tree 1 = .ok (.iconst 0, 1) := by decide +kernel
theorem dX11_tree_2 : decode cX11_tree 2 = .ok (.putfield 3, 3) := by decide +kernel
theorem dX11_tree_5 : decode cX11_tree 5 = .ok (.aload_n 0, 1) := by decide +kernel
theorem dX11_tree_6 : decode cX11_tree 6 = .ok (.aload_n 0, 1) := by decide +kernel
theorem dX11_tree_7 : decode cX11_tree 7 = .ok (.getfield 38, 3) := by decide +kernel
theorem dX11_tree_10 : decode cX11_tree 10 = .ok (.invokevirtual 377, 3) := by decide +kernel
theorem dX11_tree_13 : decode cX11_tree 13 = .ok (.istore_n 1, 1) := by decide +kernel
theorem dX11_tree_14 : decode cX11_tree 14 = .ok (.aload_n 0, 1) := by decide +kernel
theorem dX11_tree_15 : decode cX11_tree 15 = .ok (.iconst 0, 1) := by decide +kernel
theorem dX11_tree_16 : decode cX11_tree 16 = .ok (.putfield 15, 3) := by decide +kernel
theorem dX11_tree_19 : decode cX11_tree 19 = .ok (.aload_n 0, 1) := by decide +kernel
theorem dX11_tree_20 : decode cX11_tree 20 = .ok (.iload_n 1, 1) := by decide +kernel
theorem dX11_tree_21 : decode cX11_tree 21 = .ok (.aload_n 0, 1) := by decide +kernel
theorem dX11_tree_22 : decode cX11_tree 22 = .ok (.getfield 28, 3) := by decide +kernel
theorem dX11_tree_25 : decode cX11_tree 25 = .ok (.iconst 1, 1) := by decide +kernel
theorem dX11_tree_26 : decode cX11_tree 26 = .ok (.isub, 1) := by decide +kernel
theorem dX11_tree_27 : decode cX11_tree 27 = .ok (.if_icmp .ne 7, 3) := by decide +kernel
theorem dX11_tree_30 : decode cX11_tree 30 = .ok (.iconst 1, 1) := by decide +kernel
theorem dX11_tree_31 : decode cX11_tree 31 = .ok (.goto 4, 3) := by decide +kernel
theorem dX11_tree_34 : decode cX11_tree 34 = .ok (.iconst 0, 1) := by decide +kernel
theorem dX11_tree_35 : decode cX11_tree 35 = .ok (.invokestatic 151, 3) := by decide +kernel
theorem dX11_tree_38 : decode cX11_tree 38 = .ok (.i2l, 1) := by decide +kernel
theorem dX11_tree_39 : decode cX11_tree 39 = .ok (.invokevirtual 18, 3) := by decide +kernel
theorem dX11_tree_42 : decode cX11_tree 42 = .ok (.aload_n 0, 1) := by decide +kernel
theorem dX11_tree_43 : decode cX11_tree 43 = .ok (.aload_n 0, 1) := by decide +kernel
theorem dX11_tree_44 : decode cX11_tree 44 = .ok (.aload_n 0, 1) := by decide +kernel
theorem dX11_tree_45 : decode cX11_tree 45 = .ok (.getfield 38, 3) := by decide +kernel
theorem dX11_tree_48 : decode cX11_tree 48 = .ok (.invokevirtual 380, 3) := by decide +kernel
theorem dX11_tree_51 : decode cX11_tree 51 = .ok (.i2l, 1) := by decide +kernel
theorem dX11_tree_52 : decode cX11_tree 52 = .ok (.invokevirtual 18, 3) := by decide +kernel
theorem dX11_tree_55 : decode cX11_tree 55 = .ok (.iload_n 1, 1) := by decide +kernel
theorem dX11_tree_56 : decode cX11_tree 56 = .ok (.ireturn, 1) := by decide +kernel
theorem dX11_settings_0 : decode cX11_settings 0 = .ok (.iconst 1, 1) := by decide +kernel
theorem dX11_settings_1 : decode cX11_settings 1 = .ok (.istore_n 1, 1) := by decide +kernel
theorem dX11_settings_2 : decode cX11_settings 2 = .ok (.iconst 1, 1) := by decide +kernel
theorem dX11_settings_3 : decode cX11_settings 3 = .ok (.istore_n 2, 1) := by decide +kernel
theorem dX11_settings_4 : decode cX11_settings 4 = .ok (.iload_n 2, 1) := by decide +kernel
theorem dX11_settings_5 : decode cX11_settings 5 = .ok (.aload_n 0, 1) := by decide +kernel
theorem dX11_settings_6 : decode cX11_settings 6 = .ok (.getfield 28, 3) := by decide +kernel
theorem dX11_settings_9 : decode cX11_settings 9 = .ok (.if_icmp .ge 18, 3) := by decide +kernel
theorem dX11_settings_12 : decode cX11_settings 12 = .ok (.iload_n 1, 1) := by decide +kernel
theorem dX11_settings_13 : decode cX11_settings 13 = .ok (.aload_n 0, 1) := by decide +kernel
theorem dX11_settings_14 : decode cX11_settings 14 = .ok (.getfield 31, 3) := by decide +kernel
theorem dX11_settings_17 : decode cX11_settings 17 = .ok (.iload_n 2, 1) := by decide +kernel
theorem dX11_settings_18 : decode cX11_settings 18 = .ok (.iaload, 1) := by decide +kernel
theorem dX11_settings_19 : decode cX11_settings 19 = .ok (.imul, 1) := by decide +kernel
theorem dX11_settings_20 : decode cX11_settings 20 = .ok (.istore_n 1, 1) := by decide +kernel
theorem dX11_settings_21 : decode cX11_settings 21 = .ok (.iinc 2 1, 3) := by decide +kernel
theorem dX11_settings_24 : decode cX11_settings 24 = .ok (.goto (-20), 3) := by decide +kernel
theorem dX11_settings_27 : decode cX11_settings 27 = .ok (.iload_n 1, 1) := by decide +kernel
theorem dX11_settings_28 : decode cX11_settings 28 = .ok (.ireturn, 1) := by decide +kernel
theorem dX11_laysSetting_0 : decode cX11_laysSetting 0 = .ok (.iload_n 1, 1) := by decide +kernel
theorem dX11_laysSetting_1 : decode cX11_laysSetting 1 = .ok (.istore_n 2, 1) := by decide +kernel
theorem dX11_laysSetting_2 : decode cX11_laysSetting 2 = .ok (.aload_n 0, 1) := by decide +kernel
theorem dX11_laysSetting_3 : decode cX11_laysSetting 3 = .ok (.getfield 28, 3) := by decide +kernel
theorem dX11_laysSetting_6 : decode cX11_laysSetting 6 = .ok (.iconst 1, 1) := by decide +kernel
theorem dX11_laysSetting_7 : decode cX11_laysSetting 7 = .ok (.isub, 1) := by decide +kernel
theorem dX11_laysSetting_8 : decode cX11_laysSetting 8 = .ok (.istore_n 3, 1) := by decide +kernel
theorem dX11_laysSetting_9 : decode cX11_laysSetting 9 = .ok (.iload_n 3, 1) := by decide +kernel
theorem dX11_laysSetting_10 : decode cX11_laysSetting 10 = .ok (.ifCond .le 32, 3) := by decide +kernel
theorem dX11_laysSetting_13 : decode cX11_laysSetting 13 = .ok (.aload_n 0, 1) := by decide +kernel
theorem dX11_laysSetting_14 : decode cX11_laysSetting 14 = .ok (.getfield 86, 3) := by decide +kernel
theorem dX11_laysSetting_17 : decode cX11_laysSetting 17 = .ok (.iload_n 3, 1) := by decide +kernel
theorem dX11_laysSetting_18 : decode cX11_laysSetting 18 = .ok (.iload_n 2, 1) := by decide +kernel
theorem dX11_laysSetting_19 : decode cX11_laysSetting 19 = .ok (.aload_n 0, 1) := by decide +kernel
theorem dX11_laysSetting_20 : decode cX11_laysSetting 20 = .ok (.getfield 31, 3) := by decide +kernel
theorem dX11_laysSetting_23 : decode cX11_laysSetting 23 = .ok (.iload_n 3, 1) := by decide +kernel
theorem dX11_laysSetting_24 : decode cX11_laysSetting 24 = .ok (.iaload, 1) := by decide +kernel
theorem dX11_laysSetting_25 : decode cX11_laysSetting 25 = .ok (.irem, 1) := by decide +kernel
theorem dX11_laysSetting_26 : decode cX11_laysSetting 26 = .ok (.iastore, 1) := by decide +kernel
theorem dX11_laysSetting_27 : decode cX11_laysSetting 27 = .ok (.iload_n 2, 1) := by decide +kernel
theorem dX11_laysSetting_28 : decode cX11_laysSetting 28 = .ok (.aload_n 0, 1) := by decide +kernel
theorem dX11_laysSetting_29 : decode cX11_laysSetting 29 = .ok (.getfield 31, 3) := by decide +kernel
theorem dX11_laysSetting_32 : decode cX11_laysSetting 32 = .ok (.iload_n 3, 1) := by decide +kernel
theorem dX11_laysSetting_33 : decode cX11_laysSetting 33 = .ok (.iaload, 1) := by decide +kernel
theorem dX11_laysSetting_34 : decode cX11_laysSetting 34 = .ok (.idiv, 1) := by decide +kernel
theorem dX11_laysSetting_35 : decode cX11_laysSetting 35 = .ok (.istore_n 2, 1) := by decide +kernel
theorem dX11_laysSetting_36 : decode cX11_laysSetting 36 = .ok (.iinc 3 (-1), 3) := by decide +kernel
theorem dX11_laysSetting_39 : decode cX11_laysSetting 39 = .ok (.goto (-30), 3) := by decide +kernel
theorem dX11_laysSetting_42 : decode cX11_laysSetting 42 = .ok (.aload_n 0, 1) := by decide +kernel
theorem dX11_laysSetting_43 : decode cX11_laysSetting 43 = .ok (.aload_n 0, 1) := by decide +kernel
theorem dX11_laysSetting_44 : decode cX11_laysSetting 44 = .ok (.getfield 86, 3) := by decide +kernel
theorem dX11_laysSetting_47 : decode cX11_laysSetting 47 = .ok (.invokevirtual 377, 3) := by decide +kernel
theorem dX11_laysSetting_50 : decode cX11_laysSetting 50 = .ok (.aload_n 0, 1) := by decide +kernel
theorem dX11_laysSetting_51 : decode cX11_laysSetting 51 = .ok (.getfield 28, 3) := by decide +kernel
theorem dX11_laysSetting_54 : decode cX11_laysSetting 54 = .ok (.iconst 1, 1) := by decide +kernel
theorem dX11_laysSetting_55 : decode cX11_laysSetting 55 = .ok (.isub, 1) := by decide +kernel
theorem dX11_laysSetting_56 : decode cX11_laysSetting 56 = .ok (.if_icmp .ne 7, 3) := by decide +kernel
theorem dX11_laysSetting_59 : decode cX11_laysSetting 59 = .ok (.iconst 1, 1) := by decide +kernel
theorem dX11_laysSetting_60 : decode cX11_laysSetting 60 = .ok (.goto 4, 3) := by decide +kernel
theorem dX11_laysSetting_63 : decode cX11_laysSetting 63 = .ok (.iconst 0, 1) := by decide +kernel
theorem dX11_laysSetting_64 : decode cX11_laysSetting 64 = .ok (.ireturn, 1) := by decide +kernel
theorem dX11_entersPosts_0 : decode cX11_entersPosts 0 = .ok (.aload_n 0, 1) := by decide +kernel
theorem dX11_entersPosts_1 : decode cX11_entersPosts 1 = .ok (.iload_n 1, 1) := by decide +kernel
theorem dX11_entersPosts_2 : decode cX11_entersPosts 2 = .ok (.invokevirtual 383, 3) := by decide +kernel
theorem dX11_entersPosts_5 : decode cX11_entersPosts 5 = .ok (.pop, 1) := by decide +kernel
theorem dX11_entersPosts_6 : decode cX11_entersPosts 6 = .ok (.aload_n 0, 1) := by decide +kernel
theorem dX11_entersPosts_7 : decode cX11_entersPosts 7 = .ok (.iconst 0, 1) := by decide +kernel
theorem dX11_entersPosts_8 : decode cX11_entersPosts 8 = .ok (.putfield 15, 3) := by decide +kernel
theorem dX11_entersPosts_11 : decode cX11_entersPosts 11 = .ok (.iconst 1, 1) := by decide +kernel
theorem dX11_entersPosts_12 : decode cX11_entersPosts 12 = .ok (.istore_n 2, 1) := by decide +kernel
theorem dX11_entersPosts_13 : decode cX11_entersPosts 13 = .ok (.iload_n 2, 1) := by decide +kernel
theorem dX11_entersPosts_14 : decode cX11_entersPosts 14 = .ok (.aload_n 0, 1) := by decide +kernel
theorem dX11_entersPosts_15 : decode cX11_entersPosts 15 = .ok (.getfield 28, 3) := by decide +kernel
theorem dX11_entersPosts_18 : decode cX11_entersPosts 18 = .ok (.if_icmp .ge 20, 3) := by decide +kernel
theorem dX11_entersPosts_21 : decode cX11_entersPosts 21 = .ok (.aload_n 0, 1) := by decide +kernel
theorem dX11_entersPosts_22 : decode cX11_entersPosts 22 = .ok (.aload_n 0, 1) := by decide +kernel
theorem dX11_entersPosts_23 : decode cX11_entersPosts 23 = .ok (.getfield 86, 3) := by decide +kernel
theorem dX11_entersPosts_26 : decode cX11_entersPosts 26 = .ok (.iload_n 2, 1) := by decide +kernel
theorem dX11_entersPosts_27 : decode cX11_entersPosts 27 = .ok (.iaload, 1) := by decide +kernel
theorem dX11_entersPosts_28 : decode cX11_entersPosts 28 = .ok (.i2l, 1) := by decide +kernel
theorem dX11_entersPosts_29 : decode cX11_entersPosts 29 = .ok (.invokevirtual 18, 3) := by decide +kernel
theorem dX11_entersPosts_32 : decode cX11_entersPosts 32 = .ok (.iinc 2 1, 3) := by decide +kernel
theorem dX11_entersPosts_35 : decode cX11_entersPosts 35 = .ok (.goto (-22), 3) := by decide +kernel
theorem dX11_entersPosts_38 : decode cX11_entersPosts 38 = .ok (.return_, 1) := by decide +kernel
theorem dX11_trees_0 : decode cX11_trees 0 = .ok (.aload_n 0, 1) := by decide +kernel
theorem dX11_trees_1 : decode cX11_trees 1 = .ok (.iconst 0, 1) := by decide +kernel
theorem dX11_trees_2 : decode cX11_trees 2 = .ok (.putfield 3, 3) := by decide +kernel
theorem dX11_trees_5 : decode cX11_trees 5 = .ok (.iconst 0, 1) := by decide +kernel
theorem dX11_trees_6 : decode cX11_trees 6 = .ok (.istore_n 1, 1) := by decide +kernel
theorem dX11_trees_7 : decode cX11_trees 7 = .ok (.iconst 0, 1) := by decide +kernel
theorem dX11_trees_8 : decode cX11_trees 8 = .ok (.istore_n 2, 1) := by decide +kernel
theorem dX11_trees_9 : decode cX11_trees 9 = .ok (.iload_n 2, 1) := by decide +kernel
theorem dX11_trees_10 : decode cX11_trees 10 = .ok (.aload_n 0, 1) := by decide +kernel
theorem dX11_trees_11 : decode cX11_trees 11 = .ok (.invokevirtual 386, 3) := by decide +kernel
theorem dX11_trees_14 : decode cX11_trees 14 = .ok (.if_icmp .ge 20, 3) := by decide +kernel
theorem dX11_trees_17 : decode cX11_trees 17 = .ok (.iload_n 1, 1) := by decide +kernel
theorem dX11_trees_18 : decode cX11_trees 18 = .ok (.aload_n 0, 1) := by decide +kernel
theorem dX11_trees_19 : decode cX11_trees 19 = .ok (.iload_n 2, 1) := by decide +kernel
theorem dX11_trees_20 : decode cX11_trees 20 = .ok (.invokevirtual 383, 3) := by decide +kernel
theorem dX11_trees_23 : decode cX11_trees 23 = .ok (.invokestatic 151, 3) := by decide +kernel
theorem dX11_trees_26 : decode cX11_trees 26 = .ok (.iadd, 1) := by decide +kernel
theorem dX11_trees_27 : decode cX11_trees 27 = .ok (.istore_n 1, 1) := by decide +kernel
theorem dX11_trees_28 : decode cX11_trees 28 = .ok (.iinc 2 1, 3) := by decide +kernel
theorem dX11_trees_31 : decode cX11_trees 31 = .ok (.goto (-22), 3) := by decide +kernel
theorem dX11_trees_34 : decode cX11_trees 34 = .ok (.aload_n 0, 1) := by decide +kernel
theorem dX11_trees_35 : decode cX11_trees 35 = .ok (.iconst 0, 1) := by decide +kernel
theorem dX11_trees_36 : decode cX11_trees 36 = .ok (.putfield 15, 3) := by decide +kernel
theorem dX11_trees_39 : decode cX11_trees 39 = .ok (.aload_n 0, 1) := by decide +kernel
theorem dX11_trees_40 : decode cX11_trees 40 = .ok (.aload_n 0, 1) := by decide +kernel
theorem dX11_trees_41 : decode cX11_trees 41 = .ok (.invokevirtual 386, 3) := by decide +kernel
theorem dX11_trees_44 : decode cX11_trees 44 = .ok (.i2l, 1) := by decide +kernel
theorem dX11_trees_45 : decode cX11_trees 45 = .ok (.invokevirtual 18, 3) := by decide +kernel
theorem dX11_trees_48 : decode cX11_trees 48 = .ok (.iload_n 1, 1) := by decide +kernel
theorem dX11_trees_49 : decode cX11_trees 49 = .ok (.ireturn, 1) := by decide +kernel
theorem dX11_plants_0 : decode cX11_plants 0 = .ok (.aload_n 0, 1) := by decide +kernel
theorem dX11_plants_1 : decode cX11_plants 1 = .ok (.iconst 0, 1) := by decide +kernel
theorem dX11_plants_2 : decode cX11_plants 2 = .ok (.putfield 3, 3) := by decide +kernel
theorem dX11_plants_5 : decode cX11_plants 5 = .ok (.iload_n 1, 1) := by decide +kernel
theorem dX11_plants_6 : decode cX11_plants 6 = .ok (.i2l, 1) := by decide +kernel
theorem dX11_plants_7 : decode cX11_plants 7 = .ok (.lconst 0, 1) := by decide +kernel
theorem dX11_plants_8 : decode cX11_plants 8 = .ok (.ldc2_w 389, 3) := by decide +kernel
theorem dX11_plants_11 : decode cX11_plants 11 = .ok (.invokestatic 129, 3) := by decide +kernel
theorem dX11_plants_14 : decode cX11_plants 14 = .ok (.ifCond .ne 5, 3) := by decide +kernel
theorem dX11_plants_17 : decode cX11_plants 17 = .ok (.iconst (-1), 1) := by decide +kernel
theorem dX11_plants_18 : decode cX11_plants 18 = .ok (.ireturn, 1) := by decide +kernel
theorem dX11_plants_19 : decode cX11_plants 19 = .ok (.iconst 0, 1) := by decide +kernel
theorem dX11_plants_20 : decode cX11_plants 20 = .ok (.istore_n 2, 1) := by decide +kernel
theorem dX11_plants_21 : decode cX11_plants 21 = .ok (.iconst 0, 1) := by decide +kernel
theorem dX11_plants_22 : decode cX11_plants 22 = .ok (.istore_n 3, 1) := by decide +kernel
theorem dX11_plants_23 : decode cX11_plants 23 = .ok (.iload_n 3, 1) := by decide +kernel
theorem dX11_plants_24 : decode cX11_plants 24 = .ok (.aload_n 0, 1) := by decide +kernel
theorem dX11_plants_25 : decode cX11_plants 25 = .ok (.invokevirtual 386, 3) := by decide +kernel
theorem dX11_plants_28 : decode cX11_plants 28 = .ok (.if_icmp .ge 32, 3) := by decide +kernel
theorem dX11_plants_31 : decode cX11_plants 31 = .ok (.aload_n 0, 1) := by decide +kernel
theorem dX11_plants_32 : decode cX11_plants 32 = .ok (.iload_n 3, 1) := by decide +kernel
theorem dX11_plants_33 : decode cX11_plants 33 = .ok (.invokevirtual 383, 3) := by decide +kernel
theorem dX11_plants_36 : decode cX11_plants 36 = .ok (.ifCond .eq 18, 3) := by decide +kernel
theorem dX11_plants_39 : decode cX11_plants 39 = .ok (.iload_n 2, 1) := by decide +kernel
theorem dX11_plants_40 : decode cX11_plants 40 = .ok (.iload_n 1, 1) := by decide +kernel
theorem dX11_plants_41 : decode cX11_plants 41 = .ok (.if_icmp .ne 10, 3) := by decide +kernel
theorem dX11_plants_44 : decode cX11_plants 44 = .ok (.aload_n 0, 1) := by decide +kernel
theorem dX11_plants_45 : decode cX11_plants 45 = .ok (.iload_n 3, 1) := by decide +kernel
theorem dX11_plants_46 : decode cX11_plants 46 = .ok (.invokevirtual 391, 3) := by decide +kernel
theorem dX11_plants_49 : decode cX11_plants 49 = .ok (.iconst 0, 1) := by decide +kernel
theorem dX11_plants_50 : decode cX11_plants 50 = .ok (.ireturn, 1) := by decide +kernel
theorem dX11_plants_51 : decode cX11_plants 51 = .ok (.iinc 2 1, 3) := by decide +kernel
theorem dX11_plants_54 : decode cX11_plants 54 = .ok (.iinc 3 1, 3) := by decide +kernel
theorem dX11_plants_57 : decode cX11_plants 57 = .ok (.goto (-34), 3) := by decide +kernel
theorem dX11_plants_60 : decode cX11_plants 60 = .ok (.bipush (-2), 2) := by decide +kernel
theorem dX11_plants_62 : decode cX11_plants 62 = .ok (.ireturn, 1) := by decide +kernel
theorem dX11_grown_0 : decode cX11_grown 0 = .ok (.aload_n 0, 1) := by decide +kernel
theorem dX11_grown_1 : decode cX11_grown 1 = .ok (.iconst 0, 1) := by decide +kernel
theorem dX11_grown_2 : decode cX11_grown 2 = .ok (.putfield 3, 3) := by decide +kernel
theorem dX11_grown_5 : decode cX11_grown 5 = .ok (.iconst 0, 1) := by decide +kernel
theorem dX11_grown_6 : decode cX11_grown 6 = .ok (.istore_n 1, 1) := by decide +kernel
theorem dX11_grown_7 : decode cX11_grown 7 = .ok (.iconst 0, 1) := by decide +kernel
theorem dX11_grown_8 : decode cX11_grown 8 = .ok (.istore_n 2, 1) := by decide +kernel
theorem dX11_grown_9 : decode cX11_grown 9 = .ok (.iload_n 2, 1) := by decide +kernel
theorem dX11_grown_10 : decode cX11_grown 10 = .ok (.aload_n 0, 1) := by decide +kernel
theorem dX11_grown_11 : decode cX11_grown 11 = .ok (.invokevirtual 386, 3) := by decide +kernel
theorem dX11_grown_14 : decode cX11_grown 14 = .ok (.if_icmp .ge 37, 3) := by decide +kernel
theorem dX11_grown_17 : decode cX11_grown 17 = .ok (.aload_n 0, 1) := by decide +kernel
theorem dX11_grown_18 : decode cX11_grown 18 = .ok (.iload_n 2, 1) := by decide +kernel
theorem dX11_grown_19 : decode cX11_grown 19 = .ok (.invokevirtual 383, 3) := by decide +kernel
theorem dX11_grown_22 : decode cX11_grown 22 = .ok (.ifCond .eq 23, 3) := by decide +kernel
theorem dX11_grown_25 : decode cX11_grown 25 = .ok (.aload_n 0, 1) := by decide +kernel
theorem dX11_grown_26 : decode cX11_grown 26 = .ok (.aload_n 0, 1) := by decide +kernel
theorem dX11_grown_27 : decode cX11_grown 27 = .ok (.getfield 86, 3) := by decide +kernel
theorem dX11_grown_30 : decode cX11_grown 30 = .ok (.aload_n 0, 1) := by decide +kernel
theorem dX11_grown_31 : decode cX11_grown 31 = .ok (.getfield 38, 3) := by decide +kernel
theorem dX11_grown_34 : decode cX11_grown 34 = .ok (.invokevirtual 373, 3) := by decide +kernel
theorem dX11_grown_37 : decode cX11_grown 37 = .ok (.ifCond .eq 5, 3) := by decide +kernel
theorem dX11_grown_40 : decode cX11_grown 40 = .ok (.iload_n 1, 1) := by decide +kernel
theorem dX11_grown_41 : decode cX11_grown 41 = .ok (.ireturn, 1) := by decide +kernel
theorem dX11_grown_42 : decode cX11_grown 42 = .ok (.iinc 1 1, 3) := by decide +kernel
theorem dX11_grown_45 : decode cX11_grown 45 = .ok (.iinc 2 1, 3) := by decide +kernel
theorem dX11_grown_48 : decode cX11_grown 48 = .ok (.goto (-39), 3) := by decide +kernel
theorem dX11_grown_51 : decode cX11_grown 51 = .ok (.bipush (-2), 2) := by decide +kernel
theorem dX11_grown_53 : decode cX11_grown 53 = .ok (.ireturn, 1) := by decide +kernel
theorem dX11_mends_0 : decode cX11_mends 0 = .ok (.aload_n 0, 1) := by decide +kernel
theorem dX11_mends_1 : decode cX11_mends 1 = .ok (.iconst 0, 1) := by decide +kernel
theorem dX11_mends_2 : decode cX11_mends 2 = .ok (.putfield 3, 3) := by decide +kernel
theorem dX11_mends_5 : decode cX11_mends 5 = .ok (.iconst (-1), 1) := by decide +kernel
theorem dX11_mends_6 : decode cX11_mends 6 = .ok (.istore_n 1, 1) := by decide +kernel
theorem dX11_mends_7 : decode cX11_mends 7 = .ok (.ldc_w 264, 3) := by decide +kernel
theorem dX11_mends_10 : decode cX11_mends 10 = .ok (.istore_n 2, 1) := by decide +kernel
theorem dX11_mends_11 : decode cX11_mends 11 = .ok (.iconst 0, 1) := by decide +kernel
theorem dX11_mends_12 : decode cX11_mends 12 = .ok (.istore_n 3, 1) := by decide +kernel
theorem dX11_mends_13 : decode cX11_mends 13 = .ok (.iload_n 3, 1) := by decide +kernel
theorem dX11_mends_14 : decode cX11_mends 14 = .ok (.aload_n 0, 1) := by decide +kernel
theorem dX11_mends_15 : decode cX11_mends 15 = .ok (.invokevirtual 386, 3) := by decide +kernel
theorem dX11_mends_18 : decode cX11_mends 18 = .ok (.if_icmp .ge 100, 3) := by decide +kernel
theorem dX11_mends_21 : decode cX11_mends 21 = .ok (.aload_n 0, 1) := by decide +kernel
theorem dX11_mends_22 : decode cX11_mends 22 = .ok (.iload_n 3, 1) := by decide +kernel
theorem dX11_mends_23 : decode cX11_mends 23 = .ok (.invokevirtual 383, 3) := by decide +kernel
theorem dX11_mends_26 : decode cX11_mends 26 = .ok (.istore 4, 2) := by decide +kernel
theorem dX11_mends_28 : decode cX11_mends 28 = .ok (.iconst 0, 1) := by decide +kernel
theorem dX11_mends_29 : decode cX11_mends 29 = .ok (.istore 5, 2) := by decide +kernel
theorem dX11_mends_31 : decode cX11_mends 31 = .ok (.iconst 1, 1) := by decide +kernel
theorem dX11_mends_32 : decode cX11_mends 32 = .ok (.istore 6, 2) := by decide +kernel
theorem dX11_mends_34 : decode cX11_mends 34 = .ok (.iload 6, 2) := by decide +kernel
theorem dX11_mends_36 : decode cX11_mends 36 = .ok (.aload_n 0, 1) := by decide +kernel
theorem dX11_mends_37 : decode cX11_mends 37 = .ok (.getfield 28, 3) := by decide +kernel
theorem dX11_mends_40 : decode cX11_mends 40 = .ok (.if_icmp .ge 39, 3) := by decide +kernel
theorem dX11_mends_43 : decode cX11_mends 43 = .ok (.iload 5, 2) := by decide +kernel
theorem dX11_mends_45 : decode cX11_mends 45 = .ok (.aload_n 0, 1) := by decide +kernel
theorem dX11_mends_46 : decode cX11_mends 46 = .ok (.getfield 86, 3) := by decide +kernel
theorem dX11_mends_49 : decode cX11_mends 49 = .ok (.iload 6, 2) := by decide +kernel
theorem dX11_mends_51 : decode cX11_mends 51 = .ok (.iaload, 1) := by decide +kernel
theorem dX11_mends_52 : decode cX11_mends 52 = .ok (.aload_n 0, 1) := by decide +kernel
theorem dX11_mends_53 : decode cX11_mends 53 = .ok (.getfield 38, 3) := by decide +kernel
theorem dX11_mends_56 : decode cX11_mends 56 = .ok (.iload 6, 2) := by decide +kernel
theorem dX11_mends_58 : decode cX11_mends 58 = .ok (.iaload, 1) := by decide +kernel
theorem dX11_mends_59 : decode cX11_mends 59 = .ok (.if_icmp .eq 7, 3) := by decide +kernel
theorem dX11_mends_62 : decode cX11_mends 62 = .ok (.iconst 1, 1) := by decide +kernel
theorem dX11_mends_63 : decode cX11_mends 63 = .ok (.goto 4, 3) := by decide +kernel
theorem dX11_mends_66 : decode cX11_mends 66 = .ok (.iconst 0, 1) := by decide +kernel
theorem dX11_mends_67 : decode cX11_mends 67 = .ok (.invokestatic 151, 3) := by decide +kernel
theorem dX11_mends_70 : decode cX11_mends 70 = .ok (.iadd, 1) := by decide +kernel
theorem dX11_mends_71 : decode cX11_mends 71 = .ok (.istore 5, 2) := by decide +kernel
theorem dX11_mends_73 : decode cX11_mends 73 = .ok (.iinc 6 1, 3) := by decide +kernel
theorem dX11_mends_76 : decode cX11_mends 76 = .ok (.goto (-42), 3) := by decide +kernel
theorem dX11_mends_79 : decode cX11_mends 79 = .ok (.iload 4, 2) := by decide +kernel
theorem dX11_mends_81 : decode cX11_mends 81 = .ok (.ifCond .eq 13, 3) := by decide +kernel
theorem dX11_mends_84 : decode cX11_mends 84 = .ok (.iload 5, 2) := by decide +kernel
theorem dX11_mends_86 : decode cX11_mends 86 = .ok (.iload_n 2, 1) := by decide +kernel
theorem dX11_mends_87 : decode cX11_mends 87 = .ok (.if_icmp .ge 7, 3) := by decide +kernel
theorem dX11_mends_90 : decode cX11_mends 90 = .ok (.iload_n 3, 1) := by decide +kernel
theorem dX11_mends_91 : decode cX11_mends 91 = .ok (.goto 4, 3) := by decide +kernel
theorem dX11_mends_94 : decode cX11_mends 94 = .ok (.iload_n 1, 1) := by decide +kernel
theorem dX11_mends_95 : decode cX11_mends 95 = .ok (.istore_n 1, 1) := by decide +kernel
theorem dX11_mends_96 : decode cX11_mends 96 = .ok (.iload 4, 2) := by decide +kernel
theorem dX11_mends_98 : decode cX11_mends 98 = .ok (.ifCond .eq 12, 3) := by decide +kernel
theorem dX11_mends_101 : decode cX11_mends 101 = .ok (.iload_n 2, 1) := by decide +kernel
theorem dX11_mends_102 : decode cX11_mends 102 = .ok (.iload 5, 2) := by decide +kernel
theorem dX11_mends_104 : decode cX11_mends 104 = .ok (.invokestatic 142, 3) := by decide +kernel
theorem dX11_mends_107 : decode cX11_mends 107 = .ok (.goto 4, 3) := by decide +kernel
theorem dX11_mends_110 : decode cX11_mends 110 = .ok (.iload_n 2, 1) := by decide +kernel
theorem dX11_mends_111 : decode cX11_mends 111 = .ok (.istore_n 2, 1) := by decide +kernel
theorem dX11_mends_112 : decode cX11_mends 112 = .ok (.iinc 3 1, 3) := by decide +kernel
theorem dX11_mends_115 : decode cX11_mends 115 = .ok (.goto (-102), 3) := by decide +kernel
theorem dX11_mends_118 : decode cX11_mends 118 = .ok (.aload_n 0, 1) := by decide +kernel
theorem dX11_mends_119 : decode cX11_mends 119 = .ok (.iload_n 1, 1) := by decide +kernel
theorem dX11_mends_120 : decode cX11_mends 120 = .ok (.invokevirtual 391, 3) := by decide +kernel
theorem dX11_mends_123 : decode cX11_mends 123 = .ok (.iload_n 2, 1) := by decide +kernel
theorem dX11_mends_124 : decode cX11_mends 124 = .ok (.ireturn, 1) := by decide +kernel
theorem dX11_route_0 : decode cX11_route 0 = .ok (.aload_n 0, 1) := by decide +kernel
theorem dX11_route_1 : decode cX11_route 1 = .ok (.iconst 0, 1) := by decide +kernel
theorem dX11_route_2 : decode cX11_route 2 = .ok (.putfield 3, 3) := by decide +kernel
theorem dX11_route_5 : decode cX11_route 5 = .ok (.aload_n 0, 1) := by decide +kernel
theorem dX11_route_6 : decode cX11_route 6 = .ok (.iload_n 1, 1) := by decide +kernel
theorem dX11_route_7 : decode cX11_route 7 = .ok (.invokevirtual 265, 3) := by decide +kernel
theorem dX11_route_10 : decode cX11_route 10 = .ok (.ifCond .eq 11, 3) := by decide +kernel
theorem dX11_route_13 : decode cX11_route 13 = .ok (.aload_n 0, 1) := by decide +kernel
theorem dX11_route_14 : decode cX11_route 14 = .ok (.iload_n 2, 1) := by decide +kernel
theorem dX11_route_15 : decode cX11_route 15 = .ok (.invokevirtual 265, 3) := by decide +kernel
theorem dX11_route_18 : decode cX11_route 18 = .ok (.ifCond .ne 5, 3) := by decide +kernel
theorem dX11_route_21 : decode cX11_route 21 = .ok (.iconst (-1), 1) := by decide +kernel
theorem dX11_route_22 : decode cX11_route 22 = .ok (.ireturn, 1) := by decide +kernel
theorem dX11_route_23 : decode cX11_route 23 = .ok (.aload_n 0, 1) := by decide +kernel
theorem dX11_route_24 : decode cX11_route 24 = .ok (.iload_n 2, 1) := by decide +kernel
theorem dX11_route_25 : decode cX11_route 25 = .ok (.invokevirtual 273, 3) := by decide +kernel
theorem dX11_route_28 : decode cX11_route 28 = .ok (.aload_n 0, 1) := by decide +kernel
theorem dX11_route_29 : decode cX11_route 29 = .ok (.getfield 65, 3) := by decide +kernel
theorem dX11_route_32 : decode cX11_route 32 = .ok (.iload_n 1, 1) := by decide +kernel
theorem dX11_route_33 : decode cX11_route 33 = .ok (.iaload, 1) := by decide +kernel
theorem dX11_route_34 : decode cX11_route 34 = .ok (.ldc_w 264, 3) := by decide +kernel
theorem dX11_route_37 : decode cX11_route 37 = .ok (.if_icmp .lt 6, 3) := by decide +kernel
theorem dX11_route_40 : decode cX11_route 40 = .ok (.bipush (-2), 2) := by decide +kernel
theorem dX11_route_42 : decode cX11_route 42 = .ok (.ireturn, 1) := by decide +kernel
theorem dX11_route_43 : decode cX11_route 43 = .ok (.aload_n 0, 1) := by decide +kernel
theorem dX11_route_44 : decode cX11_route 44 = .ok (.iconst 0, 1) := by decide +kernel
theorem dX11_route_45 : decode cX11_route 45 = .ok (.putfield 15, 3) := by decide +kernel
theorem dX11_route_48 : decode cX11_route 48 = .ok (.iload_n 1, 1) := by decide +kernel
theorem dX11_route_49 : decode cX11_route 49 = .ok (.istore_n 3, 1) := by decide +kernel
theorem dX11_route_50 : decode cX11_route 50 = .ok (.iload_n 3, 1) := by decide +kernel
theorem dX11_route_51 : decode cX11_route 51 = .ok (.iload_n 2, 1) := by decide +kernel
theorem dX11_route_52 : decode cX11_route 52 = .ok (.if_icmp .eq 82, 3) := by decide +kernel
theorem dX11_route_55 : decode cX11_route 55 = .ok (.ldc_w 264, 3) := by decide +kernel
theorem dX11_route_58 : decode cX11_route 58 = .ok (.istore 4, 2) := by decide +kernel
theorem dX11_route_60 : decode cX11_route 60 = .ok (.iconst 0, 1) := by decide +kernel
theorem dX11_route_61 : decode cX11_route 61 = .ok (.istore 5, 2) := by decide +kernel
theorem dX11_route_63 : decode cX11_route 63 = .ok (.iload 5, 2) := by decide +kernel
theorem dX11_route_65 : decode cX11_route 65 = .ok (.aload_n 0, 1) := by decide +kernel
theorem dX11_route_66 : decode cX11_route 66 = .ok (.getfield 31, 3) := by decide +kernel
theorem dX11_route_69 : decode cX11_route 69 = .ok (.iload_n 3, 1) := by decide +kernel
theorem dX11_route_70 : decode cX11_route 70 = .ok (.iaload, 1) := by decide +kernel
theorem dX11_route_71 : decode cX11_route 71 = .ok (.if_icmp .ge 50, 3) := by decide +kernel
theorem dX11_route_74 : decode cX11_route 74 = .ok (.aload_n 0, 1) := by decide +kernel
theorem dX11_route_75 : decode cX11_route 75 = .ok (.iload_n 3, 1) := by decide +kernel
theorem dX11_route_76 : decode cX11_route 76 = .ok (.iload 5, 2) := by decide +kernel
theorem dX11_route_78 : decode cX11_route 78 = .ok (.invokevirtual 255, 3) := by decide +kernel
theorem dX11_route_81 : decode cX11_route 81 = .ok (.istore 6, 2) := by decide +kernel
theorem dX11_route_83 : decode cX11_route 83 = .ok (.aload_n 0, 1) := by decide +kernel
theorem dX11_route_84 : decode cX11_route 84 = .ok (.getfield 65, 3) := by decide +kernel
theorem dX11_route_87 : decode cX11_route 87 = .ok (.iload 6, 2) := by decide +kernel
theorem dX11_route_89 : decode cX11_route 89 = .ok (.iaload, 1) := by decide +kernel
theorem dX11_route_90 : decode cX11_route 90 = .ok (.aload_n 0, 1) := by decide +kernel
theorem dX11_route_91 : decode cX11_route 91 = .ok (.getfield 65, 3) := by decide +kernel
theorem dX11_route_94 : decode cX11_route 94 = .ok (.iload_n 3, 1) := by decide +kernel
theorem dX11_route_95 : decode cX11_route 95 = .ok (.iaload, 1) := by decide +kernel
theorem dX11_route_96 : decode cX11_route 96 = .ok (.iconst 1, 1) := by decide +kernel
theorem dX11_route_97 : decode cX11_route 97 = .ok (.isub, 1) := by decide +kernel
theorem dX11_route_98 : decode cX11_route 98 = .ok (.if_icmp .ne 13, 3) := by decide +kernel
theorem dX11_route_101 : decode cX11_route 101 = .ok (.iload 4, 2) := by decide +kernel
theorem dX11_route_103 : decode cX11_route 103 = .ok (.iload 6, 2) := by decide +kernel
theorem dX11_route_105 : decode cX11_route 105 = .ok (.invokestatic 142, 3) := by decide +kernel
theorem dX11_route_108 : decode cX11_route 108 = .ok (.goto 5, 3) := by decide +kernel
theorem dX11_route_111 : decode cX11_route 111 = .ok (.iload 4, 2) := by decide +kernel
theorem dX11_route_113 : decode cX11_route 113 = .ok (.istore 4, 2) := by decide +kernel
theorem dX11_route_115 : decode cX11_route 115 = .ok (.iinc 5 1, 3) := by decide +kernel
theorem dX11_route_118 : decode cX11_route 118 = .ok (.goto (-55), 3) := by decide +kernel
theorem dX11_route_121 : decode cX11_route 121 = .ok (.aload_n 0, 1) := by decide +kernel
theorem dX11_route_122 : decode cX11_route 122 = .ok (.iload 4, 2) := by decide +kernel
theorem dX11_route_124 : decode cX11_route 124 = .ok (.i2l, 1) := by decide +kernel
theorem dX11_route_125 : decode cX11_route 125 = .ok (.invokevirtual 18, 3) := by decide +kernel
theorem dX11_route_128 : decode cX11_route 128 = .ok (.iload 4, 2) := by decide +kernel
theorem dX11_route_130 : decode cX11_route 130 = .ok (.istore_n 3, 1) := by decide +kernel
theorem dX11_route_131 : decode cX11_route 131 = .ok (.goto (-81), 3) := by decide +kernel
theorem dX11_route_134 : decode cX11_route 134 = .ok (.aload_n 0, 1) := by decide +kernel
theorem dX11_route_135 : decode cX11_route 135 = .ok (.getfield 65, 3) := by decide +kernel
theorem dX11_route_138 : decode cX11_route 138 = .ok (.iload_n 1, 1) := by decide +kernel
theorem dX11_route_139 : decode cX11_route 139 = .ok (.iaload, 1) := by decide +kernel
theorem dX11_route_140 : decode cX11_route 140 = .ok (.ireturn, 1) := by decide +kernel
theorem dX11_comesFrom_0 : decode cX11_comesFrom 0 = .ok (.iconst 1, 1) := by decide +kernel
theorem dX11_comesFrom_1 : decode cX11_comesFrom 1 = .ok (.iload_n 1, 1) := by decide +kernel
theorem dX11_comesFrom_2 : decode cX11_comesFrom 2 = .ok (.ishl, 1) := by decide +kernel
theorem dX11_comesFrom_3 : decode cX11_comesFrom 3 = .ok (.istore_n 3, 1) := by decide +kernel
theorem dX11_comesFrom_4 : decode cX11_comesFrom 4 = .ok (.iconst 0, 1) := by decide +kernel
theorem dX11_comesFrom_5 : decode cX11_comesFrom 5 = .ok (.istore 4, 2) := by decide +kernel
theorem dX11_comesFrom_7 : decode cX11_comesFrom 7 = .ok (.iload 4, 2) := by decide +kernel
theorem dX11_comesFrom_9 : decode cX11_comesFrom 9 = .ok (.bipush 8, 2) := by decide +kernel
theorem dX11_comesFrom_11 : decode cX11_comesFrom 11 = .ok (.if_icmp .ge 86, 3) := by decide +kernel
theorem dX11_comesFrom_14 : decode cX11_comesFrom 14 = .ok (.iconst 1, 1) := by decide +kernel
theorem dX11_comesFrom_15 : decode cX11_comesFrom 15 = .ok (.istore 5, 2) := by decide +kernel
theorem dX11_comesFrom_17 : decode cX11_comesFrom 17 = .ok (.iload 5, 2) := by decide +kernel
theorem dX11_comesFrom_19 : decode cX11_comesFrom 19 = .ok (.aload_n 0, 1) := by decide +kernel
theorem dX11_comesFrom_20 : decode cX11_comesFrom 20 = .ok (.getfield 28, 3) := by decide +kernel
theorem dX11_comesFrom_23 : decode cX11_comesFrom 23 = .ok (.if_icmp .ge 68, 3) := by decide +kernel
theorem dX11_comesFrom_26 : decode cX11_comesFrom 26 = .ok (.iconst 0, 1) := by decide +kernel
theorem dX11_comesFrom_27 : decode cX11_comesFrom 27 = .ok (.istore 6, 2) := by decide +kernel
theorem dX11_comesFrom_29 : decode cX11_comesFrom 29 = .ok (.iload 6, 2) := by decide +kernel
theorem dX11_comesFrom_31 : decode cX11_comesFrom 31 = .ok (.aload_n 0, 1) := by decide +kernel
theorem dX11_comesFrom_32 : decode cX11_comesFrom 32 = .ok (.getfield 31, 3) := by decide +kernel
theorem dX11_comesFrom_35 : decode cX11_comesFrom 35 = .ok (.iload 5, 2) := by decide +kernel
theorem dX11_comesFrom_37 : decode cX11_comesFrom 37 = .ok (.iaload, 1) := by decide +kernel
theorem dX11_comesFrom_38 : decode cX11_comesFrom 38 = .ok (.if_icmp .ge 47, 3) := by decide +kernel
theorem dX11_comesFrom_41 : decode cX11_comesFrom 41 = .ok (.iload_n 3, 1) := by decide +kernel
theorem dX11_comesFrom_42 : decode cX11_comesFrom 42 = .ok (.iload 5, 2) := by decide +kernel
theorem dX11_comesFrom_44 : decode cX11_comesFrom 44 = .ok (.invokestatic 183, 3) := by decide +kernel
theorem dX11_comesFrom_47 : decode cX11_comesFrom 47 = .ok (.ifCond .eq 38, 3) := by decide +kernel
theorem dX11_comesFrom_50 : decode cX11_comesFrom 50 = .ok (.iload_n 3, 1) := by decide +kernel
theorem dX11_comesFrom_51 : decode cX11_comesFrom 51 = .ok (.aload_n 0, 1) := by decide +kernel
theorem dX11_comesFrom_52 : decode cX11_comesFrom 52 = .ok (.iload 5, 2) := by decide +kernel
theorem dX11_comesFrom_54 : decode cX11_comesFrom 54 = .ok (.iload 6, 2) := by decide +kernel
theorem dX11_comesFrom_56 : decode cX11_comesFrom 56 = .ok (.invokevirtual 255, 3) := by decide +kernel
theorem dX11_comesFrom_59 : decode cX11_comesFrom 59 = .ok (.iload_n 2, 1) := by decide +kernel
theorem dX11_comesFrom_60 : decode cX11_comesFrom 60 = .ok (.if_icmp .ne 7, 3) := by decide +kernel
theorem dX11_comesFrom_63 : decode cX11_comesFrom 63 = .ok (.iconst 0, 1) := by decide +kernel
theorem dX11_comesFrom_64 : decode cX11_comesFrom 64 = .ok (.goto 13, 3) := by decide +kernel
theorem dX11_comesFrom_67 : decode cX11_comesFrom 67 = .ok (.iconst 1, 1) := by decide +kernel
theorem dX11_comesFrom_68 : decode cX11_comesFrom 68 = .ok (.aload_n 0, 1) := by decide +kernel
theorem dX11_comesFrom_69 : decode cX11_comesFrom 69 = .ok (.iload 5, 2) := by decide +kernel
theorem dX11_comesFrom_71 : decode cX11_comesFrom 71 = .ok (.iload 6, 2) := by decide +kernel
theorem dX11_comesFrom_73 : decode cX11_comesFrom 73 = .ok (.invokevirtual 255, 3) := by decide +kernel
theorem dX11_comesFrom_76 : decode cX11_comesFrom 76 = .ok (.ishl, 1) := by decide +kernel
theorem dX11_comesFrom_77 : decode cX11_comesFrom 77 = .ok (.ior, 1) := by decide +kernel
theorem dX11_comesFrom_78 : decode cX11_comesFrom 78 = .ok (.istore_n 3, 1) := by decide +kernel
theorem dX11_comesFrom_79 : decode cX11_comesFrom 79 = .ok (.iinc 6 1, 3) := by decide +kernel
theorem dX11_comesFrom_82 : decode cX11_comesFrom 82 = .ok (.goto (-53), 3) := by decide +kernel
theorem dX11_comesFrom_85 : decode cX11_comesFrom 85 = .ok (.iinc 5 1, 3) := by decide +kernel
theorem dX11_comesFrom_88 : decode cX11_comesFrom 88 = .ok (.goto (-71), 3) := by decide +kernel
theorem dX11_comesFrom_91 : decode cX11_comesFrom 91 = .ok (.iinc 4 1, 3) := by decide +kernel
theorem dX11_comesFrom_94 : decode cX11_comesFrom 94 = .ok (.goto (-87), 3) := by decide +kernel
theorem dX11_comesFrom_97 : decode cX11_comesFrom 97 = .ok (.iload_n 3, 1) := by decide +kernel
theorem dX11_comesFrom_98 : decode cX11_comesFrom 98 = .ok (.ireturn, 1) := by decide +kernel
theorem dX11_gates_0 : decode cX11_gates 0 = .ok (.aload_n 0, 1) := by decide +kernel
theorem dX11_gates_1 : decode cX11_gates 1 = .ok (.iconst 0, 1) := by decide +kernel
theorem dX11_gates_2 : decode cX11_gates 2 = .ok (.putfield 3, 3) := by decide +kernel
theorem dX11_gates_5 : decode cX11_gates 5 = .ok (.aload_n 0, 1) := by decide +kernel
theorem dX11_gates_6 : decode cX11_gates 6 = .ok (.iload_n 1, 1) := by decide +kernel
theorem dX11_gates_7 : decode cX11_gates 7 = .ok (.invokevirtual 280, 3) := by decide +kernel
theorem dX11_gates_10 : decode cX11_gates 10 = .ok (.ifCond .ne 5, 3) := by decide +kernel
theorem dX11_gates_13 : decode cX11_gates 13 = .ok (.iconst (-1), 1) := by decide +kernel
theorem dX11_gates_14 : decode cX11_gates 14 = .ok (.ireturn, 1) := by decide +kernel
theorem dX11_gates_15 : decode cX11_gates 15 = .ok (.iconst 0, 1) := by decide +kernel
theorem dX11_gates_16 : decode cX11_gates 16 = .ok (.istore_n 2, 1) := by decide +kernel
theorem dX11_gates_17 : decode cX11_gates 17 = .ok (.iconst 1, 1) := by decide +kernel
theorem dX11_gates_18 : decode cX11_gates 18 = .ok (.istore_n 3, 1) := by decide +kernel
theorem dX11_gates_19 : decode cX11_gates 19 = .ok (.iload_n 3, 1) := by decide +kernel
theorem dX11_gates_20 : decode cX11_gates 20 = .ok (.aload_n 0, 1) := by decide +kernel
theorem dX11_gates_21 : decode cX11_gates 21 = .ok (.getfield 28, 3) := by decide +kernel
theorem dX11_gates_24 : decode cX11_gates 24 = .ok (.if_icmp .ge 37, 3) := by decide +kernel
theorem dX11_gates_27 : decode cX11_gates 27 = .ok (.iload_n 2, 1) := by decide +kernel
theorem dX11_gates_28 : decode cX11_gates 28 = .ok (.iload_n 3, 1) := by decide +kernel
theorem dX11_gates_29 : decode cX11_gates 29 = .ok (.iload_n 1, 1) := by decide +kernel
theorem dX11_gates_30 : decode cX11_gates 30 = .ok (.if_icmp .eq 22, 3) := by decide +kernel
theorem dX11_gates_33 : decode cX11_gates 33 = .ok (.aload_n 0, 1) := by decide +kernel
theorem dX11_gates_34 : decode cX11_gates 34 = .ok (.iload_n 1, 1) := by decide +kernel
theorem dX11_gates_35 : decode cX11_gates 35 = .ok (.iload_n 3, 1) := by decide +kernel
theorem dX11_gates_36 : decode cX11_gates 36 = .ok (.invokevirtual 394, 3) := by decide +kernel
theorem dX11_gates_39 : decode cX11_gates 39 = .ok (.iconst 0, 1) := by decide +kernel
theorem dX11_gates_40 : decode cX11_gates 40 = .ok (.invokestatic 183, 3) := by decide +kernel
theorem dX11_gates_43 : decode cX11_gates 43 = .ok (.ifCond .ne 9, 3) := by decide +kernel
theorem dX11_gates_46 : decode cX11_gates 46 = .ok (.iconst 1, 1) := by decide +kernel
theorem dX11_gates_47 : decode cX11_gates 47 = .ok (.iload_n 3, 1) := by decide +kernel
theorem dX11_gates_48 : decode cX11_gates 48 = .ok (.ishl, 1) := by decide +kernel
theorem dX11_gates_49 : decode cX11_gates 49 = .ok (.goto 4, 3) := by decide +kernel
theorem dX11_gates_52 : decode cX11_gates 52 = .ok (.iconst 0, 1) := by decide +kernel
theorem dX11_gates_53 : decode cX11_gates 53 = .ok (.ior, 1) := by decide +kernel
theorem dX11_gates_54 : decode cX11_gates 54 = .ok (.istore_n 2, 1) := by decide +kernel
theorem dX11_gates_55 : decode cX11_gates 55 = .ok (.iinc 3 1, 3) := by decide +kernel
theorem dX11_gates_58 : decode cX11_gates 58 = .ok (.goto (-39), 3) := by decide +kernel
theorem dX11_gates_61 : decode cX11_gates 61 = .ok (.aload_n 0, 1) := by decide +kernel
theorem dX11_gates_62 : decode cX11_gates 62 = .ok (.iconst 0, 1) := by decide +kernel
theorem dX11_gates_63 : decode cX11_gates 63 = .ok (.putfield 15, 3) := by decide +kernel
theorem dX11_gates_66 : decode cX11_gates 66 = .ok (.aload_n 0, 1) := by decide +kernel
theorem dX11_gates_67 : decode cX11_gates 67 = .ok (.iload_n 2, 1) := by decide +kernel
theorem dX11_gates_68 : decode cX11_gates 68 = .ok (.invokestatic 397, 3) := by decide +kernel
theorem dX11_gates_71 : decode cX11_gates 71 = .ok (.i2l, 1) := by decide +kernel
theorem dX11_gates_72 : decode cX11_gates 72 = .ok (.invokevirtual 18, 3) := by decide +kernel
theorem dX11_gates_75 : decode cX11_gates 75 = .ok (.iload_n 2, 1) := by decide +kernel
theorem dX11_gates_76 : decode cX11_gates 76 = .ok (.ireturn, 1) := by decide +kernel
theorem dX11_parishOf_0 : decode cX11_parishOf 0 = .ok (.iconst 0, 1) := by decide +kernel
theorem dX11_parishOf_1 : decode cX11_parishOf 1 = .ok (.istore_n 2, 1) := by decide +kernel
theorem dX11_parishOf_2 : decode cX11_parishOf 2 = .ok (.iconst 0, 1) := by decide +kernel
theorem dX11_parishOf_3 : decode cX11_parishOf 3 = .ok (.istore_n 3, 1) := by decide +kernel
theorem dX11_parishOf_4 : decode cX11_parishOf 4 = .ok (.iload_n 3, 1) := by decide +kernel
theorem dX11_parishOf_5 : decode cX11_parishOf 5 = .ok (.aload_n 0, 1) := by decide +kernel
theorem dX11_parishOf_6 : decode cX11_parishOf 6 = .ok (.getfield 28, 3) := by decide +kernel
theorem dX11_parishOf_9 : decode cX11_parishOf 9 = .ok (.if_icmp .ge 45, 3) := by decide +kernel
theorem dX11_parishOf_12 : decode cX11_parishOf 12 = .ok (.iload_n 2, 1) := by decide +kernel
theorem dX11_parishOf_13 : decode cX11_parishOf 13 = .ok (.aload_n 0, 1) := by decide +kernel
theorem dX11_parishOf_14 : decode cX11_parishOf 14 = .ok (.iload_n 1, 1) := by decide +kernel
theorem dX11_parishOf_15 : decode cX11_parishOf 15 = .ok (.iconst (-1), 1) := by decide +kernel
theorem dX11_parishOf_16 : decode cX11_parishOf 16 = .ok (.invokevirtual 394, 3) := by decide +kernel
theorem dX11_parishOf_19 : decode cX11_parishOf 19 = .ok (.iload_n 3, 1) := by decide +kernel
theorem dX11_parishOf_20 : decode cX11_parishOf 20 = .ok (.invokestatic 183, 3) := by decide +kernel
theorem dX11_parishOf_23 : decode cX11_parishOf 23 = .ok (.ifCond .eq 22, 3) := by decide +kernel
theorem dX11_parishOf_26 : decode cX11_parishOf 26 = .ok (.aload_n 0, 1) := by decide +kernel
theorem dX11_parishOf_27 : decode cX11_parishOf 27 = .ok (.iload_n 3, 1) := by decide +kernel
theorem dX11_parishOf_28 : decode cX11_parishOf 28 = .ok (.iconst (-1), 1) := by decide +kernel
theorem dX11_parishOf_29 : decode cX11_parishOf 29 = .ok (.invokevirtual 394, 3) := by decide +kernel
theorem dX11_parishOf_32 : decode cX11_parishOf 32 = .ok (.iload_n 1, 1) := by decide +kernel
theorem dX11_parishOf_33 : decode cX11_parishOf 33 = .ok (.invokestatic 183, 3) := by decide +kernel
theorem dX11_parishOf_36 : decode cX11_parishOf 36 = .ok (.ifCond .eq 9, 3) := by decide +kernel
theorem dX11_parishOf_39 : decode cX11_parishOf 39 = .ok (.iconst 1, 1) := by decide +kernel
theorem dX11_parishOf_40 : decode cX11_parishOf 40 = .ok (.iload_n 3, 1) := by decide +kernel
theorem dX11_parishOf_41 : decode cX11_parishOf 41 = .ok (.ishl, 1) := by decide +kernel
theorem dX11_parishOf_42 : decode cX11_parishOf 42 = .ok (.goto 4, 3) := by decide +kernel
theorem dX11_parishOf_45 : decode cX11_parishOf 45 = .ok (.iconst 0, 1) := by decide +kernel
theorem dX11_parishOf_46 : decode cX11_parishOf 46 = .ok (.ior, 1) := by decide +kernel
theorem dX11_parishOf_47 : decode cX11_parishOf 47 = .ok (.istore_n 2, 1) := by decide +kernel
theorem dX11_parishOf_48 : decode cX11_parishOf 48 = .ok (.iinc 3 1, 3) := by decide +kernel
theorem dX11_parishOf_51 : decode cX11_parishOf 51 = .ok (.goto (-47), 3) := by decide +kernel
theorem dX11_parishOf_54 : decode cX11_parishOf 54 = .ok (.iload_n 2, 1) := by decide +kernel
theorem dX11_parishOf_55 : decode cX11_parishOf 55 = .ok (.ireturn, 1) := by decide +kernel
theorem dX11_parish_0 : decode cX11_parish 0 = .ok (.aload_n 0, 1) := by decide +kernel
theorem dX11_parish_1 : decode cX11_parish 1 = .ok (.iconst 0, 1) := by decide +kernel
theorem dX11_parish_2 : decode cX11_parish 2 = .ok (.putfield 3, 3) := by decide +kernel
theorem dX11_parish_5 : decode cX11_parish 5 = .ok (.aload_n 0, 1) := by decide +kernel
theorem dX11_parish_6 : decode cX11_parish 6 = .ok (.iload_n 1, 1) := by decide +kernel
theorem dX11_parish_7 : decode cX11_parish 7 = .ok (.invokevirtual 265, 3) := by decide +kernel
theorem dX11_parish_10 : decode cX11_parish 10 = .ok (.ifCond .ne 5, 3) := by decide +kernel
theorem dX11_parish_13 : decode cX11_parish 13 = .ok (.iconst (-1), 1) := by decide +kernel
theorem dX11_parish_14 : decode cX11_parish 14 = .ok (.ireturn, 1) := by decide +kernel
theorem dX11_parish_15 : decode cX11_parish 15 = .ok (.iconst 0, 1) := by decide +kernel
theorem dX11_parish_16 : decode cX11_parish 16 = .ok (.istore_n 2, 1) := by decide +kernel
theorem dX11_parish_17 : decode cX11_parish 17 = .ok (.iconst 0, 1) := by decide +kernel
theorem dX11_parish_18 : decode cX11_parish 18 = .ok (.istore_n 3, 1) := by decide +kernel
theorem dX11_parish_19 : decode cX11_parish 19 = .ok (.iload_n 3, 1) := by decide +kernel
theorem dX11_parish_20 : decode cX11_parish 20 = .ok (.aload_n 0, 1) := by decide +kernel
theorem dX11_parish_21 : decode cX11_parish 21 = .ok (.getfield 28, 3) := by decide +kernel
theorem dX11_parish_24 : decode cX11_parish 24 = .ok (.if_icmp .ge 32, 3) := by decide +kernel
theorem dX11_parish_27 : decode cX11_parish 27 = .ok (.iload_n 2, 1) := by decide +kernel
theorem dX11_parish_28 : decode cX11_parish 28 = .ok (.aload_n 0, 1) := by decide +kernel
theorem dX11_parish_29 : decode cX11_parish 29 = .ok (.iload_n 3, 1) := by decide +kernel
theorem dX11_parish_30 : decode cX11_parish 30 = .ok (.invokevirtual 402, 3) := by decide +kernel
theorem dX11_parish_33 : decode cX11_parish 33 = .ok (.invokestatic 405, 3) := by decide +kernel
theorem dX11_parish_36 : decode cX11_parish 36 = .ok (.iload_n 3, 1) := by decide +kernel
theorem dX11_parish_37 : decode cX11_parish 37 = .ok (.if_icmp .ne 7, 3) := by decide +kernel
theorem dX11_parish_40 : decode cX11_parish 40 = .ok (.iconst 1, 1) := by decide +kernel
theorem dX11_parish_41 : decode cX11_parish 41 = .ok (.goto 4, 3) := by decide +kernel
theorem dX11_parish_44 : decode cX11_parish 44 = .ok (.iconst 0, 1) := by decide +kernel
theorem dX11_parish_45 : decode cX11_parish 45 = .ok (.invokestatic 151, 3) := by decide +kernel
theorem dX11_parish_48 : decode cX11_parish 48 = .ok (.iadd, 1) := by decide +kernel
theorem dX11_parish_49 : decode cX11_parish 49 = .ok (.istore_n 2, 1) := by decide +kernel
theorem dX11_parish_50 : decode cX11_parish 50 = .ok (.iinc 3 1, 3) := by decide +kernel
theorem dX11_parish_53 : decode cX11_parish 53 = .ok (.goto (-34), 3) := by decide +kernel
theorem dX11_parish_56 : decode cX11_parish 56 = .ok (.aload_n 0, 1) := by decide +kernel
theorem dX11_parish_57 : decode cX11_parish 57 = .ok (.iconst 0, 1) := by decide +kernel
theorem dX11_parish_58 : decode cX11_parish 58 = .ok (.putfield 15, 3) := by decide +kernel
theorem dX11_parish_61 : decode cX11_parish 61 = .ok (.aload_n 0, 1) := by decide +kernel
theorem dX11_parish_62 : decode cX11_parish 62 = .ok (.iload_n 2, 1) := by decide +kernel
theorem dX11_parish_63 : decode cX11_parish 63 = .ok (.i2l, 1) := by decide +kernel
theorem dX11_parish_64 : decode cX11_parish 64 = .ok (.invokevirtual 18, 3) := by decide +kernel
theorem dX11_parish_67 : decode cX11_parish 67 = .ok (.aload_n 0, 1) := by decide +kernel
theorem dX11_parish_68 : decode cX11_parish 68 = .ok (.iload_n 1, 1) := by decide +kernel
theorem dX11_parish_69 : decode cX11_parish 69 = .ok (.invokevirtual 402, 3) := by decide +kernel
theorem dX11_parish_72 : decode cX11_parish 72 = .ok (.ireturn, 1) := by decide +kernel
theorem dX11_cellOf_0 : decode cX11_cellOf 0 = .ok (.bipush 8, 2) := by decide +kernel
theorem dX11_cellOf_2 : decode cX11_cellOf 2 = .ok (.iload_n 0, 1) := by decide +kernel
theorem dX11_cellOf_3 : decode cX11_cellOf 3 = .ok (.imul, 1) := by decide +kernel
theorem dX11_cellOf_4 : decode cX11_cellOf 4 = .ok (.iload_n 1, 1) := by decide +kernel
theorem dX11_cellOf_5 : decode cX11_cellOf 5 = .ok (.iadd, 1) := by decide +kernel
theorem dX11_cellOf_6 : decode cX11_cellOf 6 = .ok (.ireturn, 1) := by decide +kernel
theorem dX11_laysMatrix_0 : decode cX11_laysMatrix 0 = .ok (.iconst 0, 1) := by decide +kernel
theorem dX11_laysMatrix_1 : decode cX11_laysMatrix 1 = .ok (.istore_n 2, 1) := by decide +kernel
theorem dX11_laysMatrix_2 : decode cX11_laysMatrix 2 = .ok (.iload_n 2, 1) := by decide +kernel
theorem dX11_laysMatrix_3 : decode cX11_laysMatrix 3 = .ok (.bipush 8, 2) := by decide +kernel
theorem dX11_laysMatrix_5 : decode cX11_laysMatrix 5 = .ok (.if_icmp .ge 47, 3) := by decide +kernel
theorem dX11_laysMatrix_8 : decode cX11_laysMatrix 8 = .ok (.iconst 0, 1) := by decide +kernel
theorem dX11_laysMatrix_9 : decode cX11_laysMatrix 9 = .ok (.istore_n 3, 1) := by decide +kernel
theorem dX11_laysMatrix_10 : decode cX11_laysMatrix 10 = .ok (.iload_n 3, 1) := by decide +kernel
theorem dX11_laysMatrix_11 : decode cX11_laysMatrix 11 = .ok (.bipush 8, 2) := by decide +kernel
theorem dX11_laysMatrix_13 : decode cX11_laysMatrix 13 = .ok (.if_icmp .ge 33, 3) := by decide +kernel
theorem dX11_laysMatrix_16 : decode cX11_laysMatrix 16 = .ok (.aload_n 0, 1) := by decide +kernel
theorem dX11_laysMatrix_17 : decode cX11_laysMatrix 17 = .ok (.getfield 89, 3) := by decide +kernel
theorem dX11_laysMatrix_20 : decode cX11_laysMatrix 20 = .ok (.iload_n 2, 1) := by decide +kernel
theorem dX11_laysMatrix_21 : decode cX11_laysMatrix 21 = .ok (.iload_n 3, 1) := by decide +kernel
theorem dX11_laysMatrix_22 : decode cX11_laysMatrix 22 = .ok (.invokestatic 408, 3) := by decide +kernel
theorem dX11_laysMatrix_25 : decode cX11_laysMatrix 25 = .ok (.iload_n 2, 1) := by decide +kernel
theorem dX11_laysMatrix_26 : decode cX11_laysMatrix 26 = .ok (.iload_n 3, 1) := by decide +kernel
theorem dX11_laysMatrix_27 : decode cX11_laysMatrix 27 = .ok (.if_icmp .ne 7, 3) := by decide +kernel
theorem dX11_laysMatrix_30 : decode cX11_laysMatrix 30 = .ok (.iconst 1, 1) := by decide +kernel
theorem dX11_laysMatrix_31 : decode cX11_laysMatrix 31 = .ok (.goto 4, 3) := by decide +kernel
theorem dX11_laysMatrix_34 : decode cX11_laysMatrix 34 = .ok (.iconst 0, 1) := by decide +kernel
theorem dX11_laysMatrix_35 : decode cX11_laysMatrix 35 = .ok (.invokestatic 151, 3) := by decide +kernel
theorem dX11_laysMatrix_38 : decode cX11_laysMatrix 38 = .ok (.i2l, 1) := by decide +kernel
theorem dX11_laysMatrix_39 : decode cX11_laysMatrix 39 = .ok (.lastore, 1) := by decide +kernel
theorem dX11_laysMatrix_40 : decode cX11_laysMatrix 40 = .ok (.iinc 3 1, 3) := by decide +kernel
theorem dX11_laysMatrix_43 : decode cX11_laysMatrix 43 = .ok (.goto (-33), 3) := by decide +kernel
theorem dX11_laysMatrix_46 : decode cX11_laysMatrix 46 = .ok (.iinc 2 1, 3) := by decide +kernel
theorem dX11_laysMatrix_49 : decode cX11_laysMatrix 49 = .ok (.goto (-47), 3) := by decide +kernel
theorem dX11_laysMatrix_52 : decode cX11_laysMatrix 52 = .ok (.iconst 1, 1) := by decide +kernel
theorem dX11_laysMatrix_53 : decode cX11_laysMatrix 53 = .ok (.istore_n 2, 1) := by decide +kernel
theorem dX11_laysMatrix_54 : decode cX11_laysMatrix 54 = .ok (.iload_n 2, 1) := by decide +kernel
theorem dX11_laysMatrix_55 : decode cX11_laysMatrix 55 = .ok (.aload_n 0, 1) := by decide +kernel
theorem dX11_laysMatrix_56 : decode cX11_laysMatrix 56 = .ok (.getfield 28, 3) := by decide +kernel
theorem dX11_laysMatrix_59 : decode cX11_laysMatrix 59 = .ok (.if_icmp .ge 91, 3) := by decide +kernel
theorem dX11_laysMatrix_62 : decode cX11_laysMatrix 62 = .ok (.iload_n 2, 1) := by decide +kernel
theorem dX11_laysMatrix_63 : decode cX11_laysMatrix 63 = .ok (.iload_n 1, 1) := by decide +kernel
theorem dX11_laysMatrix_64 : decode cX11_laysMatrix 64 = .ok (.if_icmp .eq 80, 3) := by decide +kernel
theorem dX11_laysMatrix_67 : decode cX11_laysMatrix 67 = .ok (.aload_n 0, 1) := by decide +kernel
theorem dX11_laysMatrix_68 : decode cX11_laysMatrix 68 = .ok (.getfield 89, 3) := by decide +kernel
theorem dX11_laysMatrix_71 : decode cX11_laysMatrix 71 = .ok (.iload_n 2, 1) := by decide +kernel
theorem dX11_laysMatrix_72 : decode cX11_laysMatrix 72 = .ok (.iload_n 2, 1) := by decide +kernel
theorem dX11_laysMatrix_73 : decode cX11_laysMatrix 73 = .ok (.invokestatic 408, 3) := by decide +kernel
theorem dX11_laysMatrix_76 : decode cX11_laysMatrix 76 = .ok (.aload_n 0, 1) := by decide +kernel
theorem dX11_laysMatrix_77 : decode cX11_laysMatrix 77 = .ok (.getfield 31, 3) := by decide +kernel
theorem dX11_laysMatrix_80 : decode cX11_laysMatrix 80 = .ok (.iload_n 2, 1) := by decide +kernel
theorem dX11_laysMatrix_81 : decode cX11_laysMatrix 81 = .ok (.iaload, 1) := by decide +kernel
theorem dX11_laysMatrix_82 : decode cX11_laysMatrix 82 = .ok (.i2l, 1) := by decide +kernel
theorem dX11_laysMatrix_83 : decode cX11_laysMatrix 83 = .ok (.lastore, 1) := by decide +kernel
theorem dX11_laysMatrix_84 : decode cX11_laysMatrix 84 = .ok (.iconst 0, 1) := by decide +kernel
theorem dX11_laysMatrix_85 : decode cX11_laysMatrix 85 = .ok (.istore_n 3, 1) := by decide +kernel
theorem dX11_laysMatrix_86 : decode cX11_laysMatrix 86 = .ok (.iload_n 3, 1) := by decide +kernel
theorem dX11_laysMatrix_87 : decode cX11_laysMatrix 87 = .ok (.aload_n 0, 1) := by decide +kernel
theorem dX11_laysMatrix_88 : decode cX11_laysMatrix 88 = .ok (.getfield 31, 3) := by decide +kernel
theorem dX11_laysMatrix_91 : decode cX11_laysMatrix 91 = .ok (.iload_n 2, 1) := by decide +kernel
theorem dX11_laysMatrix_92 : decode cX11_laysMatrix 92 = .ok (.iaload, 1) := by decide +kernel
theorem dX11_laysMatrix_93 : decode cX11_laysMatrix 93 = .ok (.if_icmp .ge 51, 3) := by decide +kernel
theorem dX11_laysMatrix_96 : decode cX11_laysMatrix 96 = .ok (.aload_n 0, 1) := by decide +kernel
theorem dX11_laysMatrix_97 : decode cX11_laysMatrix 97 = .ok (.iload_n 2, 1) := by decide +kernel
theorem dX11_laysMatrix_98 : decode cX11_laysMatrix 98 = .ok (.iload_n 3, 1) := by decide +kernel
theorem dX11_laysMatrix_99 : decode cX11_laysMatrix 99 = .ok (.invokevirtual 255, 3) := by decide +kernel
theorem dX11_laysMatrix_102 : decode cX11_laysMatrix 102 = .ok (.istore 4, 2) := by decide +kernel
theorem dX11_laysMatrix_104 : decode cX11_laysMatrix 104 = .ok (.aload_n 0, 1) := by decide +kernel
theorem dX11_laysMatrix_105 : decode cX11_laysMatrix 105 = .ok (.getfield 89, 3) := by decide +kernel
theorem dX11_laysMatrix_108 : decode cX11_laysMatrix 108 = .ok (.iload_n 2, 1) := by decide +kernel
theorem dX11_laysMatrix_109 : decode cX11_laysMatrix 109 = .ok (.iload 4, 2) := by decide +kernel
theorem dX11_laysMatrix_111 : decode cX11_laysMatrix 111 = .ok (.invokestatic 408, 3) := by decide +kernel
theorem dX11_laysMatrix_114 : decode cX11_laysMatrix 114 = .ok (.dup2, 1) := by decide +kernel
theorem dX11_laysMatrix_115 : decode cX11_laysMatrix 115 = .ok (.laload, 1) := by decide +kernel
theorem dX11_laysMatrix_116 : decode cX11_laysMatrix 116 = .ok (.iload 4, 2) := by decide +kernel
theorem dX11_laysMatrix_118 : decode cX11_laysMatrix 118 = .ok (.ifCond .le 13, 3) := by decide +kernel
theorem dX11_laysMatrix_121 : decode cX11_laysMatrix 121 = .ok (.iload 4, 2) := by decide +kernel
theorem dX11_laysMatrix_123 : decode cX11_laysMatrix 123 = .ok (.iload_n 1, 1) := by decide +kernel
theorem dX11_laysMatrix_124 : decode cX11_laysMatrix 124 = .ok (.if_icmp .eq 7, 3) := by decide +kernel
theorem dX11_laysMatrix_127 : decode cX11_laysMatrix 127 = .ok (.iconst 1, 1) := by decide +kernel
theorem dX11_laysMatrix_128 : decode cX11_laysMatrix 128 = .ok (.goto 4, 3) := by decide +kernel
theorem dX11_laysMatrix_131 : decode cX11_laysMatrix 131 = .ok (.iconst 0, 1) := by decide +kernel
theorem dX11_laysMatrix_132 : decode cX11_laysMatrix 132 = .ok (.invokestatic 151, 3) := by decide +kernel
theorem dX11_laysMatrix_135 : decode cX11_laysMatrix 135 = .ok (.i2l, 1) := by decide +kernel
theorem dX11_laysMatrix_136 : decode cX11_laysMatrix 136 = .ok (.lsub, 1) := by decide +kernel
theorem dX11_laysMatrix_137 : decode cX11_laysMatrix 137 = .ok (.lastore, 1) := by decide +kernel
theorem dX11_laysMatrix_138 : decode cX11_laysMatrix 138 = .ok (.iinc 3 1, 3) := by decide +kernel
theorem dX11_laysMatrix_141 : decode cX11_laysMatrix 141 = .ok (.goto (-55), 3) := by decide +kernel
theorem dX11_laysMatrix_144 : decode cX11_laysMatrix 144 = .ok (.iinc 2 1, 3) := by decide +kernel
theorem dX11_laysMatrix_147 : decode cX11_laysMatrix 147 = .ok (.goto (-93), 3) := by decide +kernel
theorem dX11_laysMatrix_150 : decode cX11_laysMatrix 150 = .ok (.return_, 1) := by decide +kernel
theorem dX11_swapsUp_0 : decode cX11_swapsUp 0 = .ok (.iload_n 1, 1) := by decide +kernel
theorem dX11_swapsUp_1 : decode cX11_swapsUp 1 = .ok (.istore_n 2, 1) := by decide +kernel
theorem dX11_swapsUp_2 : decode cX11_swapsUp 2 = .ok (.iload_n 2, 1) := by decide +kernel
theorem dX11_swapsUp_3 : decode cX11_swapsUp 3 = .ok (.bipush 8, 2) := by decide +kernel
theorem dX11_swapsUp_5 : decode cX11_swapsUp 5 = .ok (.if_icmp .ge 24, 3) := by decide +kernel
theorem dX11_swapsUp_8 : decode cX11_swapsUp 8 = .ok (.aload_n 0, 1) := by decide +kernel
theorem dX11_swapsUp_9 : decode cX11_swapsUp 9 = .ok (.getfield 89, 3) := by decide +kernel
theorem dX11_swapsUp_12 : decode cX11_swapsUp 12 = .ok (.iload_n 2, 1) := by decide +kernel
theorem dX11_swapsUp_13 : decode cX11_swapsUp 13 = .ok (.iload_n 1, 1) := by decide +kernel
theorem dX11_swapsUp_14 : decode cX11_swapsUp 14 = .ok (.invokestatic 408, 3) := by decide +kernel
theorem dX11_swapsUp_17 : decode cX11_swapsUp 17 = .ok (.laload, 1) := by decide +kernel
theorem dX11_swapsUp_18 : decode cX11_swapsUp 18 = .ok (.lconst 0, 1) := by decide +kernel
theorem dX11_swapsUp_19 : decode cX11_swapsUp 19 = .ok (.lcmp, 1) := by decide +kernel
theorem dX11_swapsUp_20 : decode cX11_swapsUp 20 = .ok (.ifCond .ne 9, 3) := by decide +kernel
theorem dX11_swapsUp_23 : decode cX11_swapsUp 23 = .ok (.iinc 2 1, 3) := by decide +kernel
theorem dX11_swapsUp_26 : decode cX11_swapsUp 26 = .ok (.goto (-24), 3) := by decide +kernel
theorem dX11_swapsUp_29 : decode cX11_swapsUp 29 = .ok (.iload_n 2, 1) := by decide +kernel
theorem dX11_swapsUp_30 : decode cX11_swapsUp 30 = .ok (.bipush 8, 2) := by decide +kernel
theorem dX11_swapsUp_32 : decode cX11_swapsUp 32 = .ok (.if_icmp .ne 5, 3) := by decide +kernel
theorem dX11_swapsUp_35 : decode cX11_swapsUp 35 = .ok (.iconst 0, 1) := by decide +kernel
theorem dX11_swapsUp_36 : decode cX11_swapsUp 36 = .ok (.ireturn, 1) := by decide +kernel
theorem dX11_swapsUp_37 : decode cX11_swapsUp 37 = .ok (.iconst 0, 1) := by decide +kernel
theorem dX11_swapsUp_38 : decode cX11_swapsUp 38 = .ok (.istore_n 3, 1) := by decide +kernel
theorem dX11_swapsUp_39 : decode cX11_swapsUp 39 = .ok (.iload_n 3, 1) := by decide +kernel
theorem dX11_swapsUp_40 : decode cX11_swapsUp 40 = .ok (.bipush 8, 2) := by decide +kernel
theorem dX11_swapsUp_42 : decode cX11_swapsUp 42 = .ok (.if_icmp .ge 58, 3) := by decide +kernel
theorem dX11_swapsUp_45 : decode cX11_swapsUp 45 = .ok (.iload_n 2, 1) := by decide +kernel
theorem dX11_swapsUp_46 : decode cX11_swapsUp 46 = .ok (.iload_n 1, 1) := by decide +kernel
theorem dX11_swapsUp_47 : decode cX11_swapsUp 47 = .ok (.if_icmp .eq 53, 3) := by decide +kernel
theorem dX11_swapsUp_50 : decode cX11_swapsUp 50 = .ok (.aload_n 0, 1) := by decide +kernel
theorem dX11_swapsUp_51 : decode cX11_swapsUp 51 = .ok (.getfield 89, 3) := by decide +kernel
theorem dX11_swapsUp_54 : decode cX11_swapsUp 54 = .ok (.iload_n 1, 1) := by decide +kernel
theorem dX11_swapsUp_55 : decode cX11_swapsUp 55 = .ok (.iload_n 3, 1) := by decide +kernel
theorem dX11_swapsUp_56 : decode cX11_swapsUp 56 = .ok (.invokestatic 408, 3) := by decide +kernel
theorem dX11_swapsUp_59 : decode cX11_swapsUp 59 = .ok (.laload, 1) := by decide +kernel
theorem dX11_swapsUp_60 : decode cX11_swapsUp 60 = .ok (.lstore 4, 2) := by decide +kernel
theorem dX11_swapsUp_62 : decode cX11_swapsUp 62 = .ok (.aload_n 0, 1) := by decide +kernel
theorem dX11_swapsUp_63 : decode cX11_swapsUp 63 = .ok (.getfield 89, 3) := by decide +kernel
theorem dX11_swapsUp_66 : decode cX11_swapsUp 66 = .ok (.iload_n 1, 1) := by decide +kernel
theorem dX11_swapsUp_67 : decode cX11_swapsUp 67 = .ok (.iload_n 3, 1) := by decide +kernel
theorem dX11_swapsUp_68 : decode cX11_swapsUp 68 = .ok (.invokestatic 408, 3) := by decide +kernel
theorem dX11_swapsUp_71 : decode cX11_swapsUp 71 = .ok (.aload_n 0, 1) := by decide +kernel
theorem dX11_swapsUp_72 : decode cX11_swapsUp 72 = .ok (.getfield 89, 3) := by decide +kernel
theorem dX11_swapsUp_75 : decode cX11_swapsUp 75 = .ok (.iload_n 2, 1) := by decide +kernel
theorem dX11_swapsUp_76 : decode cX11_swapsUp 76 = .ok (.iload_n 3, 1) := by decide +kernel
theorem dX11_swapsUp_77 : decode cX11_swapsUp 77 = .ok (.invokestatic 408, 3) := by decide +kernel
theorem dX11_swapsUp_80 : decode cX11_swapsUp 80 = .ok (.laload, 1) := by decide +kernel
theorem dX11_swapsUp_81 : decode cX11_swapsUp 81 = .ok (.lastore, 1) := by decide +kernel
theorem dX11_swapsUp_82 : decode cX11_swapsUp 82 = .ok (.aload_n 0, 1) := by decide +kernel
theorem dX11_swapsUp_83 : decode cX11_swapsUp 83 = .ok (.getfield 89, 3) := by decide +kernel
theorem dX11_swapsUp_86 : decode cX11_swapsUp 86 = .ok (.iload_n 2, 1) := by decide +kernel
theorem dX11_swapsUp_87 : decode cX11_swapsUp 87 = .ok (.iload_n 3, 1) := by decide +kernel
theorem dX11_swapsUp_88 : decode cX11_swapsUp 88 = .ok (.invokestatic 408, 3) := by decide +kernel
theorem dX11_swapsUp_91 : decode cX11_swapsUp 91 = .ok (.lload 4, 2) := by decide +kernel
theorem dX11_swapsUp_93 : decode cX11_swapsUp 93 = .ok (.lastore, 1) := by decide +kernel
theorem dX11_swapsUp_94 : decode cX11_swapsUp 94 = .ok (.iinc 3 1, 3) := by decide +kernel
theorem dX11_swapsUp_97 : decode cX11_swapsUp 97 = .ok (.goto (-58), 3) := by decide +kernel
theorem dX11_swapsUp_100 : decode cX11_swapsUp 100 = .ok (.aload_n 0, 1) := by decide +kernel
theorem dX11_swapsUp_101 : decode cX11_swapsUp 101 = .ok (.dup, 1) := by decide +kernel
theorem dX11_swapsUp_102 : decode cX11_swapsUp 102 = .ok (.getfield 411, 3) := by decide +kernel
theorem dX11_swapsUp_105 : decode cX11_swapsUp 105 = .ok (.iload_n 2, 1) := by decide +kernel
theorem dX11_swapsUp_106 : decode cX11_swapsUp 106 = .ok (.iload_n 1, 1) := by decide +kernel
theorem dX11_swapsUp_107 : decode cX11_swapsUp 107 = .ok (.if_icmp .ne 7, 3) := by decide +kernel
theorem dX11_swapsUp_110 : decode cX11_swapsUp 110 = .ok (.iconst 1, 1) := by decide +kernel
theorem dX11_swapsUp_111 : decode cX11_swapsUp 111 = .ok (.goto 4, 3) := by decide +kernel
theorem dX11_swapsUp_114 : decode cX11_swapsUp 114 = .ok (.iconst (-1), 1) := by decide +kernel
theorem dX11_swapsUp_115 : decode cX11_swapsUp 115 = .ok (.imul, 1) := by decide +kernel
theorem dX11_swapsUp_116 : decode cX11_swapsUp 116 = .ok (.putfield 411, 3) := by decide +kernel
theorem dX11_swapsUp_119 : decode cX11_swapsUp 119 = .ok (.iconst 1, 1) := by decide +kernel
theorem dX11_swapsUp_120 : decode cX11_swapsUp 120 = .ok (.ireturn, 1) := by decide +kernel
theorem dX11_determinant_0 : decode cX11_determinant 0 = .ok (.lconst 1, 1) := by decide +kernel
theorem dX11_determinant_1 : decode cX11_determinant 1 = .ok (.lstore_n 1, 1) := by decide +kernel
theorem dX11_determinant_2 : decode cX11_determinant 2 = .ok (.aload_n 0, 1) := by decide +kernel
theorem dX11_determinant_3 : decode cX11_determinant 3 = .ok (.iconst 1, 1) := by decide +kernel
theorem dX11_determinant_4 : decode cX11_determinant 4 = .ok (.putfield 411, 3) := by decide +kernel
theorem dX11_determinant_7 : decode cX11_determinant 7 = .ok (.iconst 0, 1) := by decide +kernel
theorem dX11_determinant_8 : decode cX11_determinant 8 = .ok (.istore_n 3, 1) := by decide +kernel
theorem dX11_determinant_9 : decode cX11_determinant 9 = .ok (.iload_n 3, 1) := by decide +kernel
theorem dX11_determinant_10 : decode cX11_determinant 10 = .ok (.bipush 7, 2) := by decide +kernel
theorem dX11_determinant_12 : decode cX11_determinant 12 = .ok (.if_icmp .ge 123, 3) := by decide +kernel
theorem dX11_determinant_15 : decode cX11_determinant 15 = .ok (.aload_n 0, 1) := by decide +kernel
theorem dX11_determinant_16 : decode cX11_determinant 16 = .ok (.iload_n 3, 1) := by decide +kernel
theorem dX11_determinant_17 : decode cX11_determinant 17 = .ok (.invokevirtual 414, 3) := by decide +kernel
theorem dX11_determinant_20 : decode cX11_determinant 20 = .ok (.ifCond .ne 5, 3) := by decide +kernel
theorem dX11_determinant_23 : decode cX11_determinant 23 = .ok (.lconst 0, 1) := by decide +kernel
theorem dX11_determinant_24 : decode cX11_determinant 24 = .ok (.lreturn, 1) := by decide +kernel
theorem dX11_determinant_25 : decode cX11_determinant 25 = .ok (.aload_n 0, 1) := by decide +kernel
theorem dX11_determinant_26 : decode cX11_determinant 26 = .ok (.getfield 89, 3) := by decide +kernel
theorem dX11_determinant_29 : decode cX11_determinant 29 = .ok (.iload_n 3, 1) := by decide +kernel
theorem dX11_determinant_30 : decode cX11_determinant 30 = .ok (.iload_n 3, 1) := by decide +kernel
theorem dX11_determinant_31 : decode cX11_determinant 31 = .ok (.invokestatic 408, 3) := by decide +kernel
theorem dX11_determinant_34 : decode cX11_determinant 34 = .ok (.laload, 1) := by decide +kernel
theorem dX11_determinant_35 : decode cX11_determinant 35 = .ok (.lstore 4, 2) := by decide +kernel
theorem dX11_determinant_37 : decode cX11_determinant 37 = .ok (.iload_n 3, 1) := by decide +kernel
theorem dX11_determinant_38 : decode cX11_determinant 38 = .ok (.iconst 1, 1) := by decide +kernel
theorem dX11_determinant_39 : decode cX11_determinant 39 = .ok (.iadd, 1) := by decide +kernel
theorem dX11_determinant_40 : decode cX11_determinant 40 = .ok (.istore 6, 2) := by decide +kernel
theorem dX11_determinant_42 : decode cX11_determinant 42 = .ok (.iload 6, 2) := by decide +kernel
theorem dX11_determinant_44 : decode cX11_determinant 44 = .ok (.bipush 8, 2) := by decide +kernel
theorem dX11_determinant_46 : decode cX11_determinant 46 = .ok (.if_icmp .ge 80, 3) := by decide +kernel
theorem dX11_determinant_49 : decode cX11_determinant 49 = .ok (.iload_n 3, 1) := by decide +kernel
theorem dX11_determinant_50 : decode cX11_determinant 50 = .ok (.iconst 1, 1) := by decide +kernel
theorem dX11_determinant_51 : decode cX11_determinant 51 = .ok (.iadd, 1) := by decide +kernel
theorem dX11_determinant_52 : decode cX11_determinant 52 = .ok (.istore 7, 2) := by decide +kernel
theorem dX11_determinant_54 : decode cX11_determinant 54 = .ok (.iload 7, 2) := by decide +kernel
theorem dX11_determinant_56 : decode cX11_determinant 56 = .ok (.bipush 8, 2) := by decide +kernel
theorem dX11_determinant_58 : decode cX11_determinant 58 = .ok (.if_icmp .ge 62, 3) := by decide +kernel
theorem dX11_determinant_61 : decode cX11_determinant 61 = .ok (.aload_n 0, 1) := by decide +kernel
theorem dX11_determinant_62 : decode cX11_determinant 62 = .ok (.getfield 89, 3) := by decide +kernel
theorem dX11_determinant_65 : decode cX11_determinant 65 = .ok (.iload 6, 2) := by decide +kernel
theorem dX11_determinant_67 : decode cX11_determinant 67 = .ok (.iload 7, 2) := by decide +kernel
theorem dX11_determinant_69 : decode cX11_determinant 69 = .ok (.invokestatic 408, 3) := by decide +kernel
theorem dX11_determinant_72 : decode cX11_determinant 72 = .ok (.aload_n 0, 1) := by decide +kernel
theorem dX11_determinant_73 : decode cX11_determinant 73 = .ok (.getfield 89, 3) := by decide +kernel
theorem dX11_determinant_76 : decode cX11_determinant 76 = .ok (.iload 6, 2) := by decide +kernel
theorem dX11_determinant_78 : decode cX11_determinant 78 = .ok (.iload 7, 2) := by decide +kernel
theorem dX11_determinant_80 : decode cX11_determinant 80 = .ok (.invokestatic 408, 3) := by decide +kernel
theorem dX11_determinant_83 : decode cX11_determinant 83 = .ok (.laload, 1) := by decide +kernel
theorem dX11_determinant_84 : decode cX11_determinant 84 = .ok (.lload 4, 2) := by decide +kernel
theorem dX11_determinant_86 : decode cX11_determinant 86 = .ok (.lmul, 1) := by decide +kernel
theorem dX11_determinant_87 : decode cX11_determinant 87 = .ok (.aload_n 0, 1) := by decide +kernel
theorem dX11_determinant_88 : decode cX11_determinant 88 = .ok (.getfield 89, 3) := by decide +kernel
theorem dX11_determinant_91 : decode cX11_determinant 91 = .ok (.iload 6, 2) := by decide +kernel
theorem dX11_determinant_93 : decode cX11_determinant 93 = .ok (.iload_n 3, 1) := by decide +kernel
theorem dX11_determinant_94 : decode cX11_determinant 94 = .ok (.invokestatic 408, 3) := by decide +kernel
theorem dX11_determinant_97 : decode cX11_determinant 97 = .ok (.laload, 1) := by decide +kernel
theorem dX11_determinant_98 : decode cX11_determinant 98 = .ok (.aload_n 0, 1) := by decide +kernel
theorem dX11_determinant_99 : decode cX11_determinant 99 = .ok (.getfield 89, 3) := by decide +kernel
theorem dX11_determinant_102 : decode cX11_determinant 102 = .ok (.iload_n 3, 1) := by decide +kernel
theorem dX11_determinant_103 : decode cX11_determinant 103 = .ok (.iload 7, 2) := by decide +kernel
theorem dX11_determinant_105 : decode cX11_determinant 105 = .ok (.invokestatic 408, 3) := by decide +kernel
theorem dX11_determinant_108 : decode cX11_determinant 108 = .ok (.laload, 1) := by decide +kernel
theorem dX11_determinant_109 : decode cX11_determinant 109 = .ok (.lmul, 1) := by decide +kernel
theorem dX11_determinant_110 : decode cX11_determinant 110 = .ok (.lsub, 1) := by decide +kernel
theorem dX11_determinant_111 : decode cX11_determinant 111 = .ok (.lload_n 1, 1) := by decide +kernel
theorem dX11_determinant_112 : decode cX11_determinant 112 = .ok (.ldiv, 1) := by decide +kernel
theorem dX11_determinant_113 : decode cX11_determinant 113 = .ok (.lastore, 1) := by decide +kernel
theorem dX11_determinant_114 : decode cX11_determinant 114 = .ok (.iinc 7 1, 3) := by decide +kernel
theorem dX11_determinant_117 : decode cX11_determinant 117 = .ok (.goto (-63), 3) := by decide +kernel
theorem dX11_determinant_120 : decode cX11_determinant 120 = .ok (.iinc 6 1, 3) := by decide +kernel
theorem dX11_determinant_123 : decode cX11_determinant 123 = .ok (.goto (-81), 3) := by decide +kernel
theorem dX11_determinant_126 : decode cX11_determinant 126 = .ok (.lload 4, 2) := by decide +kernel
theorem dX11_determinant_128 : decode cX11_determinant 128 = .ok (.lstore_n 1, 1) := by decide +kernel
theorem dX11_determinant_129 : decode cX11_determinant 129 = .ok (.iinc 3 1, 3) := by decide +kernel
theorem dX11_determinant_132 : decode cX11_determinant 132 = .ok (.goto (-123), 3) := by decide +kernel
theorem dX11_determinant_135 : decode cX11_determinant 135 = .ok (.aload_n 0, 1) := by decide +kernel
theorem dX11_determinant_136 : decode cX11_determinant 136 = .ok (.getfield 411, 3) := by decide +kernel
theorem dX11_determinant_139 : decode cX11_determinant 139 = .ok (.i2l, 1) := by decide +kernel
theorem dX11_determinant_140 : decode cX11_determinant 140 = .ok (.aload_n 0, 1) := by decide +kernel
theorem dX11_determinant_141 : decode cX11_determinant 141 = .ok (.getfield 89, 3) := by decide +kernel
theorem dX11_determinant_144 : decode cX11_determinant 144 = .ok (.bipush 7, 2) := by decide +kernel
theorem dX11_determinant_146 : decode cX11_determinant 146 = .ok (.bipush 7, 2) := by decide +kernel
theorem dX11_determinant_148 : decode cX11_determinant 148 = .ok (.invokestatic 408, 3) := by decide +kernel
theorem dX11_determinant_151 : decode cX11_determinant 151 = .ok (.laload, 1) := by decide +kernel
theorem dX11_determinant_152 : decode cX11_determinant 152 = .ok (.lmul, 1) := by decide +kernel
theorem dX11_determinant_153 : decode cX11_determinant 153 = .ok (.lreturn, 1) := by decide +kernel
theorem dX11_mean_0 : decode cX11_mean 0 = .ok (.aload_n 0, 1) := by decide +kernel
theorem dX11_mean_1 : decode cX11_mean 1 = .ok (.iconst 0, 1) := by decide +kernel
theorem dX11_mean_2 : decode cX11_mean 2 = .ok (.putfield 3, 3) := by decide +kernel
theorem dX11_mean_5 : decode cX11_mean 5 = .ok (.aload_n 0, 1) := by decide +kernel
theorem dX11_mean_6 : decode cX11_mean 6 = .ok (.iload_n 1, 1) := by decide +kernel
theorem dX11_mean_7 : decode cX11_mean 7 = .ok (.invokevirtual 280, 3) := by decide +kernel
theorem dX11_mean_10 : decode cX11_mean 10 = .ok (.ifCond .ne 5, 3) := by decide +kernel
theorem dX11_mean_13 : decode cX11_mean 13 = .ok (.iconst (-1), 1) := by decide +kernel
theorem dX11_mean_14 : decode cX11_mean 14 = .ok (.ireturn, 1) := by decide +kernel
theorem dX11_mean_15 : decode cX11_mean 15 = .ok (.aload_n 0, 1) := by decide +kernel
theorem dX11_mean_16 : decode cX11_mean 16 = .ok (.iconst (-1), 1) := by decide +kernel
theorem dX11_mean_17 : decode cX11_mean 17 = .ok (.invokevirtual 417, 3) := by decide +kernel
theorem dX11_mean_20 : decode cX11_mean 20 = .ok (.aload_n 0, 1) := by decide +kernel
theorem dX11_mean_21 : decode cX11_mean 21 = .ok (.invokevirtual 420, 3) := by decide +kernel
theorem dX11_mean_24 : decode cX11_mean 24 = .ok (.lstore_n 2, 1) := by decide +kernel
theorem dX11_mean_25 : decode cX11_mean 25 = .ok (.aload_n 0, 1) := by decide +kernel
theorem dX11_mean_26 : decode cX11_mean 26 = .ok (.iconst (-1), 1) := by decide +kernel
theorem dX11_mean_27 : decode cX11_mean 27 = .ok (.invokevirtual 417, 3) := by decide +kernel
theorem dX11_mean_30 : decode cX11_mean 30 = .ok (.iconst 0, 1) := by decide +kernel
theorem dX11_mean_31 : decode cX11_mean 31 = .ok (.istore 4, 2) := by decide +kernel
theorem dX11_mean_33 : decode cX11_mean 33 = .ok (.iload 4, 2) := by decide +kernel
theorem dX11_mean_35 : decode cX11_mean 35 = .ok (.bipush 8, 2) := by decide +kernel
theorem dX11_mean_37 : decode cX11_mean 37 = .ok (.if_icmp .ge 49, 3) := by decide +kernel
theorem dX11_mean_40 : decode cX11_mean 40 = .ok (.aload_n 0, 1) := by decide +kernel
theorem dX11_mean_41 : decode cX11_mean 41 = .ok (.getfield 89, 3) := by decide +kernel
theorem dX11_mean_44 : decode cX11_mean 44 = .ok (.iload 4, 2) := by decide +kernel
theorem dX11_mean_46 : decode cX11_mean 46 = .ok (.iload_n 1, 1) := by decide +kernel
theorem dX11_mean_47 : decode cX11_mean 47 = .ok (.invokestatic 408, 3) := by decide +kernel
theorem dX11_mean_50 : decode cX11_mean 50 = .ok (.iload 4, 2) := by decide +kernel
theorem dX11_mean_52 : decode cX11_mean 52 = .ok (.i2l, 1) := by decide +kernel
theorem dX11_mean_53 : decode cX11_mean 53 = .ok (.lconst 1, 1) := by decide +kernel
theorem dX11_mean_54 : decode cX11_mean 54 = .ok (.aload_n 0, 1) := by decide +kernel
theorem dX11_mean_55 : decode cX11_mean 55 = .ok (.getfield 28, 3) := by decide +kernel
theorem dX11_mean_58 : decode cX11_mean 58 = .ok (.iconst 1, 1) := by decide +kernel
theorem dX11_mean_59 : decode cX11_mean 59 = .ok (.isub, 1) := by decide +kernel
theorem dX11_mean_60 : decode cX11_mean 60 = .ok (.i2l, 1) := by decide +kernel
theorem dX11_mean_61 : decode cX11_mean 61 = .ok (.invokestatic 129, 3) := by decide +kernel
theorem dX11_mean_64 : decode cX11_mean 64 = .ok (.ifCond .eq 14, 3) := by decide +kernel
theorem dX11_mean_67 : decode cX11_mean 67 = .ok (.aload_n 0, 1) := by decide +kernel
theorem dX11_mean_68 : decode cX11_mean 68 = .ok (.getfield 31, 3) := by decide +kernel
theorem dX11_mean_71 : decode cX11_mean 71 = .ok (.iload 4, 2) := by decide +kernel
theorem dX11_mean_73 : decode cX11_mean 73 = .ok (.iaload, 1) := by decide +kernel
theorem dX11_mean_74 : decode cX11_mean 74 = .ok (.i2l, 1) := by decide +kernel
theorem dX11_mean_75 : decode cX11_mean 75 = .ok (.goto 4, 3) := by decide +kernel
theorem dX11_mean_78 : decode cX11_mean 78 = .ok (.lconst 0, 1) := by decide +kernel
theorem dX11_mean_79 : decode cX11_mean 79 = .ok (.lastore, 1) := by decide +kernel
theorem dX11_mean_80 : decode cX11_mean 80 = .ok (.iinc 4 1, 3) := by decide +kernel
theorem dX11_mean_83 : decode cX11_mean 83 = .ok (.goto (-50), 3) := by decide +kernel
theorem dX11_mean_86 : decode cX11_mean 86 = .ok (.aload_n 0, 1) := by decide +kernel
theorem dX11_mean_87 : decode cX11_mean 87 = .ok (.invokevirtual 420, 3) := by decide +kernel
theorem dX11_mean_90 : decode cX11_mean 90 = .ok (.lstore 4, 2) := by decide +kernel
theorem dX11_mean_92 : decode cX11_mean 92 = .ok (.aload_n 0, 1) := by decide +kernel
theorem dX11_mean_93 : decode cX11_mean 93 = .ok (.lload 4, 2) := by decide +kernel
theorem dX11_mean_95 : decode cX11_mean 95 = .ok (.lload_n 2, 1) := by decide +kernel
theorem dX11_mean_96 : decode cX11_mean 96 = .ok (.invokevirtual 424, 3) := by decide +kernel
theorem dX11_mean_99 : decode cX11_mean 99 = .ok (.pop, 1) := by decide +kernel
theorem dX11_mean_100 : decode cX11_mean 100 = .ok (.lload 4, 2) := by decide +kernel
theorem dX11_mean_102 : decode cX11_mean 102 = .ok (.lload_n 2, 1) := by decide +kernel
theorem dX11_mean_103 : decode cX11_mean 103 = .ok (.ldiv, 1) := by decide +kernel
theorem dX11_mean_104 : decode cX11_mean 104 = .ok (.l2i, 1) := by decide +kernel
theorem dX11_mean_105 : decode cX11_mean 105 = .ok (.ireturn, 1) := by decide +kernel
theorem dX11_meets_0 : decode cX11_meets 0 = .ok (.aload_n 0, 1) := by decide +kernel
theorem dX11_meets_1 : decode cX11_meets 1 = .ok (.iconst 0, 1) := by decide +kernel
theorem dX11_meets_2 : decode cX11_meets 2 = .ok (.putfield 3, 3) := by decide +kernel
theorem dX11_meets_5 : decode cX11_meets 5 = .ok (.aload_n 0, 1) := by decide +kernel
theorem dX11_meets_6 : decode cX11_meets 6 = .ok (.iload_n 1, 1) := by decide +kernel
theorem dX11_meets_7 : decode cX11_meets 7 = .ok (.invokevirtual 280, 3) := by decide +kernel
theorem dX11_meets_10 : decode cX11_meets 10 = .ok (.ifCond .eq 11, 3) := by decide +kernel
theorem dX11_meets_13 : decode cX11_meets 13 = .ok (.aload_n 0, 1) := by decide +kernel
theorem dX11_meets_14 : decode cX11_meets 14 = .ok (.iload_n 2, 1) := by decide +kernel
theorem dX11_meets_15 : decode cX11_meets 15 = .ok (.invokevirtual 280, 3) := by decide +kernel
theorem dX11_meets_18 : decode cX11_meets 18 = .ok (.ifCond .ne 5, 3) := by decide +kernel
theorem dX11_meets_21 : decode cX11_meets 21 = .ok (.iconst (-1), 1) := by decide +kernel
theorem dX11_meets_22 : decode cX11_meets 22 = .ok (.ireturn, 1) := by decide +kernel
theorem dX11_meets_23 : decode cX11_meets 23 = .ok (.iload_n 1, 1) := by decide +kernel
theorem dX11_meets_24 : decode cX11_meets 24 = .ok (.iload_n 2, 1) := by decide +kernel
theorem dX11_meets_25 : decode cX11_meets 25 = .ok (.if_icmp .ne 10, 3) := by decide +kernel
theorem dX11_meets_28 : decode cX11_meets 28 = .ok (.aload_n 0, 1) := by decide +kernel
theorem dX11_meets_29 : decode cX11_meets 29 = .ok (.lconst 1, 1) := by decide +kernel
theorem dX11_meets_30 : decode cX11_meets 30 = .ok (.lconst 1, 1) := by decide +kernel
theorem dX11_meets_31 : decode cX11_meets 31 = .ok (.invokevirtual 424, 3) := by decide +kernel
theorem dX11_meets_34 : decode cX11_meets 34 = .ok (.ireturn, 1) := by decide +kernel
theorem dX11_meets_35 : decode cX11_meets 35 = .ok (.aload_n 0, 1) := by decide +kernel
theorem dX11_meets_36 : decode cX11_meets 36 = .ok (.iload_n 2, 1) := by decide +kernel
theorem dX11_meets_37 : decode cX11_meets 37 = .ok (.invokevirtual 417, 3) := by decide +kernel
theorem dX11_meets_40 : decode cX11_meets 40 = .ok (.aload_n 0, 1) := by decide +kernel
theorem dX11_meets_41 : decode cX11_meets 41 = .ok (.invokevirtual 420, 3) := by decide +kernel
theorem dX11_meets_44 : decode cX11_meets 44 = .ok (.lstore_n 3, 1) := by decide +kernel
theorem dX11_meets_45 : decode cX11_meets 45 = .ok (.aload_n 0, 1) := by decide +kernel
theorem dX11_meets_46 : decode cX11_meets 46 = .ok (.iload_n 2, 1) := by decide +kernel
theorem dX11_meets_47 : decode cX11_meets 47 = .ok (.invokevirtual 417, 3) := by decide +kernel
theorem dX11_meets_50 : decode cX11_meets 50 = .ok (.iconst 0, 1) := by decide +kernel
theorem dX11_meets_51 : decode cX11_meets 51 = .ok (.istore 5, 2) := by decide +kernel
theorem dX11_meets_53 : decode cX11_meets 53 = .ok (.iload 5, 2) := by decide +kernel
theorem dX11_meets_55 : decode cX11_meets 55 = .ok (.bipush 8, 2) := by decide +kernel
theorem dX11_meets_57 : decode cX11_meets 57 = .ok (.if_icmp .ge 97, 3) := by decide +kernel
theorem dX11_meets_60 : decode cX11_meets 60 = .ok (.aload_n 0, 1) := by decide +kernel
theorem dX11_meets_61 : decode cX11_meets 61 = .ok (.getfield 89, 3) := by decide +kernel
theorem dX11_meets_64 : decode cX11_meets 64 = .ok (.iload 5, 2) := by decide +kernel
theorem dX11_meets_66 : decode cX11_meets 66 = .ok (.iload_n 1, 1) := by decide +kernel
theorem dX11_meets_67 : decode cX11_meets 67 = .ok (.invokestatic 408, 3) := by decide +kernel
theorem dX11_meets_70 : decode cX11_meets 70 = .ok (.lconst 0, 1) := by decide +kernel
theorem dX11_meets_71 : decode cX11_meets 71 = .ok (.lastore, 1) := by decide +kernel
theorem dX11_meets_72 : decode cX11_meets 72 = .ok (.iconst 0, 1) := by decide +kernel
theorem dX11_meets_73 : decode cX11_meets 73 = .ok (.istore 6, 2) := by decide +kernel
theorem dX11_meets_75 : decode cX11_meets 75 = .ok (.iload 6, 2) := by decide +kernel
theorem dX11_meets_77 : decode cX11_meets 77 = .ok (.aload_n 0, 1) := by decide +kernel
theorem dX11_meets_78 : decode cX11_meets 78 = .ok (.getfield 31, 3) := by decide +kernel
theorem dX11_meets_81 : decode cX11_meets 81 = .ok (.iload 5, 2) := by decide +kernel
theorem dX11_meets_83 : decode cX11_meets 83 = .ok (.iaload, 1) := by decide +kernel
theorem dX11_meets_84 : decode cX11_meets 84 = .ok (.if_icmp .ge 64, 3) := by decide +kernel
theorem dX11_meets_87 : decode cX11_meets 87 = .ok (.iload 5, 2) := by decide +kernel
theorem dX11_meets_89 : decode cX11_meets 89 = .ok (.ifCond .le 59, 3) := by decide +kernel
theorem dX11_meets_92 : decode cX11_meets 92 = .ok (.iload 5, 2) := by decide +kernel
theorem dX11_meets_94 : decode cX11_meets 94 = .ok (.aload_n 0, 1) := by decide +kernel
theorem dX11_meets_95 : decode cX11_meets 95 = .ok (.getfield 28, 3) := by decide +kernel
theorem dX11_meets_98 : decode cX11_meets 98 = .ok (.if_icmp .ge 50, 3) := by decide +kernel
theorem dX11_meets_101 : decode cX11_meets 101 = .ok (.iload 5, 2) := by decide +kernel
theorem dX11_meets_103 : decode cX11_meets 103 = .ok (.iload_n 2, 1) := by decide +kernel
theorem dX11_meets_104 : decode cX11_meets 104 = .ok (.if_icmp .eq 44, 3) := by decide +kernel
theorem dX11_meets_107 : decode cX11_meets 107 = .ok (.aload_n 0, 1) := by decide +kernel
theorem dX11_meets_108 : decode cX11_meets 108 = .ok (.getfield 89, 3) := by decide +kernel
theorem dX11_meets_111 : decode cX11_meets 111 = .ok (.iload 5, 2) := by decide +kernel
theorem dX11_meets_113 : decode cX11_meets 113 = .ok (.iload_n 1, 1) := by decide +kernel
theorem dX11_meets_114 : decode cX11_meets 114 = .ok (.invokestatic 408, 3) := by decide +kernel
theorem dX11_meets_117 : decode cX11_meets 117 = .ok (.dup2, 1) := by decide +kernel
theorem dX11_meets_118 : decode cX11_meets 118 = .ok (.laload, 1) := by decide +kernel
theorem dX11_meets_119 : decode cX11_meets 119 = .ok (.aload_n 0, 1) := by decide +kernel
theorem dX11_meets_120 : decode cX11_meets 120 = .ok (.iload 5, 2) := by decide +kernel
theorem dX11_meets_122 : decode cX11_meets 122 = .ok (.iload 6, 2) := by decide +kernel
theorem dX11_meets_124 : decode cX11_meets 124 = .ok (.invokevirtual 255, 3) := by decide +kernel
theorem dX11_meets_127 : decode cX11_meets 127 = .ok (.iload_n 2, 1) := by decide +kernel
theorem dX11_meets_128 : decode cX11_meets 128 = .ok (.if_icmp .ne 7, 3) := by decide +kernel
theorem dX11_meets_131 : decode cX11_meets 131 = .ok (.iconst 1, 1) := by decide +kernel
theorem dX11_meets_132 : decode cX11_meets 132 = .ok (.goto 4, 3) := by decide +kernel
theorem dX11_meets_135 : decode cX11_meets 135 = .ok (.iconst 0, 1) := by decide +kernel
theorem dX11_meets_136 : decode cX11_meets 136 = .ok (.invokestatic 151, 3) := by decide +kernel
theorem dX11_meets_139 : decode cX11_meets 139 = .ok (.i2l, 1) := by decide +kernel
theorem dX11_meets_140 : decode cX11_meets 140 = .ok (.ladd, 1) := by decide +kernel
theorem dX11_meets_141 : decode cX11_meets 141 = .ok (.lastore, 1) := by decide +kernel
theorem dX11_meets_142 : decode cX11_meets 142 = .ok (.iinc 6 1, 3) := by decide +kernel
theorem dX11_meets_145 : decode cX11_meets 145 = .ok (.goto (-70), 3) := by decide +kernel
theorem dX11_meets_148 : decode cX11_meets 148 = .ok (.iinc 5 1, 3) := by decide +kernel
theorem dX11_meets_151 : decode cX11_meets 151 = .ok (.goto (-98), 3) := by decide +kernel
theorem dX11_meets_154 : decode cX11_meets 154 = .ok (.aload_n 0, 1) := by decide +kernel
theorem dX11_meets_155 : decode cX11_meets 155 = .ok (.aload_n 0, 1) := by decide +kernel
theorem dX11_meets_156 : decode cX11_meets 156 = .ok (.invokevirtual 420, 3) := by decide +kernel
theorem dX11_meets_159 : decode cX11_meets 159 = .ok (.lload_n 3, 1) := by decide +kernel
theorem dX11_meets_160 : decode cX11_meets 160 = .ok (.invokevirtual 424, 3) := by decide +kernel
theorem dX11_meets_163 : decode cX11_meets 163 = .ok (.ireturn, 1) := by decide +kernel
theorem dX11_odds_0 : decode cX11_odds 0 = .ok (.aload_n 0, 1) := by decide +kernel
theorem dX11_odds_1 : decode cX11_odds 1 = .ok (.iconst 0, 1) := by decide +kernel
theorem dX11_odds_2 : decode cX11_odds 2 = .ok (.putfield 3, 3) := by decide +kernel
theorem dX11_odds_5 : decode cX11_odds 5 = .ok (.aload_n 0, 1) := by decide +kernel
theorem dX11_odds_6 : decode cX11_odds 6 = .ok (.iload_n 1, 1) := by decide +kernel
theorem dX11_odds_7 : decode cX11_odds 7 = .ok (.invokevirtual 280, 3) := by decide +kernel
theorem dX11_odds_10 : decode cX11_odds 10 = .ok (.ifCond .eq 23, 3) := by decide +kernel
theorem dX11_odds_13 : decode cX11_odds 13 = .ok (.iload_n 2, 1) := by decide +kernel
theorem dX11_odds_14 : decode cX11_odds 14 = .ok (.i2l, 1) := by decide +kernel
theorem dX11_odds_15 : decode cX11_odds 15 = .ok (.lconst 0, 1) := by decide +kernel
theorem dX11_odds_16 : decode cX11_odds 16 = .ok (.ldc2_w 428, 3) := by decide +kernel
theorem dX11_odds_19 : decode cX11_odds 19 = .ok (.invokestatic 129, 3) := by decide +kernel
theorem dX11_odds_22 : decode cX11_odds 22 = .ok (.ifCond .eq 11, 3) := by decide +kernel
theorem dX11_odds_25 : decode cX11_odds 25 = .ok (.aload_n 0, 1) := by decide +kernel
theorem dX11_odds_26 : decode cX11_odds 26 = .ok (.iload_n 3, 1) := by decide +kernel
theorem dX11_odds_27 : decode cX11_odds 27 = .ok (.invokevirtual 265, 3) := by decide +kernel
theorem dX11_odds_30 : decode cX11_odds 30 = .ok (.ifCond .ne 5, 3) := by decide +kernel
theorem dX11_odds_33 : decode cX11_odds 33 = .ok (.iconst (-1), 1) := by decide +kernel
theorem dX11_odds_34 : decode cX11_odds 34 = .ok (.ireturn, 1) := by decide +kernel
theorem dX11_odds_35 : decode cX11_odds 35 = .ok (.iconst 0, 1) := by decide +kernel
theorem dX11_odds_36 : decode cX11_odds 36 = .ok (.istore 4, 2) := by decide +kernel
theorem dX11_odds_38 : decode cX11_odds 38 = .ok (.iload 4, 2) := by decide +kernel
theorem dX11_odds_40 : decode cX11_odds 40 = .ok (.bipush 8, 2) := by decide +kernel
theorem dX11_odds_42 : decode cX11_odds 42 = .ok (.if_icmp .ge 31, 3) := by decide +kernel
theorem dX11_odds_45 : decode cX11_odds 45 = .ok (.aload_n 0, 1) := by decide +kernel
theorem dX11_odds_46 : decode cX11_odds 46 = .ok (.getfield 92, 3) := by decide +kernel
theorem dX11_odds_49 : decode cX11_odds 49 = .ok (.iload 4, 2) := by decide +kernel
theorem dX11_odds_51 : decode cX11_odds 51 = .ok (.iload 4, 2) := by decide +kernel
theorem dX11_odds_53 : decode cX11_odds 53 = .ok (.iload_n 1, 1) := by decide +kernel
theorem dX11_odds_54 : decode cX11_odds 54 = .ok (.if_icmp .ne 7, 3) := by decide +kernel
theorem dX11_odds_57 : decode cX11_odds 57 = .ok (.iconst 1, 1) := by decide +kernel
theorem dX11_odds_58 : decode cX11_odds 58 = .ok (.goto 4, 3) := by decide +kernel
theorem dX11_odds_61 : decode cX11_odds 61 = .ok (.iconst 0, 1) := by decide +kernel
theorem dX11_odds_62 : decode cX11_odds 62 = .ok (.invokestatic 151, 3) := by decide +kernel
theorem dX11_odds_65 : decode cX11_odds 65 = .ok (.i2l, 1) := by decide +kernel
theorem dX11_odds_66 : decode cX11_odds 66 = .ok (.lastore, 1) := by decide +kernel
theorem dX11_odds_67 : decode cX11_odds 67 = .ok (.iinc 4 1, 3) := by decide +kernel
theorem dX11_odds_70 : decode cX11_odds 70 = .ok (.goto (-32), 3) := by decide +kernel
theorem dX11_odds_73 : decode cX11_odds 73 = .ok (.lconst 1, 1) := by decide +kernel
theorem dX11_odds_74 : decode cX11_odds 74 = .ok (.lstore 4, 2) := by decide +kernel
theorem dX11_odds_76 : decode cX11_odds 76 = .ok (.iconst 0, 1) := by decide +kernel
theorem dX11_odds_77 : decode cX11_odds 77 = .ok (.istore 6, 2) := by decide +kernel
theorem dX11_odds_79 : decode cX11_odds 79 = .ok (.iload 6, 2) := by decide +kernel
theorem dX11_odds_81 : decode cX11_odds 81 = .ok (.iload_n 2, 1) := by decide +kernel
theorem dX11_odds_82 : decode cX11_odds 82 = .ok (.if_icmp .ge 163, 3) := by decide +kernel
theorem dX11_odds_85 : decode cX11_odds 85 = .ok (.lload 4, 2) := by decide +kernel
theorem dX11_odds_87 : decode cX11_odds 87 = .ok (.ldc2_w 430, 3) := by decide +kernel
theorem dX11_odds_90 : decode cX11_odds 90 = .ok (.lmul, 1) := by decide +kernel
theorem dX11_odds_91 : decode cX11_odds 91 = .ok (.lstore 4, 2) := by decide +kernel
theorem dX11_odds_93 : decode cX11_odds 93 = .ok (.iconst 0, 1) := by decide +kernel
theorem dX11_odds_94 : decode cX11_odds 94 = .ok (.istore 7, 2) := by decide +kernel
theorem dX11_odds_96 : decode cX11_odds 96 = .ok (.iload 7, 2) := by decide +kernel
theorem dX11_odds_98 : decode cX11_odds 98 = .ok (.bipush 8, 2) := by decide +kernel
theorem dX11_odds_100 : decode cX11_odds 100 = .ok (.if_icmp .ge 35, 3) := by decide +kernel
theorem dX11_odds_103 : decode cX11_odds 103 = .ok (.aload_n 0, 1) := by decide +kernel
theorem dX11_odds_104 : decode cX11_odds 104 = .ok (.getfield 95, 3) := by decide +kernel
theorem dX11_odds_107 : decode cX11_odds 107 = .ok (.iload 7, 2) := by decide +kernel
theorem dX11_odds_109 : decode cX11_odds 109 = .ok (.iload 7, 2) := by decide +kernel
theorem dX11_odds_111 : decode cX11_odds 111 = .ok (.ifCond .ne 16, 3) := by decide +kernel
theorem dX11_odds_114 : decode cX11_odds 114 = .ok (.ldc2_w 430, 3) := by decide +kernel
theorem dX11_odds_117 : decode cX11_odds 117 = .ok (.aload_n 0, 1) := by decide +kernel
theorem dX11_odds_118 : decode cX11_odds 118 = .ok (.getfield 92, 3) := by decide +kernel
theorem dX11_odds_121 : decode cX11_odds 121 = .ok (.iconst 0, 1) := by decide +kernel
theorem dX11_odds_122 : decode cX11_odds 122 = .ok (.laload, 1) := by decide +kernel
theorem dX11_odds_123 : decode cX11_odds 123 = .ok (.lmul, 1) := by decide +kernel
theorem dX11_odds_124 : decode cX11_odds 124 = .ok (.goto 4, 3) := by decide +kernel
theorem dX11_odds_127 : decode cX11_odds 127 = .ok (.lconst 0, 1) := by decide +kernel
theorem dX11_odds_128 : decode cX11_odds 128 = .ok (.lastore, 1) := by decide +kernel
theorem dX11_odds_129 : decode cX11_odds 129 = .ok (.iinc 7 1, 3) := by decide +kernel
theorem dX11_odds_132 : decode cX11_odds 132 = .ok (.goto (-36), 3) := by decide +kernel
theorem dX11_odds_135 : decode cX11_odds 135 = .ok (.iconst 1, 1) := by decide +kernel
theorem dX11_odds_136 : decode cX11_odds 136 = .ok (.istore 7, 2) := by decide +kernel
theorem dX11_odds_138 : decode cX11_odds 138 = .ok (.iload 7, 2) := by decide +kernel
theorem dX11_odds_140 : decode cX11_odds 140 = .ok (.aload_n 0, 1) := by decide +kernel
theorem dX11_odds_141 : decode cX11_odds 141 = .ok (.getfield 28, 3) := by decide +kernel
theorem dX11_odds_144 : decode cX11_odds 144 = .ok (.if_icmp .ge 65, 3) := by decide +kernel
theorem dX11_odds_147 : decode cX11_odds 147 = .ok (.iconst 0, 1) := by decide +kernel
theorem dX11_odds_148 : decode cX11_odds 148 = .ok (.istore 8, 2) := by decide +kernel
theorem dX11_odds_150 : decode cX11_odds 150 = .ok (.iload 8, 2) := by decide +kernel
theorem dX11_odds_152 : decode cX11_odds 152 = .ok (.aload_n 0, 1) := by decide +kernel
theorem dX11_odds_153 : decode cX11_odds 153 = .ok (.getfield 31, 3) := by decide +kernel
theorem dX11_odds_156 : decode cX11_odds 156 = .ok (.iload 7, 2) := by decide +kernel
theorem dX11_odds_158 : decode cX11_odds 158 = .ok (.iaload, 1) := by decide +kernel
theorem dX11_odds_159 : decode cX11_odds 159 = .ok (.if_icmp .ge 44, 3) := by decide +kernel
theorem dX11_odds_162 : decode cX11_odds 162 = .ok (.aload_n 0, 1) := by decide +kernel
theorem dX11_odds_163 : decode cX11_odds 163 = .ok (.getfield 95, 3) := by decide +kernel
theorem dX11_odds_166 : decode cX11_odds 166 = .ok (.aload_n 0, 1) := by decide +kernel
theorem dX11_odds_167 : decode cX11_odds 167 = .ok (.iload 7, 2) := by decide +kernel
theorem dX11_odds_169 : decode cX11_odds 169 = .ok (.iload 8, 2) := by decide +kernel
theorem dX11_odds_171 : decode cX11_odds 171 = .ok (.invokevirtual 255, 3) := by decide +kernel
theorem dX11_odds_174 : decode cX11_odds 174 = .ok (.dup2, 1) := by decide +kernel
theorem dX11_odds_175 : decode cX11_odds 175 = .ok (.laload, 1) := by decide +kernel
theorem dX11_odds_176 : decode cX11_odds 176 = .ok (.aload_n 0, 1) := by decide +kernel
theorem dX11_odds_177 : decode cX11_odds 177 = .ok (.getfield 92, 3) := by decide +kernel
theorem dX11_odds_180 : decode cX11_odds 180 = .ok (.iload 7, 2) := by decide +kernel
theorem dX11_odds_182 : decode cX11_odds 182 = .ok (.laload, 1) := by decide +kernel
theorem dX11_odds_183 : decode cX11_odds 183 = .ok (.bipush 12, 2) := by decide +kernel
theorem dX11_odds_185 : decode cX11_odds 185 = .ok (.aload_n 0, 1) := by decide +kernel
theorem dX11_odds_186 : decode cX11_odds 186 = .ok (.getfield 31, 3) := by decide +kernel
theorem dX11_odds_189 : decode cX11_odds 189 = .ok (.iload 7, 2) := by decide +kernel
theorem dX11_odds_191 : decode cX11_odds 191 = .ok (.iaload, 1) := by decide +kernel
theorem dX11_odds_192 : decode cX11_odds 192 = .ok (.idiv, 1) := by decide +kernel
theorem dX11_odds_193 : decode cX11_odds 193 = .ok (.i2l, 1) := by decide +kernel
theorem dX11_odds_194 : decode cX11_odds 194 = .ok (.lmul, 1) := by decide +kernel
theorem dX11_odds_195 : decode cX11_odds 195 = .ok (.ladd, 1) := by decide +kernel
theorem dX11_odds_196 : decode cX11_odds 196 = .ok (.lastore, 1) := by decide +kernel
theorem dX11_odds_197 : decode cX11_odds 197 = .ok (.iinc 8 1, 3) := by decide +kernel
theorem dX11_odds_200 : decode cX11_odds 200 = .ok (.goto (-50), 3) := by decide +kernel
theorem dX11_odds_203 : decode cX11_odds 203 = .ok (.iinc 7 1, 3) := by decide +kernel
theorem dX11_odds_206 : decode cX11_odds 206 = .ok (.goto (-68), 3) := by decide +kernel
theorem dX11_odds_209 : decode cX11_odds 209 = .ok (.iconst 0, 1) := by decide +kernel
theorem dX11_odds_210 : decode cX11_odds 210 = .ok (.istore 7, 2) := by decide +kernel
theorem dX11_odds_212 : decode cX11_odds 212 = .ok (.iload 7, 2) := by decide +kernel
theorem dX11_odds_214 : decode cX11_odds 214 = .ok (.bipush 8, 2) := by decide +kernel
theorem dX11_odds_216 : decode cX11_odds 216 = .ok (.if_icmp .ge 23, 3) := by decide +kernel
theorem dX11_odds_219 : decode cX11_odds 219 = .ok (.aload_n 0, 1) := by decide +kernel
theorem dX11_odds_220 : decode cX11_odds 220 = .ok (.getfield 92, 3) := by decide +kernel
theorem dX11_odds_223 : decode cX11_odds 223 = .ok (.iload 7, 2) := by decide +kernel
theorem dX11_odds_225 : decode cX11_odds 225 = .ok (.aload_n 0, 1) := by decide +kernel
theorem dX11_odds_226 : decode cX11_odds 226 = .ok (.getfield 95, 3) := by decide +kernel
theorem dX11_odds_229 : decode cX11_odds 229 = .ok (.iload 7, 2) := by decide +kernel
theorem dX11_odds_231 : decode cX11_odds 231 = .ok (.laload, 1) := by decide +kernel
theorem dX11_odds_232 : decode cX11_odds 232 = .ok (.lastore, 1) := by decide +kernel
theorem dX11_odds_233 : decode cX11_odds 233 = .ok (.iinc 7 1, 3) := by decide +kernel
theorem dX11_odds_236 : decode cX11_odds 236 = .ok (.goto (-24), 3) := by decide +kernel
theorem dX11_odds_239 : decode cX11_odds 239 = .ok (.iinc 6 1, 3) := by decide +kernel
theorem dX11_odds_242 : decode cX11_odds 242 = .ok (.goto (-163), 3) := by decide +kernel
theorem dX11_odds_245 : decode cX11_odds 245 = .ok (.aload_n 0, 1) := by decide +kernel
theorem dX11_odds_246 : decode cX11_odds 246 = .ok (.aload_n 0, 1) := by decide +kernel
theorem dX11_odds_247 : decode cX11_odds 247 = .ok (.getfield 92, 3) := by decide +kernel
theorem dX11_odds_250 : decode cX11_odds 250 = .ok (.iload_n 3, 1) := by decide +kernel
theorem dX11_odds_251 : decode cX11_odds 251 = .ok (.laload, 1) := by decide +kernel
theorem dX11_odds_252 : decode cX11_odds 252 = .ok (.lload 4, 2) := by decide +kernel
theorem dX11_odds_254 : decode cX11_odds 254 = .ok (.invokevirtual 424, 3) := by decide +kernel
theorem dX11_odds_257 : decode cX11_odds 257 = .ok (.ireturn, 1) := by decide +kernel
theorem dX11_canBurst_0 : decode cX11_canBurst 0 = .ok (.iconst 0, 1) := by decide +kernel
theorem dX11_canBurst_1 : decode cX11_canBurst 1 = .ok (.istore_n 2, 1) := by decide +kernel
theorem dX11_canBurst_2 : decode cX11_canBurst 2 = .ok (.iconst 1, 1) := by decide +kernel
theorem dX11_canBurst_3 : decode cX11_canBurst 3 = .ok (.istore_n 3, 1) := by decide +kernel
theorem dX11_canBurst_4 : decode cX11_canBurst 4 = .ok (.iload_n 3, 1) := by decide +kernel
theorem dX11_canBurst_5 : decode cX11_canBurst 5 = .ok (.aload_n 0, 1) := by decide +kernel
theorem dX11_canBurst_6 : decode cX11_canBurst 6 = .ok (.getfield 28, 3) := by decide +kernel
theorem dX11_canBurst_9 : decode cX11_canBurst 9 = .ok (.if_icmp .ge 34, 3) := by decide +kernel
theorem dX11_canBurst_12 : decode cX11_canBurst 12 = .ok (.iload_n 2, 1) := by decide +kernel
theorem dX11_canBurst_13 : decode cX11_canBurst 13 = .ok (.ifCond .ne 18, 3) := by decide +kernel
theorem dX11_canBurst_16 : decode cX11_canBurst 16 = .ok (.aload_n 1, 1) := by decide +kernel
theorem dX11_canBurst_17 : decode cX11_canBurst 17 = .ok (.bipush 8, 2) := by decide +kernel
theorem dX11_canBurst_19 : decode cX11_canBurst 19 = .ok (.iload_n 3, 1) := by decide +kernel
theorem dX11_canBurst_20 : decode cX11_canBurst 20 = .ok (.iadd, 1) := by decide +kernel
theorem dX11_canBurst_21 : decode cX11_canBurst 21 = .ok (.iaload, 1) := by decide +kernel
theorem dX11_canBurst_22 : decode cX11_canBurst 22 = .ok (.aload_n 0, 1) := by decide +kernel
theorem dX11_canBurst_23 : decode cX11_canBurst 23 = .ok (.getfield 31, 3) := by decide +kernel
theorem dX11_canBurst_26 : decode cX11_canBurst 26 = .ok (.iload_n 3, 1) := by decide +kernel
theorem dX11_canBurst_27 : decode cX11_canBurst 27 = .ok (.iaload, 1) := by decide +kernel
theorem dX11_canBurst_28 : decode cX11_canBurst 28 = .ok (.if_icmp .lt 7, 3) := by decide +kernel
theorem dX11_canBurst_31 : decode cX11_canBurst 31 = .ok (.iconst 1, 1) := by decide +kernel
theorem dX11_canBurst_32 : decode cX11_canBurst 32 = .ok (.goto 4, 3) := by decide +kernel
theorem dX11_canBurst_35 : decode cX11_canBurst 35 = .ok (.iconst 0, 1) := by decide +kernel
theorem dX11_canBurst_36 : decode cX11_canBurst 36 = .ok (.istore_n 2, 1) := by decide +kernel
theorem dX11_canBurst_37 : decode cX11_canBurst 37 = .ok (.iinc 3 1, 3) := by decide +kernel
theorem dX11_canBurst_40 : decode cX11_canBurst 40 = .ok (.goto (-36), 3) := by decide +kernel
theorem dX11_canBurst_43 : decode cX11_canBurst 43 = .ok (.iload_n 2, 1) := by decide +kernel
theorem dX11_canBurst_44 : decode cX11_canBurst 44 = .ok (.ireturn, 1) := by decide +kernel
theorem dX11_entersCrowds_0 : decode cX11_entersCrowds 0 = .ok (.aload_n 0, 1) := by decide +kernel
theorem dX11_entersCrowds_1 : decode cX11_entersCrowds 1 = .ok (.iconst 0, 1) := by decide +kernel
theorem dX11_entersCrowds_2 : decode cX11_entersCrowds 2 = .ok (.putfield 15, 3) := by decide +kernel
theorem dX11_entersCrowds_5 : decode cX11_entersCrowds 5 = .ok (.iconst 1, 1) := by decide +kernel
theorem dX11_entersCrowds_6 : decode cX11_entersCrowds 6 = .ok (.istore_n 2, 1) := by decide +kernel
theorem dX11_entersCrowds_7 : decode cX11_entersCrowds 7 = .ok (.iload_n 2, 1) := by decide +kernel
theorem dX11_entersCrowds_8 : decode cX11_entersCrowds 8 = .ok (.aload_n 0, 1) := by decide +kernel
theorem dX11_entersCrowds_9 : decode cX11_entersCrowds 9 = .ok (.getfield 28, 3) := by decide +kernel
theorem dX11_entersCrowds_12 : decode cX11_entersCrowds 12 = .ok (.if_icmp .ge 20, 3) := by decide +kernel
theorem dX11_entersCrowds_15 : decode cX11_entersCrowds 15 = .ok (.aload_n 0, 1) := by decide +kernel
theorem dX11_entersCrowds_16 : decode cX11_entersCrowds 16 = .ok (.aload_n 1, 1) := by decide +kernel
theorem dX11_entersCrowds_17 : decode cX11_entersCrowds 17 = .ok (.bipush 8, 2) := by decide +kernel
theorem dX11_entersCrowds_19 : decode cX11_entersCrowds 19 = .ok (.iload_n 2, 1) := by decide +kernel
theorem dX11_entersCrowds_20 : decode cX11_entersCrowds 20 = .ok (.iadd, 1) := by decide +kernel
theorem dX11_entersCrowds_21 : decode cX11_entersCrowds 21 = .ok (.iaload, 1) := by decide +kernel
theorem dX11_entersCrowds_22 : decode cX11_entersCrowds 22 = .ok (.i2l, 1) := by decide +kernel
theorem dX11_entersCrowds_23 : decode cX11_entersCrowds 23 = .ok (.invokevirtual 18, 3) := by decide +kernel
theorem dX11_entersCrowds_26 : decode cX11_entersCrowds 26 = .ok (.iinc 2 1, 3) := by decide +kernel
theorem dX11_entersCrowds_29 : decode cX11_entersCrowds 29 = .ok (.goto (-22), 3) := by decide +kernel
theorem dX11_entersCrowds_32 : decode cX11_entersCrowds 32 = .ok (.return_, 1) := by decide +kernel
theorem dX11_ready_0 : decode cX11_ready 0 = .ok (.aload_n 0, 1) := by decide +kernel
theorem dX11_ready_1 : decode cX11_ready 1 = .ok (.iconst 0, 1) := by decide +kernel
theorem dX11_ready_2 : decode cX11_ready 2 = .ok (.putfield 3, 3) := by decide +kernel
theorem dX11_ready_5 : decode cX11_ready 5 = .ok (.iconst 0, 1) := by decide +kernel
theorem dX11_ready_6 : decode cX11_ready 6 = .ok (.istore_n 1, 1) := by decide +kernel
theorem dX11_ready_7 : decode cX11_ready 7 = .ok (.iconst 1, 1) := by decide +kernel
theorem dX11_ready_8 : decode cX11_ready 8 = .ok (.istore_n 2, 1) := by decide +kernel
theorem dX11_ready_9 : decode cX11_ready 9 = .ok (.iload_n 2, 1) := by decide +kernel
theorem dX11_ready_10 : decode cX11_ready 10 = .ok (.aload_n 0, 1) := by decide +kernel
theorem dX11_ready_11 : decode cX11_ready 11 = .ok (.getfield 28, 3) := by decide +kernel
theorem dX11_ready_14 : decode cX11_ready 14 = .ok (.if_icmp .ge 37, 3) := by decide +kernel
theorem dX11_ready_17 : decode cX11_ready 17 = .ok (.iload_n 1, 1) := by decide +kernel
theorem dX11_ready_18 : decode cX11_ready 18 = .ok (.aload_n 0, 1) := by decide +kernel
theorem dX11_ready_19 : decode cX11_ready 19 = .ok (.getfield 38, 3) := by decide +kernel
theorem dX11_ready_22 : decode cX11_ready 22 = .ok (.bipush 8, 2) := by decide +kernel
theorem dX11_ready_24 : decode cX11_ready 24 = .ok (.iload_n 2, 1) := by decide +kernel
theorem dX11_ready_25 : decode cX11_ready 25 = .ok (.iadd, 1) := by decide +kernel
theorem dX11_ready_26 : decode cX11_ready 26 = .ok (.iaload, 1) := by decide +kernel
theorem dX11_ready_27 : decode cX11_ready 27 = .ok (.aload_n 0, 1) := by decide +kernel
theorem dX11_ready_28 : decode cX11_ready 28 = .ok (.getfield 31, 3) := by decide +kernel
theorem dX11_ready_31 : decode cX11_ready 31 = .ok (.iload_n 2, 1) := by decide +kernel
theorem dX11_ready_32 : decode cX11_ready 32 = .ok (.iaload, 1) := by decide +kernel
theorem dX11_ready_33 : decode cX11_ready 33 = .ok (.if_icmp .lt 9, 3) := by decide +kernel
theorem dX11_ready_36 : decode cX11_ready 36 = .ok (.iconst 1, 1) := by decide +kernel
theorem dX11_ready_37 : decode cX11_ready 37 = .ok (.iload_n 2, 1) := by decide +kernel
theorem dX11_ready_38 : decode cX11_ready 38 = .ok (.ishl, 1) := by decide +kernel
theorem dX11_ready_39 : decode cX11_ready 39 = .ok (.goto 4, 3) := by decide +kernel
theorem dX11_ready_42 : decode cX11_ready 42 = .ok (.iconst 0, 1) := by decide +kernel
theorem dX11_ready_43 : decode cX11_ready 43 = .ok (.ior, 1) := by decide +kernel
theorem dX11_ready_44 : decode cX11_ready 44 = .ok (.istore_n 1, 1) := by decide +kernel
theorem dX11_ready_45 : decode cX11_ready 45 = .ok (.iinc 2 1, 3) := by decide +kernel
theorem dX11_ready_48 : decode cX11_ready 48 = .ok (.goto (-39), 3) := by decide +kernel
theorem dX11_ready_51 : decode cX11_ready 51 = .ok (.aload_n 0, 1) := by decide +kernel
theorem dX11_ready_52 : decode cX11_ready 52 = .ok (.iconst 0, 1) := by decide +kernel
theorem dX11_ready_53 : decode cX11_ready 53 = .ok (.putfield 15, 3) := by decide +kernel
theorem dX11_ready_56 : decode cX11_ready 56 = .ok (.aload_n 0, 1) := by decide +kernel
theorem dX11_ready_57 : decode cX11_ready 57 = .ok (.iload_n 1, 1) := by decide +kernel
theorem dX11_ready_58 : decode cX11_ready 58 = .ok (.invokestatic 397, 3) := by decide +kernel
theorem dX11_ready_61 : decode cX11_ready 61 = .ok (.i2l, 1) := by decide +kernel
theorem dX11_ready_62 : decode cX11_ready 62 = .ok (.invokevirtual 18, 3) := by decide +kernel
theorem dX11_ready_65 : decode cX11_ready 65 = .ok (.aload_n 0, 1) := by decide +kernel
theorem dX11_ready_66 : decode cX11_ready 66 = .ok (.aload_n 0, 1) := by decide +kernel
theorem dX11_ready_67 : decode cX11_ready 67 = .ok (.aload_n 0, 1) := by decide +kernel
theorem dX11_ready_68 : decode cX11_ready 68 = .ok (.getfield 38, 3) := by decide +kernel
theorem dX11_ready_71 : decode cX11_ready 71 = .ok (.invokevirtual 285, 3) := by decide +kernel
theorem dX11_ready_74 : decode cX11_ready 74 = .ok (.i2l, 1) := by decide +kernel
theorem dX11_ready_75 : decode cX11_ready 75 = .ok (.invokevirtual 18, 3) := by decide +kernel
theorem dX11_ready_78 : decode cX11_ready 78 = .ok (.iload_n 1, 1) := by decide +kernel
theorem dX11_ready_79 : decode cX11_ready 79 = .ok (.ireturn, 1) := by decide +kernel
theorem dX11_laysUnit_0 : decode cX11_laysUnit 0 = .ok (.aload_n 0, 1) := by decide +kernel
theorem dX11_laysUnit_1 : decode cX11_laysUnit 1 = .ok (.getfield 41, 3) := by decide +kernel
theorem dX11_laysUnit_4 : decode cX11_laysUnit 4 = .ok (.aload_n 0, 1) := by decide +kernel
theorem dX11_laysUnit_5 : decode cX11_laysUnit 5 = .ok (.getfield 38, 3) := by decide +kernel
theorem dX11_laysUnit_8 : decode cX11_laysUnit 8 = .ok (.invokestatic 307, 3) := by decide +kernel
theorem dX11_laysUnit_11 : decode cX11_laysUnit 11 = .ok (.iconst 1, 1) := by decide +kernel
theorem dX11_laysUnit_12 : decode cX11_laysUnit 12 = .ok (.istore_n 1, 1) := by decide +kernel
theorem dX11_laysUnit_13 : decode cX11_laysUnit 13 = .ok (.iload_n 1, 1) := by decide +kernel
theorem dX11_laysUnit_14 : decode cX11_laysUnit 14 = .ok (.aload_n 0, 1) := by decide +kernel
theorem dX11_laysUnit_15 : decode cX11_laysUnit 15 = .ok (.getfield 28, 3) := by decide +kernel
theorem dX11_laysUnit_18 : decode cX11_laysUnit 18 = .ok (.if_icmp .ge 28, 3) := by decide +kernel
theorem dX11_laysUnit_21 : decode cX11_laysUnit 21 = .ok (.aload_n 0, 1) := by decide +kernel
theorem dX11_laysUnit_22 : decode cX11_laysUnit 22 = .ok (.getfield 41, 3) := by decide +kernel
theorem dX11_laysUnit_25 : decode cX11_laysUnit 25 = .ok (.bipush 8, 2) := by decide +kernel
theorem dX11_laysUnit_27 : decode cX11_laysUnit 27 = .ok (.iload_n 1, 1) := by decide +kernel
theorem dX11_laysUnit_28 : decode cX11_laysUnit 28 = .ok (.iadd, 1) := by decide +kernel
theorem dX11_laysUnit_29 : decode cX11_laysUnit 29 = .ok (.iconst 2, 1) := by decide +kernel
theorem dX11_laysUnit_30 : decode cX11_laysUnit 30 = .ok (.aload_n 0, 1) := by decide +kernel
theorem dX11_laysUnit_31 : decode cX11_laysUnit 31 = .ok (.getfield 31, 3) := by decide +kernel
theorem dX11_laysUnit_34 : decode cX11_laysUnit 34 = .ok (.iload_n 1, 1) := by decide +kernel
theorem dX11_laysUnit_35 : decode cX11_laysUnit 35 = .ok (.iaload, 1) := by decide +kernel
theorem dX11_laysUnit_36 : decode cX11_laysUnit 36 = .ok (.iconst 1, 1) := by decide +kernel
theorem dX11_laysUnit_37 : decode cX11_laysUnit 37 = .ok (.isub, 1) := by decide +kernel
theorem dX11_laysUnit_38 : decode cX11_laysUnit 38 = .ok (.imul, 1) := by decide +kernel
theorem dX11_laysUnit_39 : decode cX11_laysUnit 39 = .ok (.iastore, 1) := by decide +kernel
theorem dX11_laysUnit_40 : decode cX11_laysUnit 40 = .ok (.iinc 1 1, 3) := by decide +kernel
theorem dX11_laysUnit_43 : decode cX11_laysUnit 43 = .ok (.goto (-30), 3) := by decide +kernel
theorem dX11_laysUnit_46 : decode cX11_laysUnit 46 = .ok (.aload_n 0, 1) := by decide +kernel
theorem dX11_laysUnit_47 : decode cX11_laysUnit 47 = .ok (.aload_n 0, 1) := by decide +kernel
theorem dX11_laysUnit_48 : decode cX11_laysUnit 48 = .ok (.getfield 41, 3) := by decide +kernel
theorem dX11_laysUnit_51 : decode cX11_laysUnit 51 = .ok (.invokevirtual 317, 3) := by decide +kernel
theorem dX11_laysUnit_54 : decode cX11_laysUnit 54 = .ok (.ifCond .ge 6, 3) := by decide +kernel
theorem dX11_laysUnit_57 : decode cX11_laysUnit 57 = .ok (.bipush (-3), 2) := by decide +kernel
theorem dX11_laysUnit_59 : decode cX11_laysUnit 59 = .ok (.ireturn, 1) := by decide +kernel
theorem dX11_laysUnit_60 : decode cX11_laysUnit 60 = .ok (.iconst 1, 1) := by decide +kernel
theorem dX11_laysUnit_61 : decode cX11_laysUnit 61 = .ok (.istore_n 1, 1) := by decide +kernel
theorem dX11_laysUnit_62 : decode cX11_laysUnit 62 = .ok (.iload_n 1, 1) := by decide +kernel
theorem dX11_laysUnit_63 : decode cX11_laysUnit 63 = .ok (.aload_n 0, 1) := by decide +kernel
theorem dX11_laysUnit_64 : decode cX11_laysUnit 64 = .ok (.getfield 28, 3) := by decide +kernel
theorem dX11_laysUnit_67 : decode cX11_laysUnit 67 = .ok (.if_icmp .ge 38, 3) := by decide +kernel
theorem dX11_laysUnit_70 : decode cX11_laysUnit 70 = .ok (.aload_n 0, 1) := by decide +kernel
theorem dX11_laysUnit_71 : decode cX11_laysUnit 71 = .ok (.getfield 41, 3) := by decide +kernel
theorem dX11_laysUnit_74 : decode cX11_laysUnit 74 = .ok (.bipush 8, 2) := by decide +kernel
theorem dX11_laysUnit_76 : decode cX11_laysUnit 76 = .ok (.iload_n 1, 1) := by decide +kernel
theorem dX11_laysUnit_77 : decode cX11_laysUnit 77 = .ok (.iadd, 1) := by decide +kernel
theorem dX11_laysUnit_78 : decode cX11_laysUnit 78 = .ok (.iconst 2, 1) := by decide +kernel
theorem dX11_laysUnit_79 : decode cX11_laysUnit 79 = .ok (.aload_n 0, 1) := by decide +kernel
theorem dX11_laysUnit_80 : decode cX11_laysUnit 80 = .ok (.getfield 31, 3) := by decide +kernel
theorem dX11_laysUnit_83 : decode cX11_laysUnit 83 = .ok (.iload_n 1, 1) := by decide +kernel
theorem dX11_laysUnit_84 : decode cX11_laysUnit 84 = .ok (.iaload, 1) := by decide +kernel
theorem dX11_laysUnit_85 : decode cX11_laysUnit 85 = .ok (.iconst 1, 1) := by decide +kernel
theorem dX11_laysUnit_86 : decode cX11_laysUnit 86 = .ok (.isub, 1) := by decide +kernel
theorem dX11_laysUnit_87 : decode cX11_laysUnit 87 = .ok (.imul, 1) := by decide +kernel
theorem dX11_laysUnit_88 : decode cX11_laysUnit 88 = .ok (.aload_n 0, 1) := by decide +kernel
theorem dX11_laysUnit_89 : decode cX11_laysUnit 89 = .ok (.getfield 41, 3) := by decide +kernel
theorem dX11_laysUnit_92 : decode cX11_laysUnit 92 = .ok (.bipush 8, 2) := by decide +kernel
theorem dX11_laysUnit_94 : decode cX11_laysUnit 94 = .ok (.iload_n 1, 1) := by decide +kernel
theorem dX11_laysUnit_95 : decode cX11_laysUnit 95 = .ok (.iadd, 1) := by decide +kernel
theorem dX11_laysUnit_96 : decode cX11_laysUnit 96 = .ok (.iaload, 1) := by decide +kernel
theorem dX11_laysUnit_97 : decode cX11_laysUnit 97 = .ok (.isub, 1) := by decide +kernel
theorem dX11_laysUnit_98 : decode cX11_laysUnit 98 = .ok (.iastore, 1) := by decide +kernel
theorem dX11_laysUnit_99 : decode cX11_laysUnit 99 = .ok (.iinc 1 1, 3) := by decide +kernel
theorem dX11_laysUnit_102 : decode cX11_laysUnit 102 = .ok (.goto (-40), 3) := by decide +kernel
theorem dX11_laysUnit_105 : decode cX11_laysUnit 105 = .ok (.aload_n 0, 1) := by decide +kernel
theorem dX11_laysUnit_106 : decode cX11_laysUnit 106 = .ok (.aload_n 0, 1) := by decide +kernel
theorem dX11_laysUnit_107 : decode cX11_laysUnit 107 = .ok (.getfield 41, 3) := by decide +kernel
theorem dX11_laysUnit_110 : decode cX11_laysUnit 110 = .ok (.invokevirtual 317, 3) := by decide +kernel
theorem dX11_laysUnit_113 : decode cX11_laysUnit 113 = .ok (.ireturn, 1) := by decide +kernel
theorem dX11_unit_0 : decode cX11_unit 0 = .ok (.aload_n 0, 1) := by decide +kernel
theorem dX11_unit_1 : decode cX11_unit 1 = .ok (.iconst 0, 1) := by decide +kernel
theorem dX11_unit_2 : decode cX11_unit 2 = .ok (.putfield 3, 3) := by decide +kernel
theorem dX11_unit_5 : decode cX11_unit 5 = .ok (.aload_n 0, 1) := by decide +kernel
theorem dX11_unit_6 : decode cX11_unit 6 = .ok (.invokevirtual 432, 3) := by decide +kernel
theorem dX11_unit_9 : decode cX11_unit 9 = .ok (.ifCond .ge 6, 3) := by decide +kernel
theorem dX11_unit_12 : decode cX11_unit 12 = .ok (.bipush (-3), 2) := by decide +kernel
theorem dX11_unit_14 : decode cX11_unit 14 = .ok (.ireturn, 1) := by decide +kernel
theorem dX11_unit_15 : decode cX11_unit 15 = .ok (.aload_n 0, 1) := by decide +kernel
theorem dX11_unit_16 : decode cX11_unit 16 = .ok (.aload_n 0, 1) := by decide +kernel
theorem dX11_unit_17 : decode cX11_unit 17 = .ok (.getfield 41, 3) := by decide +kernel
theorem dX11_unit_20 : decode cX11_unit 20 = .ok (.invokevirtual 435, 3) := by decide +kernel
theorem dX11_unit_23 : decode cX11_unit 23 = .ok (.aload_n 0, 1) := by decide +kernel
theorem dX11_unit_24 : decode cX11_unit 24 = .ok (.aload_n 0, 1) := by decide +kernel
theorem dX11_unit_25 : decode cX11_unit 25 = .ok (.getfield 41, 3) := by decide +kernel
theorem dX11_unit_28 : decode cX11_unit 28 = .ok (.invokevirtual 285, 3) := by decide +kernel
theorem dX11_unit_31 : decode cX11_unit 31 = .ok (.ireturn, 1) := by decide +kernel
theorem dX11_areCrowds_0 : decode cX11_areCrowds 0 = .ok (.iconst 1, 1) := by decide +kernel
theorem dX11_areCrowds_1 : decode cX11_areCrowds 1 = .ok (.istore_n 2, 1) := by decide +kernel
theorem dX11_areCrowds_2 : decode cX11_areCrowds 2 = .ok (.iconst 1, 1) := by decide +kernel
theorem dX11_areCrowds_3 : decode cX11_areCrowds 3 = .ok (.istore_n 3, 1) := by decide +kernel
theorem dX11_areCrowds_4 : decode cX11_areCrowds 4 = .ok (.iload_n 3, 1) := by decide +kernel
theorem dX11_areCrowds_5 : decode cX11_areCrowds 5 = .ok (.aload_n 0, 1) := by decide +kernel
theorem dX11_areCrowds_6 : decode cX11_areCrowds 6 = .ok (.getfield 28, 3) := by decide +kernel
theorem dX11_areCrowds_9 : decode cX11_areCrowds 9 = .ok (.if_icmp .ge 37, 3) := by decide +kernel
theorem dX11_areCrowds_12 : decode cX11_areCrowds 12 = .ok (.iload_n 2, 1) := by decide +kernel
theorem dX11_areCrowds_13 : decode cX11_areCrowds 13 = .ok (.ifCond .eq 25, 3) := by decide +kernel
theorem dX11_areCrowds_16 : decode cX11_areCrowds 16 = .ok (.aload_n 1, 1) := by decide +kernel
theorem dX11_areCrowds_17 : decode cX11_areCrowds 17 = .ok (.bipush 8, 2) := by decide +kernel
theorem dX11_areCrowds_19 : decode cX11_areCrowds 19 = .ok (.iload_n 3, 1) := by decide +kernel
theorem dX11_areCrowds_20 : decode cX11_areCrowds 20 = .ok (.iadd, 1) := by decide +kernel
theorem dX11_areCrowds_21 : decode cX11_areCrowds 21 = .ok (.iaload, 1) := by decide +kernel
theorem dX11_areCrowds_22 : decode cX11_areCrowds 22 = .ok (.aload_n 0, 1) := by decide +kernel
theorem dX11_areCrowds_23 : decode cX11_areCrowds 23 = .ok (.getfield 38, 3) := by decide +kernel
theorem dX11_areCrowds_26 : decode cX11_areCrowds 26 = .ok (.bipush 8, 2) := by decide +kernel
theorem dX11_areCrowds_28 : decode cX11_areCrowds 28 = .ok (.iload_n 3, 1) := by decide +kernel
theorem dX11_areCrowds_29 : decode cX11_areCrowds 29 = .ok (.iadd, 1) := by decide +kernel
theorem dX11_areCrowds_30 : decode cX11_areCrowds 30 = .ok (.iaload, 1) := by decide +kernel
theorem dX11_areCrowds_31 : decode cX11_areCrowds 31 = .ok (.if_icmp .ne 7, 3) := by decide +kernel
theorem dX11_areCrowds_34 : decode cX11_areCrowds 34 = .ok (.iconst 1, 1) := by decide +kernel
theorem dX11_areCrowds_35 : decode cX11_areCrowds 35 = .ok (.goto 4, 3) := by decide +kernel
theorem dX11_areCrowds_38 : decode cX11_areCrowds 38 = .ok (.iconst 0, 1) := by decide +kernel
theorem dX11_areCrowds_39 : decode cX11_areCrowds 39 = .ok (.istore_n 2, 1) := by decide +kernel
theorem dX11_areCrowds_40 : decode cX11_areCrowds 40 = .ok (.iinc 3 1, 3) := by decide +kernel
theorem dX11_areCrowds_43 : decode cX11_areCrowds 43 = .ok (.goto (-39), 3) := by decide +kernel
theorem dX11_areCrowds_46 : decode cX11_areCrowds 46 = .ok (.iload_n 2, 1) := by decide +kernel
theorem dX11_areCrowds_47 : decode cX11_areCrowds 47 = .ok (.ireturn, 1) := by decide +kernel
theorem dX11_returns_0 : decode cX11_returns 0 = .ok (.aload_n 0, 1) := by decide +kernel
theorem dX11_returns_1 : decode cX11_returns 1 = .ok (.iconst 0, 1) := by decide +kernel
theorem dX11_returns_2 : decode cX11_returns 2 = .ok (.putfield 3, 3) := by decide +kernel
theorem dX11_returns_5 : decode cX11_returns 5 = .ok (.aload_n 0, 1) := by decide +kernel
theorem dX11_returns_6 : decode cX11_returns 6 = .ok (.aload_n 0, 1) := by decide +kernel
theorem dX11_returns_7 : decode cX11_returns 7 = .ok (.getfield 38, 3) := by decide +kernel
theorem dX11_returns_10 : decode cX11_returns 10 = .ok (.invokevirtual 439, 3) := by decide +kernel
theorem dX11_returns_13 : decode cX11_returns 13 = .ok (.ifCond .eq 6, 3) := by decide +kernel
theorem dX11_returns_16 : decode cX11_returns 16 = .ok (.bipush (-2), 2) := by decide +kernel
theorem dX11_returns_18 : decode cX11_returns 18 = .ok (.ireturn, 1) := by decide +kernel
theorem dX11_returns_19 : decode cX11_returns 19 = .ok (.aload_n 0, 1) := by decide +kernel
theorem dX11_returns_20 : decode cX11_returns 20 = .ok (.invokevirtual 432, 3) := by decide +kernel
theorem dX11_returns_23 : decode cX11_returns 23 = .ok (.ifCond .ge 6, 3) := by decide +kernel
theorem dX11_returns_26 : decode cX11_returns 26 = .ok (.bipush (-3), 2) := by decide +kernel
theorem dX11_returns_28 : decode cX11_returns 28 = .ok (.ireturn, 1) := by decide +kernel
theorem dX11_returns_29 : decode cX11_returns 29 = .ok (.iconst 1, 1) := by decide +kernel
theorem dX11_returns_30 : decode cX11_returns 30 = .ok (.istore_n 1, 1) := by decide +kernel
theorem dX11_returns_31 : decode cX11_returns 31 = .ok (.iload_n 1, 1) := by decide +kernel
theorem dX11_returns_32 : decode cX11_returns 32 = .ok (.aload_n 0, 1) := by decide +kernel
theorem dX11_returns_33 : decode cX11_returns 33 = .ok (.getfield 28, 3) := by decide +kernel
theorem dX11_returns_36 : decode cX11_returns 36 = .ok (.if_icmp .ge 30, 3) := by decide +kernel
theorem dX11_returns_39 : decode cX11_returns 39 = .ok (.aload_n 0, 1) := by decide +kernel
theorem dX11_returns_40 : decode cX11_returns 40 = .ok (.getfield 41, 3) := by decide +kernel
theorem dX11_returns_43 : decode cX11_returns 43 = .ok (.bipush 8, 2) := by decide +kernel
theorem dX11_returns_45 : decode cX11_returns 45 = .ok (.iload_n 1, 1) := by decide +kernel
theorem dX11_returns_46 : decode cX11_returns 46 = .ok (.iadd, 1) := by decide +kernel
theorem dX11_returns_47 : decode cX11_returns 47 = .ok (.dup2, 1) := by decide +kernel
theorem dX11_returns_48 : decode cX11_returns 48 = .ok (.iaload, 1) := by decide +kernel
theorem dX11_returns_49 : decode cX11_returns 49 = .ok (.aload_n 0, 1) := by decide +kernel
theorem dX11_returns_50 : decode cX11_returns 50 = .ok (.getfield 38, 3) := by decide +kernel
theorem dX11_returns_53 : decode cX11_returns 53 = .ok (.bipush 8, 2) := by decide +kernel
theorem dX11_returns_55 : decode cX11_returns 55 = .ok (.iload_n 1, 1) := by decide +kernel
theorem dX11_returns_56 : decode cX11_returns 56 = .ok (.iadd, 1) := by decide +kernel
theorem dX11_returns_57 : decode cX11_returns 57 = .ok (.iaload, 1) := by decide +kernel
theorem dX11_returns_58 : decode cX11_returns 58 = .ok (.iadd, 1) := by decide +kernel
theorem dX11_returns_59 : decode cX11_returns 59 = .ok (.iastore, 1) := by decide +kernel
theorem dX11_returns_60 : decode cX11_returns 60 = .ok (.iinc 1 1, 3) := by decide +kernel
theorem dX11_returns_63 : decode cX11_returns 63 = .ok (.goto (-32), 3) := by decide +kernel
theorem dX11_returns_66 : decode cX11_returns 66 = .ok (.aload_n 0, 1) := by decide +kernel
theorem dX11_returns_67 : decode cX11_returns 67 = .ok (.aload_n 0, 1) := by decide +kernel
theorem dX11_returns_68 : decode cX11_returns 68 = .ok (.getfield 41, 3) := by decide +kernel
theorem dX11_returns_71 : decode cX11_returns 71 = .ok (.invokevirtual 317, 3) := by decide +kernel
theorem dX11_returns_74 : decode cX11_returns 74 = .ok (.ifCond .ge 6, 3) := by decide +kernel
theorem dX11_returns_77 : decode cX11_returns 77 = .ok (.bipush (-3), 2) := by decide +kernel
theorem dX11_returns_79 : decode cX11_returns 79 = .ok (.ireturn, 1) := by decide +kernel
theorem dX11_returns_80 : decode cX11_returns 80 = .ok (.aload_n 0, 1) := by decide +kernel
theorem dX11_returns_81 : decode cX11_returns 81 = .ok (.aload_n 0, 1) := by decide +kernel
theorem dX11_returns_82 : decode cX11_returns 82 = .ok (.getfield 41, 3) := by decide +kernel
theorem dX11_returns_85 : decode cX11_returns 85 = .ok (.invokevirtual 435, 3) := by decide +kernel
theorem dX11_returns_88 : decode cX11_returns 88 = .ok (.aload_n 0, 1) := by decide +kernel
theorem dX11_returns_89 : decode cX11_returns 89 = .ok (.aload_n 0, 1) := by decide +kernel
theorem dX11_returns_90 : decode cX11_returns 90 = .ok (.getfield 41, 3) := by decide +kernel
theorem dX11_returns_93 : decode cX11_returns 93 = .ok (.invokevirtual 443, 3) := by decide +kernel
theorem dX11_returns_96 : decode cX11_returns 96 = .ok (.invokestatic 151, 3) := by decide +kernel
theorem dX11_returns_99 : decode cX11_returns 99 = .ok (.ireturn, 1) := by decide +kernel
theorem dX11_joins_0 : decode cX11_joins 0 = .ok (.aload_n 0, 1) := by decide +kernel
theorem dX11_joins_1 : decode cX11_joins 1 = .ok (.iconst 0, 1) := by decide +kernel
theorem dX11_joins_2 : decode cX11_joins 2 = .ok (.putfield 3, 3) := by decide +kernel
theorem dX11_joins_5 : decode cX11_joins 5 = .ok (.iload_n 1, 1) := by decide +kernel
theorem dX11_joins_6 : decode cX11_joins 6 = .ok (.i2l, 1) := by decide +kernel
theorem dX11_joins_7 : decode cX11_joins 7 = .ok (.lconst 0, 1) := by decide +kernel
theorem dX11_joins_8 : decode cX11_joins 8 = .ok (.ldc2_w 446, 3) := by decide +kernel
theorem dX11_joins_11 : decode cX11_joins 11 = .ok (.invokestatic 129, 3) := by decide +kernel
theorem dX11_joins_14 : decode cX11_joins 14 = .ok (.ifCond .ne 5, 3) := by decide +kernel
theorem dX11_joins_17 : decode cX11_joins 17 = .ok (.iconst (-1), 1) := by decide +kernel
theorem dX11_joins_18 : decode cX11_joins 18 = .ok (.ireturn, 1) := by decide +kernel
theorem dX11_joins_19 : decode cX11_joins 19 = .ok (.aload_n 0, 1) := by decide +kernel
theorem dX11_joins_20 : decode cX11_joins 20 = .ok (.getfield 123, 3) := by decide +kernel
theorem dX11_joins_23 : decode cX11_joins 23 = .ok (.iload_n 1, 1) := by decide +kernel
theorem dX11_joins_24 : decode cX11_joins 24 = .ok (.baload, 1) := by decide +kernel
theorem dX11_joins_25 : decode cX11_joins 25 = .ok (.ifCond .ne 6, 3) := by decide +kernel
theorem dX11_joins_28 : decode cX11_joins 28 = .ok (.bipush (-2), 2) := by decide +kernel
theorem dX11_joins_30 : decode cX11_joins 30 = .ok (.ireturn, 1) := by decide +kernel
theorem dX11_joins_31 : decode cX11_joins 31 = .ok (.aload_n 0, 1) := by decide +kernel
theorem dX11_joins_32 : decode cX11_joins 32 = .ok (.getfield 41, 3) := by decide +kernel
theorem dX11_joins_35 : decode cX11_joins 35 = .ok (.aload_n 0, 1) := by decide +kernel
theorem dX11_joins_36 : decode cX11_joins 36 = .ok (.getfield 38, 3) := by decide +kernel
theorem dX11_joins_39 : decode cX11_joins 39 = .ok (.invokestatic 307, 3) := by decide +kernel
theorem dX11_joins_42 : decode cX11_joins 42 = .ok (.iconst 1, 1) := by decide +kernel
theorem dX11_joins_43 : decode cX11_joins 43 = .ok (.istore_n 2, 1) := by decide +kernel
theorem dX11_joins_44 : decode cX11_joins 44 = .ok (.iload_n 2, 1) := by decide +kernel
theorem dX11_joins_45 : decode cX11_joins 45 = .ok (.aload_n 0, 1) := by decide +kernel
theorem dX11_joins_46 : decode cX11_joins 46 = .ok (.getfield 28, 3) := by decide +kernel
theorem dX11_joins_49 : decode cX11_joins 49 = .ok (.if_icmp .ge 35, 3) := by decide +kernel
theorem dX11_joins_52 : decode cX11_joins 52 = .ok (.aload_n 0, 1) := by decide +kernel
theorem dX11_joins_53 : decode cX11_joins 53 = .ok (.getfield 41, 3) := by decide +kernel
theorem dX11_joins_56 : decode cX11_joins 56 = .ok (.bipush 8, 2) := by decide +kernel
theorem dX11_joins_58 : decode cX11_joins 58 = .ok (.iload_n 2, 1) := by decide +kernel
theorem dX11_joins_59 : decode cX11_joins 59 = .ok (.iadd, 1) := by decide +kernel
theorem dX11_joins_60 : decode cX11_joins 60 = .ok (.dup2, 1) := by decide +kernel
theorem dX11_joins_61 : decode cX11_joins 61 = .ok (.iaload, 1) := by decide +kernel
theorem dX11_joins_62 : decode cX11_joins 62 = .ok (.aload_n 0, 1) := by decide +kernel
theorem dX11_joins_63 : decode cX11_joins 63 = .ok (.getfield 126, 3) := by decide +kernel
theorem dX11_joins_66 : decode cX11_joins 66 = .ok (.bipush 17, 2) := by decide +kernel
theorem dX11_joins_68 : decode cX11_joins 68 = .ok (.iload_n 1, 1) := by decide +kernel
theorem dX11_joins_69 : decode cX11_joins 69 = .ok (.imul, 1) := by decide +kernel
theorem dX11_joins_70 : decode cX11_joins 70 = .ok (.bipush 8, 2) := by decide +kernel
theorem dX11_joins_72 : decode cX11_joins 72 = .ok (.iadd, 1) := by decide +kernel
theorem dX11_joins_73 : decode cX11_joins 73 = .ok (.iload_n 2, 1) := by decide +kernel
theorem dX11_joins_74 : decode cX11_joins 74 = .ok (.iadd, 1) := by decide +kernel
theorem dX11_joins_75 : decode cX11_joins 75 = .ok (.iaload, 1) := by decide +kernel
theorem dX11_joins_76 : decode cX11_joins 76 = .ok (.iadd, 1) := by decide +kernel
theorem dX11_joins_77 : decode cX11_joins 77 = .ok (.iastore, 1) := by decide +kernel
theorem dX11_joins_78 : decode cX11_joins 78 = .ok (.iinc 2 1, 3) := by decide +kernel
theorem dX11_joins_81 : decode cX11_joins 81 = .ok (.goto (-37), 3) := by decide +kernel
theorem dX11_joins_84 : decode cX11_joins 84 = .ok (.aload_n 0, 1) := by decide +kernel
theorem dX11_joins_85 : decode cX11_joins 85 = .ok (.aload_n 0, 1) := by decide +kernel
theorem dX11_joins_86 : decode cX11_joins 86 = .ok (.getfield 41, 3) := by decide +kernel
theorem dX11_joins_89 : decode cX11_joins 89 = .ok (.invokevirtual 317, 3) := by decide +kernel
theorem dX11_joins_92 : decode cX11_joins 92 = .ok (.istore_n 2, 1) := by decide +kernel
theorem dX11_joins_93 : decode cX11_joins 93 = .ok (.iload_n 2, 1) := by decide +kernel
theorem dX11_joins_94 : decode cX11_joins 94 = .ok (.ifCond .lt 11, 3) := by decide +kernel
theorem dX11_joins_97 : decode cX11_joins 97 = .ok (.aload_n 0, 1) := by decide +kernel
theorem dX11_joins_98 : decode cX11_joins 98 = .ok (.aload_n 0, 1) := by decide +kernel
theorem dX11_joins_99 : decode cX11_joins 99 = .ok (.getfield 41, 3) := by decide +kernel
theorem dX11_joins_102 : decode cX11_joins 102 = .ok (.invokevirtual 435, 3) := by decide +kernel
theorem dX11_joins_105 : decode cX11_joins 105 = .ok (.iload_n 2, 1) := by decide +kernel
theorem dX11_joins_106 : decode cX11_joins 106 = .ok (.ireturn, 1) := by decide +kernel
theorem dX11_recurs_0 : decode cX11_recurs 0 = .ok (.aload_n 0, 1) := by decide +kernel
theorem dX11_recurs_1 : decode cX11_recurs 1 = .ok (.iconst 0, 1) := by decide +kernel
theorem dX11_recurs_2 : decode cX11_recurs 2 = .ok (.putfield 3, 3) := by decide +kernel
theorem dX11_recurs_5 : decode cX11_recurs 5 = .ok (.aload_n 0, 1) := by decide +kernel
theorem dX11_recurs_6 : decode cX11_recurs 6 = .ok (.iload_n 1, 1) := by decide +kernel
theorem dX11_recurs_7 : decode cX11_recurs 7 = .ok (.invokevirtual 280, 3) := by decide +kernel
theorem dX11_recurs_10 : decode cX11_recurs 10 = .ok (.ifCond .ne 5, 3) := by decide +kernel
theorem dX11_recurs_13 : decode cX11_recurs 13 = .ok (.iconst (-1), 1) := by decide +kernel
theorem dX11_recurs_14 : decode cX11_recurs 14 = .ok (.ireturn, 1) := by decide +kernel
theorem dX11_recurs_15 : decode cX11_recurs 15 = .ok (.aload_n 0, 1) := by decide +kernel
theorem dX11_recurs_16 : decode cX11_recurs 16 = .ok (.aload_n 0, 1) := by decide +kernel
theorem dX11_recurs_17 : decode cX11_recurs 17 = .ok (.getfield 38, 3) := by decide +kernel
theorem dX11_recurs_20 : decode cX11_recurs 20 = .ok (.invokevirtual 439, 3) := by decide +kernel
theorem dX11_recurs_23 : decode cX11_recurs 23 = .ok (.ifCond .eq 6, 3) := by decide +kernel
theorem dX11_recurs_26 : decode cX11_recurs 26 = .ok (.bipush (-2), 2) := by decide +kernel
theorem dX11_recurs_28 : decode cX11_recurs 28 = .ok (.ireturn, 1) := by decide +kernel
theorem dX11_recurs_29 : decode cX11_recurs 29 = .ok (.aload_n 0, 1) := by decide +kernel
theorem dX11_recurs_30 : decode cX11_recurs 30 = .ok (.getfield 41, 3) := by decide +kernel
theorem dX11_recurs_33 : decode cX11_recurs 33 = .ok (.aload_n 0, 1) := by decide +kernel
theorem dX11_recurs_34 : decode cX11_recurs 34 = .ok (.getfield 38, 3) := by decide +kernel
theorem dX11_recurs_37 : decode cX11_recurs 37 = .ok (.invokestatic 307, 3) := by decide +kernel
theorem dX11_recurs_40 : decode cX11_recurs 40 = .ok (.iconst 0, 1) := by decide +kernel
theorem dX11_recurs_41 : decode cX11_recurs 41 = .ok (.istore_n 2, 1) := by decide +kernel
theorem dX11_recurs_42 : decode cX11_recurs 42 = .ok (.iconst 1, 1) := by decide +kernel
theorem dX11_recurs_43 : decode cX11_recurs 43 = .ok (.istore_n 3, 1) := by decide +kernel
theorem dX11_recurs_44 : decode cX11_recurs 44 = .ok (.iload_n 3, 1) := by decide +kernel
theorem dX11_recurs_45 : decode cX11_recurs 45 = .ok (.sipush 500, 3) := by decide +kernel
theorem dX11_recurs_48 : decode cX11_recurs 48 = .ok (.if_icmp .gt 69, 3) := by decide +kernel
theorem dX11_recurs_51 : decode cX11_recurs 51 = .ok (.aload_n 0, 1) := by decide +kernel
theorem dX11_recurs_52 : decode cX11_recurs 52 = .ok (.getfield 41, 3) := by decide +kernel
theorem dX11_recurs_55 : decode cX11_recurs 55 = .ok (.bipush 8, 2) := by decide +kernel
theorem dX11_recurs_57 : decode cX11_recurs 57 = .ok (.iload_n 1, 1) := by decide +kernel
theorem dX11_recurs_58 : decode cX11_recurs 58 = .ok (.iadd, 1) := by decide +kernel
theorem dX11_recurs_59 : decode cX11_recurs 59 = .ok (.dup2, 1) := by decide +kernel
theorem dX11_recurs_60 : decode cX11_recurs 60 = .ok (.iaload, 1) := by decide +kernel
theorem dX11_recurs_61 : decode cX11_recurs 61 = .ok (.iconst 1, 1) := by decide +kernel
theorem dX11_recurs_62 : decode cX11_recurs 62 = .ok (.iadd, 1) := by decide +kernel
theorem dX11_recurs_63 : decode cX11_recurs 63 = .ok (.iastore, 1) := by decide +kernel
theorem dX11_recurs_64 : decode cX11_recurs 64 = .ok (.aload_n 0, 1) := by decide +kernel
theorem dX11_recurs_65 : decode cX11_recurs 65 = .ok (.aload_n 0, 1) := by decide +kernel
theorem dX11_recurs_66 : decode cX11_recurs 66 = .ok (.getfield 41, 3) := by decide +kernel
theorem dX11_recurs_69 : decode cX11_recurs 69 = .ok (.invokevirtual 317, 3) := by decide +kernel
theorem dX11_recurs_72 : decode cX11_recurs 72 = .ok (.istore 4, 2) := by decide +kernel
theorem dX11_recurs_74 : decode cX11_recurs 74 = .ok (.iload 4, 2) := by decide +kernel
theorem dX11_recurs_76 : decode cX11_recurs 76 = .ok (.ifCond .ge 6, 3) := by decide +kernel
theorem dX11_recurs_79 : decode cX11_recurs 79 = .ok (.bipush (-3), 2) := by decide +kernel
theorem dX11_recurs_81 : decode cX11_recurs 81 = .ok (.ireturn, 1) := by decide +kernel
theorem dX11_recurs_82 : decode cX11_recurs 82 = .ok (.iload_n 2, 1) := by decide +kernel
theorem dX11_recurs_83 : decode cX11_recurs 83 = .ok (.iload 4, 2) := by decide +kernel
theorem dX11_recurs_85 : decode cX11_recurs 85 = .ok (.iadd, 1) := by decide +kernel
theorem dX11_recurs_86 : decode cX11_recurs 86 = .ok (.istore_n 2, 1) := by decide +kernel
theorem dX11_recurs_87 : decode cX11_recurs 87 = .ok (.aload_n 0, 1) := by decide +kernel
theorem dX11_recurs_88 : decode cX11_recurs 88 = .ok (.aload_n 0, 1) := by decide +kernel
theorem dX11_recurs_89 : decode cX11_recurs 89 = .ok (.getfield 41, 3) := by decide +kernel
theorem dX11_recurs_92 : decode cX11_recurs 92 = .ok (.invokevirtual 443, 3) := by decide +kernel
theorem dX11_recurs_95 : decode cX11_recurs 95 = .ok (.ifCond .eq 16, 3) := by decide +kernel
theorem dX11_recurs_98 : decode cX11_recurs 98 = .ok (.aload_n 0, 1) := by decide +kernel
theorem dX11_recurs_99 : decode cX11_recurs 99 = .ok (.iconst 0, 1) := by decide +kernel
theorem dX11_recurs_100 : decode cX11_recurs 100 = .ok (.putfield 15, 3) := by decide +kernel
theorem dX11_recurs_103 : decode cX11_recurs 103 = .ok (.aload_n 0, 1) := by decide +kernel
theorem dX11_recurs_104 : decode cX11_recurs 104 = .ok (.iload_n 2, 1) := by decide +kernel
theorem dX11_recurs_105 : decode cX11_recurs 105 = .ok (.i2l, 1) := by decide +kernel
theorem dX11_recurs_106 : decode cX11_recurs 106 = .ok (.invokevirtual 18, 3) := by decide +kernel
theorem dX11_recurs_109 : decode cX11_recurs 109 = .ok (.iload_n 3, 1) := by decide +kernel
theorem dX11_recurs_110 : decode cX11_recurs 110 = .ok (.ireturn, 1) := by decide +kernel
theorem dX11_recurs_111 : decode cX11_recurs 111 = .ok (.iinc 3 1, 3) := by decide +kernel
theorem dX11_recurs_114 : decode cX11_recurs 114 = .ok (.goto (-70), 3) := by decide +kernel
theorem dX11_recurs_117 : decode cX11_recurs 117 = .ok (.bipush (-2), 2) := by decide +kernel
theorem dX11_recurs_119 : decode cX11_recurs 119 = .ok (.ireturn, 1) := by decide +kernel
theorem dX11_trigger_0 : decode cX11_trigger 0 = .ok (.aload_n 0, 1) := by decide +kernel
theorem dX11_trigger_1 : decode cX11_trigger 1 = .ok (.iconst 0, 1) := by decide +kernel
theorem dX11_trigger_2 : decode cX11_trigger 2 = .ok (.putfield 3, 3) := by decide +kernel
theorem dX11_trigger_5 : decode cX11_trigger 5 = .ok (.aload_n 0, 1) := by decide +kernel
theorem dX11_trigger_6 : decode cX11_trigger 6 = .ok (.aload_n 0, 1) := by decide +kernel
theorem dX11_trigger_7 : decode cX11_trigger 7 = .ok (.getfield 38, 3) := by decide +kernel
theorem dX11_trigger_10 : decode cX11_trigger 10 = .ok (.invokevirtual 439, 3) := by decide +kernel
theorem dX11_trigger_13 : decode cX11_trigger 13 = .ok (.ifCond .eq 6, 3) := by decide +kernel
theorem dX11_trigger_16 : decode cX11_trigger 16 = .ok (.bipush (-2), 2) := by decide +kernel
theorem dX11_trigger_18 : decode cX11_trigger 18 = .ok (.ireturn, 1) := by decide +kernel
theorem dX11_trigger_19 : decode cX11_trigger 19 = .ok (.iconst 0, 1) := by decide +kernel
theorem dX11_trigger_20 : decode cX11_trigger 20 = .ok (.istore_n 1, 1) := by decide +kernel
theorem dX11_trigger_21 : decode cX11_trigger 21 = .ok (.iconst (-1), 1) := by decide +kernel
theorem dX11_trigger_22 : decode cX11_trigger 22 = .ok (.istore_n 2, 1) := by decide +kernel
theorem dX11_trigger_23 : decode cX11_trigger 23 = .ok (.iconst 1, 1) := by decide +kernel
theorem dX11_trigger_24 : decode cX11_trigger 24 = .ok (.istore_n 3, 1) := by decide +kernel
theorem dX11_trigger_25 : decode cX11_trigger 25 = .ok (.iload_n 3, 1) := by decide +kernel
theorem dX11_trigger_26 : decode cX11_trigger 26 = .ok (.aload_n 0, 1) := by decide +kernel
theorem dX11_trigger_27 : decode cX11_trigger 27 = .ok (.getfield 28, 3) := by decide +kernel
theorem dX11_trigger_30 : decode cX11_trigger 30 = .ok (.if_icmp .ge 70, 3) := by decide +kernel
theorem dX11_trigger_33 : decode cX11_trigger 33 = .ok (.aload_n 0, 1) := by decide +kernel
theorem dX11_trigger_34 : decode cX11_trigger 34 = .ok (.getfield 41, 3) := by decide +kernel
theorem dX11_trigger_37 : decode cX11_trigger 37 = .ok (.aload_n 0, 1) := by decide +kernel
theorem dX11_trigger_38 : decode cX11_trigger 38 = .ok (.getfield 38, 3) := by decide +kernel
theorem dX11_trigger_41 : decode cX11_trigger 41 = .ok (.invokestatic 307, 3) := by decide +kernel
theorem dX11_trigger_44 : decode cX11_trigger 44 = .ok (.aload_n 0, 1) := by decide +kernel
theorem dX11_trigger_45 : decode cX11_trigger 45 = .ok (.getfield 41, 3) := by decide +kernel
theorem dX11_trigger_48 : decode cX11_trigger 48 = .ok (.bipush 8, 2) := by decide +kernel
theorem dX11_trigger_50 : decode cX11_trigger 50 = .ok (.iload_n 3, 1) := by decide +kernel
theorem dX11_trigger_51 : decode cX11_trigger 51 = .ok (.iadd, 1) := by decide +kernel
theorem dX11_trigger_52 : decode cX11_trigger 52 = .ok (.dup2, 1) := by decide +kernel
theorem dX11_trigger_53 : decode cX11_trigger 53 = .ok (.iaload, 1) := by decide +kernel
theorem dX11_trigger_54 : decode cX11_trigger 54 = .ok (.iconst 1, 1) := by decide +kernel
theorem dX11_trigger_55 : decode cX11_trigger 55 = .ok (.iadd, 1) := by decide +kernel
theorem dX11_trigger_56 : decode cX11_trigger 56 = .ok (.iastore, 1) := by decide +kernel
theorem dX11_trigger_57 : decode cX11_trigger 57 = .ok (.aload_n 0, 1) := by decide +kernel
theorem dX11_trigger_58 : decode cX11_trigger 58 = .ok (.aload_n 0, 1) := by decide +kernel
theorem dX11_trigger_59 : decode cX11_trigger 59 = .ok (.getfield 41, 3) := by decide +kernel
theorem dX11_trigger_62 : decode cX11_trigger 62 = .ok (.invokevirtual 317, 3) := by decide +kernel
theorem dX11_trigger_65 : decode cX11_trigger 65 = .ok (.istore 4, 2) := by decide +kernel
theorem dX11_trigger_67 : decode cX11_trigger 67 = .ok (.iload 4, 2) := by decide +kernel
theorem dX11_trigger_69 : decode cX11_trigger 69 = .ok (.ifCond .ge 6, 3) := by decide +kernel
theorem dX11_trigger_72 : decode cX11_trigger 72 = .ok (.bipush (-3), 2) := by decide +kernel
theorem dX11_trigger_74 : decode cX11_trigger 74 = .ok (.ireturn, 1) := by decide +kernel
theorem dX11_trigger_75 : decode cX11_trigger 75 = .ok (.iload 4, 2) := by decide +kernel
theorem dX11_trigger_77 : decode cX11_trigger 77 = .ok (.iload_n 2, 1) := by decide +kernel
theorem dX11_trigger_78 : decode cX11_trigger 78 = .ok (.if_icmp .le 7, 3) := by decide +kernel
theorem dX11_trigger_81 : decode cX11_trigger 81 = .ok (.iload_n 3, 1) := by decide +kernel
theorem dX11_trigger_82 : decode cX11_trigger 82 = .ok (.goto 4, 3) := by decide +kernel
theorem dX11_trigger_85 : decode cX11_trigger 85 = .ok (.iload_n 1, 1) := by decide +kernel
theorem dX11_trigger_86 : decode cX11_trigger 86 = .ok (.istore_n 1, 1) := by decide +kernel
theorem dX11_trigger_87 : decode cX11_trigger 87 = .ok (.iload_n 2, 1) := by decide +kernel
theorem dX11_trigger_88 : decode cX11_trigger 88 = .ok (.iload 4, 2) := by decide +kernel
theorem dX11_trigger_90 : decode cX11_trigger 90 = .ok (.invokestatic 261, 3) := by decide +kernel
theorem dX11_trigger_93 : decode cX11_trigger 93 = .ok (.istore_n 2, 1) := by decide +kernel
theorem dX11_trigger_94 : decode cX11_trigger 94 = .ok (.iinc 3 1, 3) := by decide +kernel
theorem dX11_trigger_97 : decode cX11_trigger 97 = .ok (.goto (-72), 3) := by decide +kernel
theorem dX11_trigger_100 : decode cX11_trigger 100 = .ok (.aload_n 0, 1) := by decide +kernel
theorem dX11_trigger_101 : decode cX11_trigger 101 = .ok (.iconst 0, 1) := by decide +kernel
theorem dX11_trigger_102 : decode cX11_trigger 102 = .ok (.putfield 15, 3) := by decide +kernel
theorem dX11_trigger_105 : decode cX11_trigger 105 = .ok (.aload_n 0, 1) := by decide +kernel
theorem dX11_trigger_106 : decode cX11_trigger 106 = .ok (.iload_n 2, 1) := by decide +kernel
theorem dX11_trigger_107 : decode cX11_trigger 107 = .ok (.i2l, 1) := by decide +kernel
theorem dX11_trigger_108 : decode cX11_trigger 108 = .ok (.invokevirtual 18, 3) := by decide +kernel
theorem dX11_trigger_111 : decode cX11_trigger 111 = .ok (.iload_n 1, 1) := by decide +kernel
theorem dX11_trigger_112 : decode cX11_trigger 112 = .ok (.ireturn, 1) := by decide +kernel
theorem dX11_seen_0 : decode cX11_seen 0 = .ok (.aload_n 0, 1) := by decide +kernel
theorem dX11_seen_1 : decode cX11_seen 1 = .ok (.iconst 0, 1) := by decide +kernel
theorem dX11_seen_2 : decode cX11_seen 2 = .ok (.putfield 3, 3) := by decide +kernel
theorem dX11_seen_5 : decode cX11_seen 5 = .ok (.aload_n 0, 1) := by decide +kernel
theorem dX11_seen_6 : decode cX11_seen 6 = .ok (.iload_n 1, 1) := by decide +kernel
theorem dX11_seen_7 : decode cX11_seen 7 = .ok (.invokevirtual 280, 3) := by decide +kernel
theorem dX11_seen_10 : decode cX11_seen 10 = .ok (.ifCond .eq 32, 3) := by decide +kernel
theorem dX11_seen_13 : decode cX11_seen 13 = .ok (.iload_n 2, 1) := by decide +kernel
theorem dX11_seen_14 : decode cX11_seen 14 = .ok (.i2l, 1) := by decide +kernel
theorem dX11_seen_15 : decode cX11_seen 15 = .ok (.lconst 0, 1) := by decide +kernel
theorem dX11_seen_16 : decode cX11_seen 16 = .ok (.ldc2_w 448, 3) := by decide +kernel
theorem dX11_seen_19 : decode cX11_seen 19 = .ok (.invokestatic 129, 3) := by decide +kernel
theorem dX11_seen_22 : decode cX11_seen 22 = .ok (.ifCond .eq 20, 3) := by decide +kernel
theorem dX11_seen_25 : decode cX11_seen 25 = .ok (.aload_n 0, 1) := by decide +kernel
theorem dX11_seen_26 : decode cX11_seen 26 = .ok (.iload_n 3, 1) := by decide +kernel
theorem dX11_seen_27 : decode cX11_seen 27 = .ok (.invokevirtual 265, 3) := by decide +kernel
theorem dX11_seen_30 : decode cX11_seen 30 = .ok (.ifCond .eq 12, 3) := by decide +kernel
theorem dX11_seen_33 : decode cX11_seen 33 = .ok (.aload_n 0, 1) := by decide +kernel
theorem dX11_seen_34 : decode cX11_seen 34 = .ok (.getfield 203, 3) := by decide +kernel
theorem dX11_seen_37 : decode cX11_seen 37 = .ok (.bipush 10, 2) := by decide +kernel
theorem dX11_seen_39 : decode cX11_seen 39 = .ok (.if_icmp .ne 5, 3) := by decide +kernel
theorem dX11_seen_42 : decode cX11_seen 42 = .ok (.iconst (-1), 1) := by decide +kernel
theorem dX11_seen_43 : decode cX11_seen 43 = .ok (.ireturn, 1) := by decide +kernel
theorem dX11_seen_44 : decode cX11_seen 44 = .ok (.aload_n 0, 1) := by decide +kernel
theorem dX11_seen_45 : decode cX11_seen 45 = .ok (.getfield 98, 3) := by decide +kernel
theorem dX11_seen_48 : decode cX11_seen 48 = .ok (.aload_n 0, 1) := by decide +kernel
theorem dX11_seen_49 : decode cX11_seen 49 = .ok (.getfield 203, 3) := by decide +kernel
theorem dX11_seen_52 : decode cX11_seen 52 = .ok (.iload_n 1, 1) := by decide +kernel
theorem dX11_seen_53 : decode cX11_seen 53 = .ok (.iastore, 1) := by decide +kernel
theorem dX11_seen_54 : decode cX11_seen 54 = .ok (.aload_n 0, 1) := by decide +kernel
theorem dX11_seen_55 : decode cX11_seen 55 = .ok (.getfield 101, 3) := by decide +kernel
theorem dX11_seen_58 : decode cX11_seen 58 = .ok (.aload_n 0, 1) := by decide +kernel
theorem dX11_seen_59 : decode cX11_seen 59 = .ok (.getfield 203, 3) := by decide +kernel
theorem dX11_seen_62 : decode cX11_seen 62 = .ok (.iload_n 2, 1) := by decide +kernel
theorem dX11_seen_63 : decode cX11_seen 63 = .ok (.iastore, 1) := by decide +kernel
theorem dX11_seen_64 : decode cX11_seen 64 = .ok (.aload_n 0, 1) := by decide +kernel
theorem dX11_seen_65 : decode cX11_seen 65 = .ok (.getfield 104, 3) := by decide +kernel
theorem dX11_seen_68 : decode cX11_seen 68 = .ok (.aload_n 0, 1) := by decide +kernel
theorem dX11_seen_69 : decode cX11_seen 69 = .ok (.getfield 203, 3) := by decide +kernel
theorem dX11_seen_72 : decode cX11_seen 72 = .ok (.iload_n 3, 1) := by decide +kernel
theorem dX11_seen_73 : decode cX11_seen 73 = .ok (.iastore, 1) := by decide +kernel
theorem dX11_seen_74 : decode cX11_seen 74 = .ok (.aload_n 0, 1) := by decide +kernel
theorem dX11_seen_75 : decode cX11_seen 75 = .ok (.dup, 1) := by decide +kernel
theorem dX11_seen_76 : decode cX11_seen 76 = .ok (.getfield 203, 3) := by decide +kernel
theorem dX11_seen_79 : decode cX11_seen 79 = .ok (.iconst 1, 1) := by decide +kernel
theorem dX11_seen_80 : decode cX11_seen 80 = .ok (.iadd, 1) := by decide +kernel
theorem dX11_seen_81 : decode cX11_seen 81 = .ok (.putfield 203, 3) := by decide +kernel
theorem dX11_seen_84 : decode cX11_seen 84 = .ok (.aload_n 0, 1) := by decide +kernel
theorem dX11_seen_85 : decode cX11_seen 85 = .ok (.getfield 203, 3) := by decide +kernel
theorem dX11_seen_88 : decode cX11_seen 88 = .ok (.ireturn, 1) := by decide +kernel
theorem dX11_forget_0 : decode cX11_forget 0 = .ok (.aload_n 0, 1) := by decide +kernel
theorem dX11_forget_1 : decode cX11_forget 1 = .ok (.iconst 0, 1) := by decide +kernel
theorem dX11_forget_2 : decode cX11_forget 2 = .ok (.putfield 3, 3) := by decide +kernel
theorem dX11_forget_5 : decode cX11_forget 5 = .ok (.aload_n 0, 1) := by decide +kernel
theorem dX11_forget_6 : decode cX11_forget 6 = .ok (.getfield 203, 3) := by decide +kernel
theorem dX11_forget_9 : decode cX11_forget 9 = .ok (.istore_n 1, 1) := by decide +kernel
theorem dX11_forget_10 : decode cX11_forget 10 = .ok (.aload_n 0, 1) := by decide +kernel
theorem dX11_forget_11 : decode cX11_forget 11 = .ok (.iconst 0, 1) := by decide +kernel
theorem dX11_forget_12 : decode cX11_forget 12 = .ok (.putfield 203, 3) := by decide +kernel
theorem dX11_forget_15 : decode cX11_forget 15 = .ok (.iload_n 1, 1) := by decide +kernel
theorem dX11_forget_16 : decode cX11_forget 16 = .ok (.ireturn, 1) := by decide +kernel
theorem dX11_placeBy_0 : decode cX11_placeBy 0 = .ok (.aload_n 0, 1) := by decide +kernel
theorem dX11_placeBy_1 : decode cX11_placeBy 1 = .ok (.getfield 38, 3) := by decide +kernel
theorem dX11_placeBy_4 : decode cX11_placeBy 4 = .ok (.iload_n 1, 1) := by decide +kernel
theorem dX11_placeBy_5 : decode cX11_placeBy 5 = .ok (.iaload, 1) := by decide +kernel
theorem dX11_placeBy_6 : decode cX11_placeBy 6 = .ok (.istore 5, 2) := by decide +kernel
theorem dX11_placeBy_8 : decode cX11_placeBy 8 = .ok (.aload_n 0, 1) := by decide +kernel
theorem dX11_placeBy_9 : decode cX11_placeBy 9 = .ok (.getfield 38, 3) := by decide +kernel
theorem dX11_placeBy_12 : decode cX11_placeBy 12 = .ok (.iload_n 1, 1) := by decide +kernel
theorem dX11_placeBy_13 : decode cX11_placeBy 13 = .ok (.iload_n 2, 1) := by decide +kernel
theorem dX11_placeBy_14 : decode cX11_placeBy 14 = .ok (.iastore, 1) := by decide +kernel
theorem dX11_placeBy_15 : decode cX11_placeBy 15 = .ok (.aload_n 0, 1) := by decide +kernel
theorem dX11_placeBy_16 : decode cX11_placeBy 16 = .ok (.iload_n 3, 1) := by decide +kernel
theorem dX11_placeBy_17 : decode cX11_placeBy 17 = .ok (.iload 4, 2) := by decide +kernel
theorem dX11_placeBy_19 : decode cX11_placeBy 19 = .ok (.invokevirtual 365, 3) := by decide +kernel
theorem dX11_placeBy_22 : decode cX11_placeBy 22 = .ok (.istore 6, 2) := by decide +kernel
theorem dX11_placeBy_24 : decode cX11_placeBy 24 = .ok (.aload_n 0, 1) := by decide +kernel
theorem dX11_placeBy_25 : decode cX11_placeBy 25 = .ok (.getfield 38, 3) := by decide +kernel
theorem dX11_placeBy_28 : decode cX11_placeBy 28 = .ok (.iload_n 1, 1) := by decide +kernel
theorem dX11_placeBy_29 : decode cX11_placeBy 29 = .ok (.iload 5, 2) := by decide +kernel
theorem dX11_placeBy_31 : decode cX11_placeBy 31 = .ok (.iastore, 1) := by decide +kernel
theorem dX11_placeBy_32 : decode cX11_placeBy 32 = .ok (.iload 6, 2) := by decide +kernel
theorem dX11_placeBy_34 : decode cX11_placeBy 34 = .ok (.ireturn, 1) := by decide +kernel
