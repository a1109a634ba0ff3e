theorem dX4_init_0 : decode cX4_init 0 = .ok (.aload_n 0, 1) := by decide +kernel
theorem dX4_init_1 : decode cX4_init 1 = .ok (.invokespecial 1, 3) := by decide +kernel
theorem dX4_init_4 : decode cX4_init 4 = .ok (.aload_n 0, 1) := by decide +kernel
theorem dX4_init_5 : decode cX4_init 5 = .ok (.bipush 9, 2) := by decide +kernel
theorem dX4_init_7 : decode cX4_init 7 = .ok (.newarray .int, 2) := by decide +kernel
theorem dX4_init_9 : decode cX4_init 9 = .ok (.putfield 9, 3) := by decide +kernel
theorem dX4_init_12 : decode cX4_init 12 = .ok (.aload_n 0, 1) := by decide +kernel
theorem dX4_init_13 : decode cX4_init 13 = .ok (.bipush 9, 2) := by decide +kernel
theorem dX4_init_15 : decode cX4_init 15 = .ok (.newarray .int, 2) := by decide +kernel
theorem dX4_init_17 : decode cX4_init 17 = .ok (.putfield 13, 3) := by decide +kernel
theorem dX4_init_20 : decode cX4_init 20 = .ok (.aload_n 0, 1) := by decide +kernel
theorem dX4_init_21 : decode cX4_init 21 = .ok (.iconst (-1), 1) := by decide +kernel
theorem dX4_init_22 : decode cX4_init 22 = .ok (.putfield 16, 3) := by decide +kernel
theorem dX4_init_25 : decode cX4_init 25 = .ok (.aload_n 0, 1) := by decide +kernel
theorem dX4_init_26 : decode cX4_init 26 = .ok (.bipush 8, 2) := by decide +kernel
theorem dX4_init_28 : decode cX4_init 28 = .ok (.newarray .int, 2) := by decide +kernel
theorem dX4_init_30 : decode cX4_init 30 = .ok (.putfield 20, 3) := by decide +kernel
theorem dX4_init_33 : decode cX4_init 33 = .ok (.aload_n 0, 1) := by decide +kernel
theorem dX4_init_34 : decode cX4_init 34 = .ok (.bipush 8, 2) := by decide +kernel
theorem dX4_init_36 : decode cX4_init 36 = .ok (.newarray .long, 2) := by decide +kernel
theorem dX4_init_38 : decode cX4_init 38 = .ok (.putfield 23, 3) := by decide +kernel
theorem dX4_init_41 : decode cX4_init 41 = .ok (.aload_n 0, 1) := by decide +kernel
theorem dX4_init_42 : decode cX4_init 42 = .ok (.bipush 8, 2) := by decide +kernel
theorem dX4_init_44 : decode cX4_init 44 = .ok (.newarray .int, 2) := by decide +kernel
theorem dX4_init_46 : decode cX4_init 46 = .ok (.putfield 27, 3) := by decide +kernel
theorem dX4_init_49 : decode cX4_init 49 = .ok (.aload_n 0, 1) := by decide +kernel
theorem dX4_init_50 : decode cX4_init 50 = .ok (.bipush 8, 2) := by decide +kernel
theorem dX4_init_52 : decode cX4_init 52 = .ok (.newarray .int, 2) := by decide +kernel
theorem dX4_init_54 : decode cX4_init 54 = .ok (.putfield 30, 3) := by decide +kernel
theorem dX4_init_57 : decode cX4_init 57 = .ok (.aload_n 0, 1) := by decide +kernel
theorem dX4_init_58 : decode cX4_init 58 = .ok (.new 33, 3) := by decide +kernel
theorem dX4_init_61 : decode cX4_init 61 = .ok (.dup, 1) := by decide +kernel
theorem dX4_init_62 : decode cX4_init 62 = .ok (.invokespecial 35, 3) := by decide +kernel
theorem dX4_init_65 : decode cX4_init 65 = .ok (.putfield 36, 3) := by decide +kernel
theorem dX4_init_68 : decode cX4_init 68 = .ok (.aload_n 0, 1) := by decide +kernel
theorem dX4_init_69 : decode cX4_init 69 = .ok (.iconst (-1), 1) := by decide +kernel
theorem dX4_init_70 : decode cX4_init 70 = .ok (.putfield 40, 3) := by decide +kernel
theorem dX4_init_73 : decode cX4_init 73 = .ok (.aload_n 0, 1) := by decide +kernel
theorem dX4_init_74 : decode cX4_init 74 = .ok (.new 43, 3) := by decide +kernel
theorem dX4_init_77 : decode cX4_init 77 = .ok (.dup, 1) := by decide +kernel
theorem dX4_init_78 : decode cX4_init 78 = .ok (.invokespecial 45, 3) := by decide +kernel
theorem dX4_init_81 : decode cX4_init 81 = .ok (.putfield 46, 3) := by decide +kernel
theorem dX4_init_84 : decode cX4_init 84 = .ok (.aload_n 0, 1) := by decide +kernel
theorem dX4_init_85 : decode cX4_init 85 = .ok (.new 50, 3) := by decide +kernel
theorem dX4_init_88 : decode cX4_init 88 = .ok (.dup, 1) := by decide +kernel
theorem dX4_init_89 : decode cX4_init 89 = .ok (.bipush 9, 2) := by decide +kernel
theorem dX4_init_91 : decode cX4_init 91 = .ok (.invokespecial 52, 3) := by decide +kernel
theorem dX4_init_94 : decode cX4_init 94 = .ok (.putfield 55, 3) := by decide +kernel
theorem dX4_init_97 : decode cX4_init 97 = .ok (.aload_n 0, 1) := by decide +kernel
theorem dX4_init_98 : decode cX4_init 98 = .ok (.bipush 9, 2) := by decide +kernel
theorem dX4_init_100 : decode cX4_init 100 = .ok (.newarray .long, 2) := by decide +kernel
theorem dX4_init_102 : decode cX4_init 102 = .ok (.putfield 59, 3) := by decide +kernel
theorem dX4_init_105 : decode cX4_init 105 = .ok (.aload_n 0, 1) := by decide +kernel
theorem dX4_init_106 : decode cX4_init 106 = .ok (.bipush 8, 2) := by decide +kernel
theorem dX4_init_108 : decode cX4_init 108 = .ok (.newarray .long, 2) := by decide +kernel
theorem dX4_init_110 : decode cX4_init 110 = .ok (.putfield 62, 3) := by decide +kernel
theorem dX4_init_113 : decode cX4_init 113 = .ok (.aload_n 0, 1) := by decide +kernel
theorem dX4_init_114 : decode cX4_init 114 = .ok (.bipush 8, 2) := by decide +kernel
theorem dX4_init_116 : decode cX4_init 116 = .ok (.newarray .long, 2) := by decide +kernel
theorem dX4_init_118 : decode cX4_init 118 = .ok (.putfield 65, 3) := by decide +kernel
theorem dX4_init_121 : decode cX4_init 121 = .ok (.return_, 1) := by decide +kernel
theorem dX4_set_0 : decode cX4_set 0 = .ok (.iload_n 1, 1) := by decide +kernel
theorem dX4_set_1 : decode cX4_set 1 = .ok (.invokestatic 68, 3) := by decide +kernel
theorem dX4_set_4 : decode cX4_set 4 = .ok (.ifCond .eq 18, 3) := by decide +kernel
theorem dX4_set_7 : decode cX4_set 7 = .ok (.iload_n 2, 1) := by decide +kernel
theorem dX4_set_8 : decode cX4_set 8 = .ok (.invokestatic 72, 3) := by decide +kernel
theorem dX4_set_11 : decode cX4_set 11 = .ok (.ifCond .eq 11, 3) := by decide +kernel
theorem dX4_set_14 : decode cX4_set 14 = .ok (.iload_n 3, 1) := by decide +kernel
theorem dX4_set_15 : decode cX4_set 15 = .ok (.i2l, 1) := by decide +kernel
theorem dX4_set_16 : decode cX4_set 16 = .ok (.invokestatic 75, 3) := by decide +kernel
theorem dX4_set_19 : decode cX4_set 19 = .ok (.ifCond .ne 6, 3) := by decide +kernel
theorem dX4_set_22 : decode cX4_set 22 = .ok (.bipush (-2), 2) := by decide +kernel
theorem dX4_set_24 : decode cX4_set 24 = .ok (.ireturn, 1) := by decide +kernel
theorem dX4_set_25 : decode cX4_set 25 = .ok (.aload_n 0, 1) := by decide +kernel
theorem dX4_set_26 : decode cX4_set 26 = .ok (.iload_n 1, 1) := by decide +kernel
theorem dX4_set_27 : decode cX4_set 27 = .ok (.invokevirtual 79, 3) := by decide +kernel
theorem dX4_set_30 : decode cX4_set 30 = .ok (.iload_n 2, 1) := by decide +kernel
theorem dX4_set_31 : decode cX4_set 31 = .ok (.iload_n 3, 1) := by decide +kernel
theorem dX4_set_32 : decode cX4_set 32 = .ok (.iastore, 1) := by decide +kernel
theorem dX4_set_33 : decode cX4_set 33 = .ok (.aload_n 0, 1) := by decide +kernel
theorem dX4_set_34 : decode cX4_set 34 = .ok (.iconst (-1), 1) := by decide +kernel
theorem dX4_set_35 : decode cX4_set 35 = .ok (.putfield 40, 3) := by decide +kernel
theorem dX4_set_38 : decode cX4_set 38 = .ok (.iload_n 1, 1) := by decide +kernel
theorem dX4_set_39 : decode cX4_set 39 = .ok (.ifCond .ne 8, 3) := by decide +kernel
theorem dX4_set_42 : decode cX4_set 42 = .ok (.aload_n 0, 1) := by decide +kernel
theorem dX4_set_43 : decode cX4_set 43 = .ok (.iconst (-1), 1) := by decide +kernel
theorem dX4_set_44 : decode cX4_set 44 = .ok (.putfield 16, 3) := by decide +kernel
theorem dX4_set_47 : decode cX4_set 47 = .ok (.iconst 0, 1) := by decide +kernel
theorem dX4_set_48 : decode cX4_set 48 = .ok (.ireturn, 1) := by decide +kernel
theorem dX4_get_0 : decode cX4_get 0 = .ok (.iload_n 1, 1) := by decide +kernel
theorem dX4_get_1 : decode cX4_get 1 = .ok (.invokestatic 68, 3) := by decide +kernel
theorem dX4_get_4 : decode cX4_get 4 = .ok (.ifCond .eq 20, 3) := by decide +kernel
theorem dX4_get_7 : decode cX4_get 7 = .ok (.iload_n 2, 1) := by decide +kernel
theorem dX4_get_8 : decode cX4_get 8 = .ok (.invokestatic 72, 3) := by decide +kernel
theorem dX4_get_11 : decode cX4_get 11 = .ok (.ifCond .eq 13, 3) := by decide +kernel
theorem dX4_get_14 : decode cX4_get 14 = .ok (.aload_n 0, 1) := by decide +kernel
theorem dX4_get_15 : decode cX4_get 15 = .ok (.iload_n 1, 1) := by decide +kernel
theorem dX4_get_16 : decode cX4_get 16 = .ok (.invokevirtual 79, 3) := by decide +kernel
theorem dX4_get_19 : decode cX4_get 19 = .ok (.iload_n 2, 1) := by decide +kernel
theorem dX4_get_20 : decode cX4_get 20 = .ok (.iaload, 1) := by decide +kernel
theorem dX4_get_21 : decode cX4_get 21 = .ok (.goto 4, 3) := by decide +kernel
theorem dX4_get_24 : decode cX4_get 24 = .ok (.iconst 0, 1) := by decide +kernel
theorem dX4_get_25 : decode cX4_get 25 = .ok (.ireturn, 1) := by decide +kernel
theorem dX4_degree_0 : decode cX4_degree 0 = .ok (.iload_n 1, 1) := by decide +kernel
theorem dX4_degree_1 : decode cX4_degree 1 = .ok (.invokestatic 68, 3) := by decide +kernel
theorem dX4_degree_4 : decode cX4_degree 4 = .ok (.ifCond .eq 14, 3) := by decide +kernel
theorem dX4_degree_7 : decode cX4_degree 7 = .ok (.aload_n 0, 1) := by decide +kernel
theorem dX4_degree_8 : decode cX4_degree 8 = .ok (.iload_n 1, 1) := by decide +kernel
theorem dX4_degree_9 : decode cX4_degree 9 = .ok (.invokevirtual 79, 3) := by decide +kernel
theorem dX4_degree_12 : decode cX4_degree 12 = .ok (.invokestatic 83, 3) := by decide +kernel
theorem dX4_degree_15 : decode cX4_degree 15 = .ok (.goto 5, 3) := by decide +kernel
theorem dX4_degree_18 : decode cX4_degree 18 = .ok (.bipush (-2), 2) := by decide +kernel
theorem dX4_degree_20 : decode cX4_degree 20 = .ok (.ireturn, 1) := by decide +kernel
theorem dX4_sign_0 : decode cX4_sign 0 = .ok (.iload_n 1, 1) := by decide +kernel
theorem dX4_sign_1 : decode cX4_sign 1 = .ok (.invokestatic 68, 3) := by decide +kernel
theorem dX4_sign_4 : decode cX4_sign 4 = .ok (.ifCond .eq 26, 3) := by decide +kernel
theorem dX4_sign_7 : decode cX4_sign 7 = .ok (.iload 4, 2) := by decide +kernel
theorem dX4_sign_9 : decode cX4_sign 9 = .ok (.invokestatic 87, 3) := by decide +kernel
theorem dX4_sign_12 : decode cX4_sign 12 = .ok (.ifCond .eq 18, 3) := by decide +kernel
theorem dX4_sign_15 : decode cX4_sign 15 = .ok (.aload_n 0, 1) := by decide +kernel
theorem dX4_sign_16 : decode cX4_sign 16 = .ok (.aload_n 0, 1) := by decide +kernel
theorem dX4_sign_17 : decode cX4_sign 17 = .ok (.iload_n 1, 1) := by decide +kernel
theorem dX4_sign_18 : decode cX4_sign 18 = .ok (.invokevirtual 79, 3) := by decide +kernel
theorem dX4_sign_21 : decode cX4_sign 21 = .ok (.lload_n 2, 1) := by decide +kernel
theorem dX4_sign_22 : decode cX4_sign 22 = .ok (.iload 4, 2) := by decide +kernel
theorem dX4_sign_24 : decode cX4_sign 24 = .ok (.invokevirtual 90, 3) := by decide +kernel
theorem dX4_sign_27 : decode cX4_sign 27 = .ok (.goto 5, 3) := by decide +kernel
theorem dX4_sign_30 : decode cX4_sign 30 = .ok (.bipush (-2), 2) := by decide +kernel
theorem dX4_sign_32 : decode cX4_sign 32 = .ok (.ireturn, 1) := by decide +kernel
theorem dX4_between_0 : decode cX4_between 0 = .ok (.iload_n 1, 1) := by decide +kernel
theorem dX4_between_1 : decode cX4_between 1 = .ok (.invokestatic 68, 3) := by decide +kernel
theorem dX4_between_4 : decode cX4_between 4 = .ok (.ifCond .eq 19, 3) := by decide +kernel
theorem dX4_between_7 : decode cX4_between 7 = .ok (.iload 4, 2) := by decide +kernel
theorem dX4_between_9 : decode cX4_between 9 = .ok (.invokestatic 87, 3) := by decide +kernel
theorem dX4_between_12 : decode cX4_between 12 = .ok (.ifCond .eq 11, 3) := by decide +kernel
theorem dX4_between_15 : decode cX4_between 15 = .ok (.iload 7, 2) := by decide +kernel
theorem dX4_between_17 : decode cX4_between 17 = .ok (.invokestatic 87, 3) := by decide +kernel
theorem dX4_between_20 : decode cX4_between 20 = .ok (.ifCond .ne 6, 3) := by decide +kernel
theorem dX4_between_23 : decode cX4_between 23 = .ok (.bipush (-2), 2) := by decide +kernel
theorem dX4_between_25 : decode cX4_between 25 = .ok (.ireturn, 1) := by decide +kernel
theorem dX4_between_26 : decode cX4_between 26 = .ok (.aload_n 0, 1) := by decide +kernel
theorem dX4_between_27 : decode cX4_between 27 = .ok (.iload_n 1, 1) := by decide +kernel
theorem dX4_between_28 : decode cX4_between 28 = .ok (.invokevirtual 79, 3) := by decide +kernel
theorem dX4_between_31 : decode cX4_between 31 = .ok (.invokestatic 83, 3) := by decide +kernel
theorem dX4_between_34 : decode cX4_between 34 = .ok (.bipush (-3), 2) := by decide +kernel
theorem dX4_between_36 : decode cX4_between 36 = .ok (.if_icmp .ne 6, 3) := by decide +kernel
theorem dX4_between_39 : decode cX4_between 39 = .ok (.bipush (-3), 2) := by decide +kernel
theorem dX4_between_41 : decode cX4_between 41 = .ok (.ireturn, 1) := by decide +kernel
theorem dX4_between_42 : decode cX4_between 42 = .ok (.lload_n 2, 1) := by decide +kernel
theorem dX4_between_43 : decode cX4_between 43 = .ok (.iload 4, 2) := by decide +kernel
theorem dX4_between_45 : decode cX4_between 45 = .ok (.lload 5, 2) := by decide +kernel
theorem dX4_between_47 : decode cX4_between 47 = .ok (.iload 7, 2) := by decide +kernel
theorem dX4_between_49 : decode cX4_between 49 = .ok (.invokestatic 94, 3) := by decide +kernel
theorem dX4_between_52 : decode cX4_between 52 = .ok (.ifCond .ne 5, 3) := by decide +kernel
theorem dX4_between_55 : decode cX4_between 55 = .ok (.iconst 0, 1) := by decide +kernel
theorem dX4_between_56 : decode cX4_between 56 = .ok (.ireturn, 1) := by decide +kernel
theorem dX4_between_57 : decode cX4_between 57 = .ok (.aload_n 0, 1) := by decide +kernel
theorem dX4_between_58 : decode cX4_between 58 = .ok (.iload_n 1, 1) := by decide +kernel
theorem dX4_between_59 : decode cX4_between 59 = .ok (.ifCond .ne 7, 3) := by decide +kernel
theorem dX4_between_62 : decode cX4_between 62 = .ok (.iconst 0, 1) := by decide +kernel
theorem dX4_between_63 : decode cX4_between 63 = .ok (.goto 4, 3) := by decide +kernel
theorem dX4_between_66 : decode cX4_between 66 = .ok (.iconst 1, 1) := by decide +kernel
theorem dX4_between_67 : decode cX4_between 67 = .ok (.invokevirtual 98, 3) := by decide +kernel
theorem dX4_between_70 : decode cX4_between 70 = .ok (.aload_n 0, 1) := by decide +kernel
theorem dX4_between_71 : decode cX4_between 71 = .ok (.lload 5, 2) := by decide +kernel
theorem dX4_between_73 : decode cX4_between 73 = .ok (.iload 7, 2) := by decide +kernel
theorem dX4_between_75 : decode cX4_between 75 = .ok (.invokevirtual 101, 3) := by decide +kernel
theorem dX4_between_78 : decode cX4_between 78 = .ok (.aload_n 0, 1) := by decide +kernel
theorem dX4_between_79 : decode cX4_between 79 = .ok (.lload_n 2, 1) := by decide +kernel
theorem dX4_between_80 : decode cX4_between 80 = .ok (.iload 4, 2) := by decide +kernel
theorem dX4_between_82 : decode cX4_between 82 = .ok (.invokevirtual 101, 3) := by decide +kernel
theorem dX4_between_85 : decode cX4_between 85 = .ok (.isub, 1) := by decide +kernel
theorem dX4_between_86 : decode cX4_between 86 = .ok (.ireturn, 1) := by decide +kernel
theorem dX4_roots_0 : decode cX4_roots 0 = .ok (.iload_n 1, 1) := by decide +kernel
theorem dX4_roots_1 : decode cX4_roots 1 = .ok (.invokestatic 68, 3) := by decide +kernel
theorem dX4_roots_4 : decode cX4_roots 4 = .ok (.ifCond .ne 6, 3) := by decide +kernel
theorem dX4_roots_7 : decode cX4_roots 7 = .ok (.bipush (-2), 2) := by decide +kernel
theorem dX4_roots_9 : decode cX4_roots 9 = .ok (.ireturn, 1) := by decide +kernel
theorem dX4_roots_10 : decode cX4_roots 10 = .ok (.aload_n 0, 1) := by decide +kernel
theorem dX4_roots_11 : decode cX4_roots 11 = .ok (.iload_n 1, 1) := by decide +kernel
theorem dX4_roots_12 : decode cX4_roots 12 = .ok (.invokevirtual 79, 3) := by decide +kernel
theorem dX4_roots_15 : decode cX4_roots 15 = .ok (.invokestatic 83, 3) := by decide +kernel
theorem dX4_roots_18 : decode cX4_roots 18 = .ok (.bipush (-3), 2) := by decide +kernel
theorem dX4_roots_20 : decode cX4_roots 20 = .ok (.if_icmp .ne 6, 3) := by decide +kernel
theorem dX4_roots_23 : decode cX4_roots 23 = .ok (.bipush (-3), 2) := by decide +kernel
theorem dX4_roots_25 : decode cX4_roots 25 = .ok (.ireturn, 1) := by decide +kernel
theorem dX4_roots_26 : decode cX4_roots 26 = .ok (.aload_n 0, 1) := by decide +kernel
theorem dX4_roots_27 : decode cX4_roots 27 = .ok (.iload_n 1, 1) := by decide +kernel
theorem dX4_roots_28 : decode cX4_roots 28 = .ok (.ifCond .ne 7, 3) := by decide +kernel
theorem dX4_roots_31 : decode cX4_roots 31 = .ok (.iconst 0, 1) := by decide +kernel
theorem dX4_roots_32 : decode cX4_roots 32 = .ok (.goto 4, 3) := by decide +kernel
theorem dX4_roots_35 : decode cX4_roots 35 = .ok (.iconst 1, 1) := by decide +kernel
theorem dX4_roots_36 : decode cX4_roots 36 = .ok (.invokevirtual 98, 3) := by decide +kernel
theorem dX4_roots_39 : decode cX4_roots 39 = .ok (.aload_n 0, 1) := by decide +kernel
theorem dX4_roots_40 : decode cX4_roots 40 = .ok (.getfield 36, 3) := by decide +kernel
theorem dX4_roots_43 : decode cX4_roots 43 = .ok (.invokevirtual 105, 3) := by decide +kernel
theorem dX4_roots_46 : decode cX4_roots 46 = .ok (.ireturn, 1) := by decide +kernel
theorem dX4_isolate_0 : decode cX4_isolate 0 = .ok (.iload_n 1, 1) := by decide +kernel
theorem dX4_isolate_1 : decode cX4_isolate 1 = .ok (.invokestatic 87, 3) := by decide +kernel
theorem dX4_isolate_4 : decode cX4_isolate 4 = .ok (.ifCond .ne 6, 3) := by decide +kernel
theorem dX4_isolate_7 : decode cX4_isolate 7 = .ok (.bipush (-2), 2) := by decide +kernel
theorem dX4_isolate_9 : decode cX4_isolate 9 = .ok (.ireturn, 1) := by decide +kernel
theorem dX4_isolate_10 : decode cX4_isolate 10 = .ok (.aload_n 0, 1) := by decide +kernel
theorem dX4_isolate_11 : decode cX4_isolate 11 = .ok (.iconst (-1), 1) := by decide +kernel
theorem dX4_isolate_12 : decode cX4_isolate 12 = .ok (.putfield 16, 3) := by decide +kernel
theorem dX4_isolate_15 : decode cX4_isolate 15 = .ok (.aload_n 0, 1) := by decide +kernel
theorem dX4_isolate_16 : decode cX4_isolate 16 = .ok (.getfield 9, 3) := by decide +kernel
theorem dX4_isolate_19 : decode cX4_isolate 19 = .ok (.invokestatic 83, 3) := by decide +kernel
theorem dX4_isolate_22 : decode cX4_isolate 22 = .ok (.bipush (-3), 2) := by decide +kernel
theorem dX4_isolate_24 : decode cX4_isolate 24 = .ok (.if_icmp .ne 6, 3) := by decide +kernel
theorem dX4_isolate_27 : decode cX4_isolate 27 = .ok (.bipush (-3), 2) := by decide +kernel
theorem dX4_isolate_29 : decode cX4_isolate 29 = .ok (.ireturn, 1) := by decide +kernel
theorem dX4_isolate_30 : decode cX4_isolate 30 = .ok (.aload_n 0, 1) := by decide +kernel
theorem dX4_isolate_31 : decode cX4_isolate 31 = .ok (.iconst 0, 1) := by decide +kernel
theorem dX4_isolate_32 : decode cX4_isolate 32 = .ok (.invokevirtual 98, 3) := by decide +kernel
theorem dX4_isolate_35 : decode cX4_isolate 35 = .ok (.aload_n 0, 1) := by decide +kernel
theorem dX4_isolate_36 : decode cX4_isolate 36 = .ok (.getfield 36, 3) := by decide +kernel
theorem dX4_isolate_39 : decode cX4_isolate 39 = .ok (.invokevirtual 105, 3) := by decide +kernel
theorem dX4_isolate_42 : decode cX4_isolate 42 = .ok (.bipush 8, 2) := by decide +kernel
theorem dX4_isolate_44 : decode cX4_isolate 44 = .ok (.invokestatic 109, 3) := by decide +kernel
theorem dX4_isolate_47 : decode cX4_isolate 47 = .ok (.istore_n 2, 1) := by decide +kernel
theorem dX4_isolate_48 : decode cX4_isolate 48 = .ok (.aload_n 0, 1) := by decide +kernel
theorem dX4_isolate_49 : decode cX4_isolate 49 = .ok (.iload_n 2, 1) := by decide +kernel
theorem dX4_isolate_50 : decode cX4_isolate 50 = .ok (.iload_n 1, 1) := by decide +kernel
theorem dX4_isolate_51 : decode cX4_isolate 51 = .ok (.invokevirtual 115, 3) := by decide +kernel
theorem dX4_isolate_54 : decode cX4_isolate 54 = .ok (.aload_n 0, 1) := by decide +kernel
theorem dX4_isolate_55 : decode cX4_isolate 55 = .ok (.iload_n 2, 1) := by decide +kernel
theorem dX4_isolate_56 : decode cX4_isolate 56 = .ok (.iload_n 1, 1) := by decide +kernel
theorem dX4_isolate_57 : decode cX4_isolate 57 = .ok (.invokevirtual 119, 3) := by decide +kernel
theorem dX4_isolate_60 : decode cX4_isolate 60 = .ok (.ifCond .ne 6, 3) := by decide +kernel
theorem dX4_isolate_63 : decode cX4_isolate 63 = .ok (.bipush (-4), 2) := by decide +kernel
theorem dX4_isolate_65 : decode cX4_isolate 65 = .ok (.ireturn, 1) := by decide +kernel
theorem dX4_isolate_66 : decode cX4_isolate 66 = .ok (.aload_n 0, 1) := by decide +kernel
theorem dX4_isolate_67 : decode cX4_isolate 67 = .ok (.iload_n 2, 1) := by decide +kernel
theorem dX4_isolate_68 : decode cX4_isolate 68 = .ok (.invokevirtual 123, 3) := by decide +kernel
theorem dX4_isolate_71 : decode cX4_isolate 71 = .ok (.aload_n 0, 1) := by decide +kernel
theorem dX4_isolate_72 : decode cX4_isolate 72 = .ok (.iload_n 2, 1) := by decide +kernel
theorem dX4_isolate_73 : decode cX4_isolate 73 = .ok (.invokevirtual 126, 3) := by decide +kernel
theorem dX4_isolate_76 : decode cX4_isolate 76 = .ok (.aload_n 0, 1) := by decide +kernel
theorem dX4_isolate_77 : decode cX4_isolate 77 = .ok (.iload_n 2, 1) := by decide +kernel
theorem dX4_isolate_78 : decode cX4_isolate 78 = .ok (.putfield 16, 3) := by decide +kernel
theorem dX4_isolate_81 : decode cX4_isolate 81 = .ok (.iload_n 2, 1) := by decide +kernel
theorem dX4_isolate_82 : decode cX4_isolate 82 = .ok (.ireturn, 1) := by decide +kernel
theorem dX4_level_0 : decode cX4_level 0 = .ok (.aload_n 0, 1) := by decide +kernel
theorem dX4_level_1 : decode cX4_level 1 = .ok (.iload_n 1, 1) := by decide +kernel
theorem dX4_level_2 : decode cX4_level 2 = .ok (.invokevirtual 129, 3) := by decide +kernel
theorem dX4_level_5 : decode cX4_level 5 = .ok (.ifCond .eq 12, 3) := by decide +kernel
theorem dX4_level_8 : decode cX4_level 8 = .ok (.aload_n 0, 1) := by decide +kernel
theorem dX4_level_9 : decode cX4_level 9 = .ok (.getfield 20, 3) := by decide +kernel
theorem dX4_level_12 : decode cX4_level 12 = .ok (.iload_n 1, 1) := by decide +kernel
theorem dX4_level_13 : decode cX4_level 13 = .ok (.iaload, 1) := by decide +kernel
theorem dX4_level_14 : decode cX4_level 14 = .ok (.goto 4, 3) := by decide +kernel
theorem dX4_level_17 : decode cX4_level 17 = .ok (.iconst (-1), 1) := by decide +kernel
theorem dX4_level_18 : decode cX4_level 18 = .ok (.ireturn, 1) := by decide +kernel
theorem dX4_cell_0 : decode cX4_cell 0 = .ok (.aload_n 0, 1) := by decide +kernel
theorem dX4_cell_1 : decode cX4_cell 1 = .ok (.iload_n 1, 1) := by decide +kernel
theorem dX4_cell_2 : decode cX4_cell 2 = .ok (.invokevirtual 129, 3) := by decide +kernel
theorem dX4_cell_5 : decode cX4_cell 5 = .ok (.ifCond .eq 12, 3) := by decide +kernel
theorem dX4_cell_8 : decode cX4_cell 8 = .ok (.aload_n 0, 1) := by decide +kernel
theorem dX4_cell_9 : decode cX4_cell 9 = .ok (.getfield 23, 3) := by decide +kernel
theorem dX4_cell_12 : decode cX4_cell 12 = .ok (.iload_n 1, 1) := by decide +kernel
theorem dX4_cell_13 : decode cX4_cell 13 = .ok (.laload, 1) := by decide +kernel
theorem dX4_cell_14 : decode cX4_cell 14 = .ok (.goto 4, 3) := by decide +kernel
theorem dX4_cell_17 : decode cX4_cell 17 = .ok (.lconst 0, 1) := by decide +kernel
theorem dX4_cell_18 : decode cX4_cell 18 = .ok (.lreturn, 1) := by decide +kernel
theorem dX4_exact_0 : decode cX4_exact 0 = .ok (.aload_n 0, 1) := by decide +kernel
theorem dX4_exact_1 : decode cX4_exact 1 = .ok (.iload_n 1, 1) := by decide +kernel
theorem dX4_exact_2 : decode cX4_exact 2 = .ok (.invokevirtual 129, 3) := by decide +kernel
theorem dX4_exact_5 : decode cX4_exact 5 = .ok (.ifCond .eq 12, 3) := by decide +kernel
theorem dX4_exact_8 : decode cX4_exact 8 = .ok (.aload_n 0, 1) := by decide +kernel
theorem dX4_exact_9 : decode cX4_exact 9 = .ok (.getfield 27, 3) := by decide +kernel
theorem dX4_exact_12 : decode cX4_exact 12 = .ok (.iload_n 1, 1) := by decide +kernel
theorem dX4_exact_13 : decode cX4_exact 13 = .ok (.iaload, 1) := by decide +kernel
theorem dX4_exact_14 : decode cX4_exact 14 = .ok (.goto 4, 3) := by decide +kernel
theorem dX4_exact_17 : decode cX4_exact 17 = .ok (.iconst (-1), 1) := by decide +kernel
theorem dX4_exact_18 : decode cX4_exact 18 = .ok (.ireturn, 1) := by decide +kernel
theorem dX4_multiplicity_0 : decode cX4_multiplicity 0 = .ok (.aload_n 0, 1) := by decide +kernel
theorem dX4_multiplicity_1 : decode cX4_multiplicity 1 = .ok (.iload_n 1, 1) := by decide +kernel
theorem dX4_multiplicity_2 : decode cX4_multiplicity 2 = .ok (.invokevirtual 129, 3) := by decide +kernel
theorem dX4_multiplicity_5 : decode cX4_multiplicity 5 = .ok (.ifCond .eq 12, 3) := by decide +kernel
theorem dX4_multiplicity_8 : decode cX4_multiplicity 8 = .ok (.aload_n 0, 1) := by decide +kernel
theorem dX4_multiplicity_9 : decode cX4_multiplicity 9 = .ok (.getfield 30, 3) := by decide +kernel
theorem dX4_multiplicity_12 : decode cX4_multiplicity 12 = .ok (.iload_n 1, 1) := by decide +kernel
theorem dX4_multiplicity_13 : decode cX4_multiplicity 13 = .ok (.iaload, 1) := by decide +kernel
theorem dX4_multiplicity_14 : decode cX4_multiplicity 14 = .ok (.goto 4, 3) := by decide +kernel
theorem dX4_multiplicity_17 : decode cX4_multiplicity 17 = .ok (.iconst (-1), 1) := by decide +kernel
theorem dX4_multiplicity_18 : decode cX4_multiplicity 18 = .ok (.ireturn, 1) := by decide +kernel
theorem dX4_signAt_0 : decode cX4_signAt 0 = .ok (.aload_n 0, 1) := by decide +kernel
theorem dX4_signAt_1 : decode cX4_signAt 1 = .ok (.iload_n 1, 1) := by decide +kernel
theorem dX4_signAt_2 : decode cX4_signAt 2 = .ok (.invokevirtual 129, 3) := by decide +kernel
theorem dX4_signAt_5 : decode cX4_signAt 5 = .ok (.ifCond .ne 6, 3) := by decide +kernel
theorem dX4_signAt_8 : decode cX4_signAt 8 = .ok (.bipush (-9), 2) := by decide +kernel
theorem dX4_signAt_10 : decode cX4_signAt 10 = .ok (.ireturn, 1) := by decide +kernel
theorem dX4_signAt_11 : decode cX4_signAt 11 = .ok (.aload_n 0, 1) := by decide +kernel
theorem dX4_signAt_12 : decode cX4_signAt 12 = .ok (.getfield 23, 3) := by decide +kernel
theorem dX4_signAt_15 : decode cX4_signAt 15 = .ok (.iload_n 1, 1) := by decide +kernel
theorem dX4_signAt_16 : decode cX4_signAt 16 = .ok (.laload, 1) := by decide +kernel
theorem dX4_signAt_17 : decode cX4_signAt 17 = .ok (.lstore_n 2, 1) := by decide +kernel
theorem dX4_signAt_18 : decode cX4_signAt 18 = .ok (.aload_n 0, 1) := by decide +kernel
theorem dX4_signAt_19 : decode cX4_signAt 19 = .ok (.getfield 20, 3) := by decide +kernel
theorem dX4_signAt_22 : decode cX4_signAt 22 = .ok (.iload_n 1, 1) := by decide +kernel
theorem dX4_signAt_23 : decode cX4_signAt 23 = .ok (.iaload, 1) := by decide +kernel
theorem dX4_signAt_24 : decode cX4_signAt 24 = .ok (.istore 4, 2) := by decide +kernel
theorem dX4_signAt_26 : decode cX4_signAt 26 = .ok (.aload_n 0, 1) := by decide +kernel
theorem dX4_signAt_27 : decode cX4_signAt 27 = .ok (.getfield 27, 3) := by decide +kernel
theorem dX4_signAt_30 : decode cX4_signAt 30 = .ok (.iload_n 1, 1) := by decide +kernel
theorem dX4_signAt_31 : decode cX4_signAt 31 = .ok (.iaload, 1) := by decide +kernel
theorem dX4_signAt_32 : decode cX4_signAt 32 = .ok (.iconst 1, 1) := by decide +kernel
theorem dX4_signAt_33 : decode cX4_signAt 33 = .ok (.if_icmp .eq 13, 3) := by decide +kernel
theorem dX4_signAt_36 : decode cX4_signAt 36 = .ok (.aload_n 0, 1) := by decide +kernel
theorem dX4_signAt_37 : decode cX4_signAt 37 = .ok (.getfield 13, 3) := by decide +kernel
theorem dX4_signAt_40 : decode cX4_signAt 40 = .ok (.invokestatic 83, 3) := by decide +kernel
theorem dX4_signAt_43 : decode cX4_signAt 43 = .ok (.ifCond .gt 17, 3) := by decide +kernel
theorem dX4_signAt_46 : decode cX4_signAt 46 = .ok (.aload_n 0, 1) := by decide +kernel
theorem dX4_signAt_47 : decode cX4_signAt 47 = .ok (.aload_n 0, 1) := by decide +kernel
theorem dX4_signAt_48 : decode cX4_signAt 48 = .ok (.getfield 13, 3) := by decide +kernel
theorem dX4_signAt_51 : decode cX4_signAt 51 = .ok (.lload_n 2, 1) := by decide +kernel
theorem dX4_signAt_52 : decode cX4_signAt 52 = .ok (.lconst 1, 1) := by decide +kernel
theorem dX4_signAt_53 : decode cX4_signAt 53 = .ok (.ladd, 1) := by decide +kernel
theorem dX4_signAt_54 : decode cX4_signAt 54 = .ok (.iload 4, 2) := by decide +kernel
theorem dX4_signAt_56 : decode cX4_signAt 56 = .ok (.invokevirtual 90, 3) := by decide +kernel
theorem dX4_signAt_59 : decode cX4_signAt 59 = .ok (.ireturn, 1) := by decide +kernel
theorem dX4_signAt_60 : decode cX4_signAt 60 = .ok (.aload_n 0, 1) := by decide +kernel
theorem dX4_signAt_61 : decode cX4_signAt 61 = .ok (.iconst 2, 1) := by decide +kernel
theorem dX4_signAt_62 : decode cX4_signAt 62 = .ok (.invokevirtual 98, 3) := by decide +kernel
theorem dX4_signAt_65 : decode cX4_signAt 65 = .ok (.aload_n 0, 1) := by decide +kernel
theorem dX4_signAt_66 : decode cX4_signAt 66 = .ok (.getfield 46, 3) := by decide +kernel
theorem dX4_signAt_69 : decode cX4_signAt 69 = .ok (.lload_n 2, 1) := by decide +kernel
theorem dX4_signAt_70 : decode cX4_signAt 70 = .ok (.iload 4, 2) := by decide +kernel
theorem dX4_signAt_72 : decode cX4_signAt 72 = .ok (.invokevirtual 132, 3) := by decide +kernel
theorem dX4_signAt_75 : decode cX4_signAt 75 = .ok (.aload_n 0, 1) := by decide +kernel
theorem dX4_signAt_76 : decode cX4_signAt 76 = .ok (.getfield 36, 3) := by decide +kernel
theorem dX4_signAt_79 : decode cX4_signAt 79 = .ok (.aload_n 0, 1) := by decide +kernel
theorem dX4_signAt_80 : decode cX4_signAt 80 = .ok (.getfield 46, 3) := by decide +kernel
theorem dX4_signAt_83 : decode cX4_signAt 83 = .ok (.iconst 1, 1) := by decide +kernel
theorem dX4_signAt_84 : decode cX4_signAt 84 = .ok (.invokevirtual 136, 3) := by decide +kernel
theorem dX4_signAt_87 : decode cX4_signAt 87 = .ok (.istore 5, 2) := by decide +kernel
theorem dX4_signAt_89 : decode cX4_signAt 89 = .ok (.aload_n 0, 1) := by decide +kernel
theorem dX4_signAt_90 : decode cX4_signAt 90 = .ok (.aload_n 0, 1) := by decide +kernel
theorem dX4_signAt_91 : decode cX4_signAt 91 = .ok (.getfield 9, 3) := by decide +kernel
theorem dX4_signAt_94 : decode cX4_signAt 94 = .ok (.lload_n 2, 1) := by decide +kernel
theorem dX4_signAt_95 : decode cX4_signAt 95 = .ok (.iload 4, 2) := by decide +kernel
theorem dX4_signAt_97 : decode cX4_signAt 97 = .ok (.invokevirtual 90, 3) := by decide +kernel
theorem dX4_signAt_100 : decode cX4_signAt 100 = .ok (.ifCond .ne 20, 3) := by decide +kernel
theorem dX4_signAt_103 : decode cX4_signAt 103 = .ok (.aload_n 0, 1) := by decide +kernel
theorem dX4_signAt_104 : decode cX4_signAt 104 = .ok (.aload_n 0, 1) := by decide +kernel
theorem dX4_signAt_105 : decode cX4_signAt 105 = .ok (.getfield 13, 3) := by decide +kernel
theorem dX4_signAt_108 : decode cX4_signAt 108 = .ok (.lload_n 2, 1) := by decide +kernel
theorem dX4_signAt_109 : decode cX4_signAt 109 = .ok (.iload 4, 2) := by decide +kernel
theorem dX4_signAt_111 : decode cX4_signAt 111 = .ok (.invokevirtual 90, 3) := by decide +kernel
theorem dX4_signAt_114 : decode cX4_signAt 114 = .ok (.ifCond .ge 6, 3) := by decide +kernel
theorem dX4_signAt_117 : decode cX4_signAt 117 = .ok (.iinc 5 1, 3) := by decide +kernel
theorem dX4_signAt_120 : decode cX4_signAt 120 = .ok (.aload_n 0, 1) := by decide +kernel
theorem dX4_signAt_121 : decode cX4_signAt 121 = .ok (.getfield 46, 3) := by decide +kernel
theorem dX4_signAt_124 : decode cX4_signAt 124 = .ok (.lload_n 2, 1) := by decide +kernel
theorem dX4_signAt_125 : decode cX4_signAt 125 = .ok (.lconst 1, 1) := by decide +kernel
theorem dX4_signAt_126 : decode cX4_signAt 126 = .ok (.ladd, 1) := by decide +kernel
theorem dX4_signAt_127 : decode cX4_signAt 127 = .ok (.iload 4, 2) := by decide +kernel
theorem dX4_signAt_129 : decode cX4_signAt 129 = .ok (.invokevirtual 132, 3) := by decide +kernel
theorem dX4_signAt_132 : decode cX4_signAt 132 = .ok (.iload 5, 2) := by decide +kernel
theorem dX4_signAt_134 : decode cX4_signAt 134 = .ok (.aload_n 0, 1) := by decide +kernel
theorem dX4_signAt_135 : decode cX4_signAt 135 = .ok (.getfield 36, 3) := by decide +kernel
theorem dX4_signAt_138 : decode cX4_signAt 138 = .ok (.aload_n 0, 1) := by decide +kernel
theorem dX4_signAt_139 : decode cX4_signAt 139 = .ok (.getfield 46, 3) := by decide +kernel
theorem dX4_signAt_142 : decode cX4_signAt 142 = .ok (.iconst 1, 1) := by decide +kernel
theorem dX4_signAt_143 : decode cX4_signAt 143 = .ok (.invokevirtual 136, 3) := by decide +kernel
theorem dX4_signAt_146 : decode cX4_signAt 146 = .ok (.isub, 1) := by decide +kernel
theorem dX4_signAt_147 : decode cX4_signAt 147 = .ok (.ireturn, 1) := by decide +kernel
theorem dX4_common_0 : decode cX4_common 0 = .ok (.aload_n 0, 1) := by decide +kernel
theorem dX4_common_1 : decode cX4_common 1 = .ok (.getfield 9, 3) := by decide +kernel
theorem dX4_common_4 : decode cX4_common 4 = .ok (.invokestatic 83, 3) := by decide +kernel
theorem dX4_common_7 : decode cX4_common 7 = .ok (.bipush (-3), 2) := by decide +kernel
theorem dX4_common_9 : decode cX4_common 9 = .ok (.if_icmp .eq 15, 3) := by decide +kernel
theorem dX4_common_12 : decode cX4_common 12 = .ok (.aload_n 0, 1) := by decide +kernel
theorem dX4_common_13 : decode cX4_common 13 = .ok (.getfield 13, 3) := by decide +kernel
theorem dX4_common_16 : decode cX4_common 16 = .ok (.invokestatic 83, 3) := by decide +kernel
theorem dX4_common_19 : decode cX4_common 19 = .ok (.bipush (-3), 2) := by decide +kernel
theorem dX4_common_21 : decode cX4_common 21 = .ok (.if_icmp .ne 6, 3) := by decide +kernel
theorem dX4_common_24 : decode cX4_common 24 = .ok (.bipush (-3), 2) := by decide +kernel
theorem dX4_common_26 : decode cX4_common 26 = .ok (.ireturn, 1) := by decide +kernel
theorem dX4_common_27 : decode cX4_common 27 = .ok (.aload_n 0, 1) := by decide +kernel
theorem dX4_common_28 : decode cX4_common 28 = .ok (.iconst (-1), 1) := by decide +kernel
theorem dX4_common_29 : decode cX4_common 29 = .ok (.putfield 40, 3) := by decide +kernel
theorem dX4_common_32 : decode cX4_common 32 = .ok (.aload_n 0, 1) := by decide +kernel
theorem dX4_common_33 : decode cX4_common 33 = .ok (.getfield 36, 3) := by decide +kernel
theorem dX4_common_36 : decode cX4_common 36 = .ok (.aload_n 0, 1) := by decide +kernel
theorem dX4_common_37 : decode cX4_common 37 = .ok (.getfield 9, 3) := by decide +kernel
theorem dX4_common_40 : decode cX4_common 40 = .ok (.aload_n 0, 1) := by decide +kernel
theorem dX4_common_41 : decode cX4_common 41 = .ok (.getfield 13, 3) := by decide +kernel
theorem dX4_common_44 : decode cX4_common 44 = .ok (.invokevirtual 140, 3) := by decide +kernel
theorem dX4_common_47 : decode cX4_common 47 = .ok (.aload_n 0, 1) := by decide +kernel
theorem dX4_common_48 : decode cX4_common 48 = .ok (.getfield 36, 3) := by decide +kernel
theorem dX4_common_51 : decode cX4_common 51 = .ok (.invokevirtual 144, 3) := by decide +kernel
theorem dX4_common_54 : decode cX4_common 54 = .ok (.ifCond .gt 5, 3) := by decide +kernel
theorem dX4_common_57 : decode cX4_common 57 = .ok (.iconst 0, 1) := by decide +kernel
theorem dX4_common_58 : decode cX4_common 58 = .ok (.ireturn, 1) := by decide +kernel
theorem dX4_common_59 : decode cX4_common 59 = .ok (.aload_n 0, 1) := by decide +kernel
theorem dX4_common_60 : decode cX4_common 60 = .ok (.getfield 36, 3) := by decide +kernel
theorem dX4_common_63 : decode cX4_common 63 = .ok (.invokevirtual 147, 3) := by decide +kernel
theorem dX4_common_66 : decode cX4_common 66 = .ok (.aload_n 0, 1) := by decide +kernel
theorem dX4_common_67 : decode cX4_common 67 = .ok (.getfield 36, 3) := by decide +kernel
theorem dX4_common_70 : decode cX4_common 70 = .ok (.invokevirtual 105, 3) := by decide +kernel
theorem dX4_common_73 : decode cX4_common 73 = .ok (.ireturn, 1) := by decide +kernel
theorem dX4_divisor_0 : decode cX4_divisor 0 = .ok (.aload_n 0, 1) := by decide +kernel
theorem dX4_divisor_1 : decode cX4_divisor 1 = .ok (.getfield 9, 3) := by decide +kernel
theorem dX4_divisor_4 : decode cX4_divisor 4 = .ok (.invokestatic 83, 3) := by decide +kernel
theorem dX4_divisor_7 : decode cX4_divisor 7 = .ok (.istore_n 1, 1) := by decide +kernel
theorem dX4_divisor_8 : decode cX4_divisor 8 = .ok (.aload_n 0, 1) := by decide +kernel
theorem dX4_divisor_9 : decode cX4_divisor 9 = .ok (.getfield 13, 3) := by decide +kernel
theorem dX4_divisor_12 : decode cX4_divisor 12 = .ok (.invokestatic 83, 3) := by decide +kernel
theorem dX4_divisor_15 : decode cX4_divisor 15 = .ok (.istore_n 2, 1) := by decide +kernel
theorem dX4_divisor_16 : decode cX4_divisor 16 = .ok (.iload_n 1, 1) := by decide +kernel
theorem dX4_divisor_17 : decode cX4_divisor 17 = .ok (.bipush (-3), 2) := by decide +kernel
theorem dX4_divisor_19 : decode cX4_divisor 19 = .ok (.if_icmp .eq 9, 3) := by decide +kernel
theorem dX4_divisor_22 : decode cX4_divisor 22 = .ok (.iload_n 2, 1) := by decide +kernel
theorem dX4_divisor_23 : decode cX4_divisor 23 = .ok (.bipush (-3), 2) := by decide +kernel
theorem dX4_divisor_25 : decode cX4_divisor 25 = .ok (.if_icmp .ne 15, 3) := by decide +kernel
theorem dX4_divisor_28 : decode cX4_divisor 28 = .ok (.iload_n 1, 1) := by decide +kernel
theorem dX4_divisor_29 : decode cX4_divisor 29 = .ok (.bipush (-3), 2) := by decide +kernel
theorem dX4_divisor_31 : decode cX4_divisor 31 = .ok (.if_icmp .ne 7, 3) := by decide +kernel
theorem dX4_divisor_34 : decode cX4_divisor 34 = .ok (.iload_n 2, 1) := by decide +kernel
theorem dX4_divisor_35 : decode cX4_divisor 35 = .ok (.goto 4, 3) := by decide +kernel
theorem dX4_divisor_38 : decode cX4_divisor 38 = .ok (.iload_n 1, 1) := by decide +kernel
theorem dX4_divisor_39 : decode cX4_divisor 39 = .ok (.ireturn, 1) := by decide +kernel
theorem dX4_divisor_40 : decode cX4_divisor 40 = .ok (.aload_n 0, 1) := by decide +kernel
theorem dX4_divisor_41 : decode cX4_divisor 41 = .ok (.iconst (-1), 1) := by decide +kernel
theorem dX4_divisor_42 : decode cX4_divisor 42 = .ok (.putfield 40, 3) := by decide +kernel
theorem dX4_divisor_45 : decode cX4_divisor 45 = .ok (.aload_n 0, 1) := by decide +kernel
theorem dX4_divisor_46 : decode cX4_divisor 46 = .ok (.getfield 36, 3) := by decide +kernel
theorem dX4_divisor_49 : decode cX4_divisor 49 = .ok (.aload_n 0, 1) := by decide +kernel
theorem dX4_divisor_50 : decode cX4_divisor 50 = .ok (.getfield 9, 3) := by decide +kernel
theorem dX4_divisor_53 : decode cX4_divisor 53 = .ok (.aload_n 0, 1) := by decide +kernel
theorem dX4_divisor_54 : decode cX4_divisor 54 = .ok (.getfield 13, 3) := by decide +kernel
theorem dX4_divisor_57 : decode cX4_divisor 57 = .ok (.invokevirtual 140, 3) := by decide +kernel
theorem dX4_divisor_60 : decode cX4_divisor 60 = .ok (.aload_n 0, 1) := by decide +kernel
theorem dX4_divisor_61 : decode cX4_divisor 61 = .ok (.getfield 36, 3) := by decide +kernel
theorem dX4_divisor_64 : decode cX4_divisor 64 = .ok (.invokevirtual 144, 3) := by decide +kernel
theorem dX4_divisor_67 : decode cX4_divisor 67 = .ok (.ireturn, 1) := by decide +kernel
theorem dX4_derive_0 : decode cX4_derive 0 = .ok (.iconst 1, 1) := by decide +kernel
theorem dX4_derive_1 : decode cX4_derive 1 = .ok (.istore_n 1, 1) := by decide +kernel
theorem dX4_derive_2 : decode cX4_derive 2 = .ok (.iload_n 1, 1) := by decide +kernel
theorem dX4_derive_3 : decode cX4_derive 3 = .ok (.bipush 8, 2) := by decide +kernel
theorem dX4_derive_5 : decode cX4_derive 5 = .ok (.if_icmp .gt 27, 3) := by decide +kernel
theorem dX4_derive_8 : decode cX4_derive 8 = .ok (.aload_n 0, 1) := by decide +kernel
theorem dX4_derive_9 : decode cX4_derive 9 = .ok (.getfield 59, 3) := by decide +kernel
theorem dX4_derive_12 : decode cX4_derive 12 = .ok (.iload_n 1, 1) := by decide +kernel
theorem dX4_derive_13 : decode cX4_derive 13 = .ok (.iconst 1, 1) := by decide +kernel
theorem dX4_derive_14 : decode cX4_derive 14 = .ok (.isub, 1) := by decide +kernel
theorem dX4_derive_15 : decode cX4_derive 15 = .ok (.iload_n 1, 1) := by decide +kernel
theorem dX4_derive_16 : decode cX4_derive 16 = .ok (.i2l, 1) := by decide +kernel
theorem dX4_derive_17 : decode cX4_derive 17 = .ok (.aload_n 0, 1) := by decide +kernel
theorem dX4_derive_18 : decode cX4_derive 18 = .ok (.getfield 9, 3) := by decide +kernel
theorem dX4_derive_21 : decode cX4_derive 21 = .ok (.iload_n 1, 1) := by decide +kernel
theorem dX4_derive_22 : decode cX4_derive 22 = .ok (.iaload, 1) := by decide +kernel
theorem dX4_derive_23 : decode cX4_derive 23 = .ok (.i2l, 1) := by decide +kernel
theorem dX4_derive_24 : decode cX4_derive 24 = .ok (.lmul, 1) := by decide +kernel
theorem dX4_derive_25 : decode cX4_derive 25 = .ok (.lastore, 1) := by decide +kernel
theorem dX4_derive_26 : decode cX4_derive 26 = .ok (.iinc 1 1, 3) := by decide +kernel
theorem dX4_derive_29 : decode cX4_derive 29 = .ok (.goto (-27), 3) := by decide +kernel
theorem dX4_derive_32 : decode cX4_derive 32 = .ok (.aload_n 0, 1) := by decide +kernel
theorem dX4_derive_33 : decode cX4_derive 33 = .ok (.getfield 59, 3) := by decide +kernel
theorem dX4_derive_36 : decode cX4_derive 36 = .ok (.bipush 8, 2) := by decide +kernel
theorem dX4_derive_38 : decode cX4_derive 38 = .ok (.lconst 0, 1) := by decide +kernel
theorem dX4_derive_39 : decode cX4_derive 39 = .ok (.lastore, 1) := by decide +kernel
theorem dX4_derive_40 : decode cX4_derive 40 = .ok (.aload_n 0, 1) := by decide +kernel
theorem dX4_derive_41 : decode cX4_derive 41 = .ok (.getfield 59, 3) := by decide +kernel
theorem dX4_derive_44 : decode cX4_derive 44 = .ok (.aload_n 0, 1) := by decide +kernel
theorem dX4_derive_45 : decode cX4_derive 45 = .ok (.getfield 13, 3) := by decide +kernel
theorem dX4_derive_48 : decode cX4_derive 48 = .ok (.invokestatic 150, 3) := by decide +kernel
theorem dX4_derive_51 : decode cX4_derive 51 = .ok (.ifCond .ne 6, 3) := by decide +kernel
theorem dX4_derive_54 : decode cX4_derive 54 = .ok (.bipush (-5), 2) := by decide +kernel
theorem dX4_derive_56 : decode cX4_derive 56 = .ok (.ireturn, 1) := by decide +kernel
theorem dX4_derive_57 : decode cX4_derive 57 = .ok (.aload_n 0, 1) := by decide +kernel
theorem dX4_derive_58 : decode cX4_derive 58 = .ok (.iconst (-1), 1) := by decide +kernel
theorem dX4_derive_59 : decode cX4_derive 59 = .ok (.putfield 40, 3) := by decide +kernel
theorem dX4_derive_62 : decode cX4_derive 62 = .ok (.aload_n 0, 1) := by decide +kernel
theorem dX4_derive_63 : decode cX4_derive 63 = .ok (.getfield 13, 3) := by decide +kernel
theorem dX4_derive_66 : decode cX4_derive 66 = .ok (.invokestatic 83, 3) := by decide +kernel
theorem dX4_derive_69 : decode cX4_derive 69 = .ok (.ireturn, 1) := by decide +kernel
theorem dX4_times_0 : decode cX4_times 0 = .ok (.aload_n 0, 1) := by decide +kernel
theorem dX4_times_1 : decode cX4_times 1 = .ok (.getfield 9, 3) := by decide +kernel
theorem dX4_times_4 : decode cX4_times 4 = .ok (.invokestatic 83, 3) := by decide +kernel
theorem dX4_times_7 : decode cX4_times 7 = .ok (.istore_n 2, 1) := by decide +kernel
theorem dX4_times_8 : decode cX4_times 8 = .ok (.iload_n 2, 1) := by decide +kernel
theorem dX4_times_9 : decode cX4_times 9 = .ok (.bipush (-3), 2) := by decide +kernel
theorem dX4_times_11 : decode cX4_times 11 = .ok (.if_icmp .ne 6, 3) := by decide +kernel
theorem dX4_times_14 : decode cX4_times 14 = .ok (.bipush (-3), 2) := by decide +kernel
theorem dX4_times_16 : decode cX4_times 16 = .ok (.ireturn, 1) := by decide +kernel
theorem dX4_times_17 : decode cX4_times 17 = .ok (.iload_n 2, 1) := by decide +kernel
theorem dX4_times_18 : decode cX4_times 18 = .ok (.bipush 8, 2) := by decide +kernel
theorem dX4_times_20 : decode cX4_times 20 = .ok (.if_icmp .lt 6, 3) := by decide +kernel
theorem dX4_times_23 : decode cX4_times 23 = .ok (.bipush (-5), 2) := by decide +kernel
theorem dX4_times_25 : decode cX4_times 25 = .ok (.ireturn, 1) := by decide +kernel
theorem dX4_times_26 : decode cX4_times 26 = .ok (.iconst 0, 1) := by decide +kernel
theorem dX4_times_27 : decode cX4_times 27 = .ok (.istore_n 3, 1) := by decide +kernel
theorem dX4_times_28 : decode cX4_times 28 = .ok (.iload_n 3, 1) := by decide +kernel
theorem dX4_times_29 : decode cX4_times 29 = .ok (.bipush 8, 2) := by decide +kernel
theorem dX4_times_31 : decode cX4_times 31 = .ok (.if_icmp .gt 43, 3) := by decide +kernel
theorem dX4_times_34 : decode cX4_times 34 = .ok (.aload_n 0, 1) := by decide +kernel
theorem dX4_times_35 : decode cX4_times 35 = .ok (.getfield 59, 3) := by decide +kernel
theorem dX4_times_38 : decode cX4_times 38 = .ok (.iload_n 3, 1) := by decide +kernel
theorem dX4_times_39 : decode cX4_times 39 = .ok (.iload_n 3, 1) := by decide +kernel
theorem dX4_times_40 : decode cX4_times 40 = .ok (.ifCond .le 14, 3) := by decide +kernel
theorem dX4_times_43 : decode cX4_times 43 = .ok (.aload_n 0, 1) := by decide +kernel
theorem dX4_times_44 : decode cX4_times 44 = .ok (.getfield 9, 3) := by decide +kernel
theorem dX4_times_47 : decode cX4_times 47 = .ok (.iload_n 3, 1) := by decide +kernel
theorem dX4_times_48 : decode cX4_times 48 = .ok (.iconst 1, 1) := by decide +kernel
theorem dX4_times_49 : decode cX4_times 49 = .ok (.isub, 1) := by decide +kernel
theorem dX4_times_50 : decode cX4_times 50 = .ok (.iaload, 1) := by decide +kernel
theorem dX4_times_51 : decode cX4_times 51 = .ok (.goto 4, 3) := by decide +kernel
theorem dX4_times_54 : decode cX4_times 54 = .ok (.iconst 0, 1) := by decide +kernel
theorem dX4_times_55 : decode cX4_times 55 = .ok (.i2l, 1) := by decide +kernel
theorem dX4_times_56 : decode cX4_times 56 = .ok (.iload_n 1, 1) := by decide +kernel
theorem dX4_times_57 : decode cX4_times 57 = .ok (.i2l, 1) := by decide +kernel
theorem dX4_times_58 : decode cX4_times 58 = .ok (.aload_n 0, 1) := by decide +kernel
theorem dX4_times_59 : decode cX4_times 59 = .ok (.getfield 9, 3) := by decide +kernel
theorem dX4_times_62 : decode cX4_times 62 = .ok (.iload_n 3, 1) := by decide +kernel
theorem dX4_times_63 : decode cX4_times 63 = .ok (.iaload, 1) := by decide +kernel
theorem dX4_times_64 : decode cX4_times 64 = .ok (.i2l, 1) := by decide +kernel
theorem dX4_times_65 : decode cX4_times 65 = .ok (.lmul, 1) := by decide +kernel
theorem dX4_times_66 : decode cX4_times 66 = .ok (.lsub, 1) := by decide +kernel
theorem dX4_times_67 : decode cX4_times 67 = .ok (.lastore, 1) := by decide +kernel
theorem dX4_times_68 : decode cX4_times 68 = .ok (.iinc 3 1, 3) := by decide +kernel
theorem dX4_times_71 : decode cX4_times 71 = .ok (.goto (-43), 3) := by decide +kernel
theorem dX4_times_74 : decode cX4_times 74 = .ok (.aload_n 0, 1) := by decide +kernel
theorem dX4_times_75 : decode cX4_times 75 = .ok (.invokevirtual 154, 3) := by decide +kernel
theorem dX4_times_78 : decode cX4_times 78 = .ok (.ireturn, 1) := by decide +kernel
theorem dX4_shift_0 : decode cX4_shift 0 = .ok (.aload_n 0, 1) := by decide +kernel
theorem dX4_shift_1 : decode cX4_shift 1 = .ok (.getfield 9, 3) := by decide +kernel
theorem dX4_shift_4 : decode cX4_shift 4 = .ok (.invokestatic 83, 3) := by decide +kernel
theorem dX4_shift_7 : decode cX4_shift 7 = .ok (.bipush (-3), 2) := by decide +kernel
theorem dX4_shift_9 : decode cX4_shift 9 = .ok (.if_icmp .ne 6, 3) := by decide +kernel
theorem dX4_shift_12 : decode cX4_shift 12 = .ok (.bipush (-3), 2) := by decide +kernel
theorem dX4_shift_14 : decode cX4_shift 14 = .ok (.ireturn, 1) := by decide +kernel
theorem dX4_shift_15 : decode cX4_shift 15 = .ok (.aload_n 0, 1) := by decide +kernel
theorem dX4_shift_16 : decode cX4_shift 16 = .ok (.getfield 55, 3) := by decide +kernel
theorem dX4_shift_19 : decode cX4_shift 19 = .ok (.aload_n 0, 1) := by decide +kernel
theorem dX4_shift_20 : decode cX4_shift 20 = .ok (.getfield 9, 3) := by decide +kernel
theorem dX4_shift_23 : decode cX4_shift 23 = .ok (.invokevirtual 157, 3) := by decide +kernel
theorem dX4_shift_26 : decode cX4_shift 26 = .ok (.aload_n 0, 1) := by decide +kernel
theorem dX4_shift_27 : decode cX4_shift 27 = .ok (.getfield 46, 3) := by decide +kernel
theorem dX4_shift_30 : decode cX4_shift 30 = .ok (.iload_n 1, 1) := by decide +kernel
theorem dX4_shift_31 : decode cX4_shift 31 = .ok (.i2l, 1) := by decide +kernel
theorem dX4_shift_32 : decode cX4_shift 32 = .ok (.iconst 0, 1) := by decide +kernel
theorem dX4_shift_33 : decode cX4_shift 33 = .ok (.invokevirtual 132, 3) := by decide +kernel
theorem dX4_shift_36 : decode cX4_shift 36 = .ok (.iconst 0, 1) := by decide +kernel
theorem dX4_shift_37 : decode cX4_shift 37 = .ok (.istore_n 2, 1) := by decide +kernel
theorem dX4_shift_38 : decode cX4_shift 38 = .ok (.iload_n 2, 1) := by decide +kernel
theorem dX4_shift_39 : decode cX4_shift 39 = .ok (.bipush 8, 2) := by decide +kernel
theorem dX4_shift_41 : decode cX4_shift 41 = .ok (.if_icmp .gt 43, 3) := by decide +kernel
theorem dX4_shift_44 : decode cX4_shift 44 = .ok (.aload_n 0, 1) := by decide +kernel
theorem dX4_shift_45 : decode cX4_shift 45 = .ok (.getfield 46, 3) := by decide +kernel
theorem dX4_shift_48 : decode cX4_shift 48 = .ok (.aload_n 0, 1) := by decide +kernel
theorem dX4_shift_49 : decode cX4_shift 49 = .ok (.getfield 55, 3) := by decide +kernel
theorem dX4_shift_52 : decode cX4_shift 52 = .ok (.iload_n 2, 1) := by decide +kernel
theorem dX4_shift_53 : decode cX4_shift 53 = .ok (.invokevirtual 161, 3) := by decide +kernel
theorem dX4_shift_56 : decode cX4_shift 56 = .ok (.astore_n 3, 1) := by decide +kernel
theorem dX4_shift_57 : decode cX4_shift 57 = .ok (.aload_n 3, 1) := by decide +kernel
theorem dX4_shift_58 : decode cX4_shift 58 = .ok (.invokevirtual 165, 3) := by decide +kernel
theorem dX4_shift_61 : decode cX4_shift 61 = .ok (.ifCond .ne 6, 3) := by decide +kernel
theorem dX4_shift_64 : decode cX4_shift 64 = .ok (.bipush (-5), 2) := by decide +kernel
theorem dX4_shift_66 : decode cX4_shift 66 = .ok (.ireturn, 1) := by decide +kernel
theorem dX4_shift_67 : decode cX4_shift 67 = .ok (.aload_n 0, 1) := by decide +kernel
theorem dX4_shift_68 : decode cX4_shift 68 = .ok (.getfield 59, 3) := by decide +kernel
theorem dX4_shift_71 : decode cX4_shift 71 = .ok (.iload_n 2, 1) := by decide +kernel
theorem dX4_shift_72 : decode cX4_shift 72 = .ok (.aload_n 3, 1) := by decide +kernel
theorem dX4_shift_73 : decode cX4_shift 73 = .ok (.invokevirtual 171, 3) := by decide +kernel
theorem dX4_shift_76 : decode cX4_shift 76 = .ok (.i2l, 1) := by decide +kernel
theorem dX4_shift_77 : decode cX4_shift 77 = .ok (.lastore, 1) := by decide +kernel
theorem dX4_shift_78 : decode cX4_shift 78 = .ok (.iinc 2 1, 3) := by decide +kernel
theorem dX4_shift_81 : decode cX4_shift 81 = .ok (.goto (-43), 3) := by decide +kernel
theorem dX4_shift_84 : decode cX4_shift 84 = .ok (.aload_n 0, 1) := by decide +kernel
theorem dX4_shift_85 : decode cX4_shift 85 = .ok (.invokevirtual 154, 3) := by decide +kernel
theorem dX4_shift_88 : decode cX4_shift 88 = .ok (.ireturn, 1) := by decide +kernel
theorem dX4_swap_0 : decode cX4_swap 0 = .ok (.aload_n 0, 1) := by decide +kernel
theorem dX4_swap_1 : decode cX4_swap 1 = .ok (.getfield 9, 3) := by decide +kernel
theorem dX4_swap_4 : decode cX4_swap 4 = .ok (.astore_n 1, 1) := by decide +kernel
theorem dX4_swap_5 : decode cX4_swap 5 = .ok (.aload_n 0, 1) := by decide +kernel
theorem dX4_swap_6 : decode cX4_swap 6 = .ok (.aload_n 0, 1) := by decide +kernel
theorem dX4_swap_7 : decode cX4_swap 7 = .ok (.getfield 13, 3) := by decide +kernel
theorem dX4_swap_10 : decode cX4_swap 10 = .ok (.putfield 9, 3) := by decide +kernel
theorem dX4_swap_13 : decode cX4_swap 13 = .ok (.aload_n 0, 1) := by decide +kernel
theorem dX4_swap_14 : decode cX4_swap 14 = .ok (.aload_n 1, 1) := by decide +kernel
theorem dX4_swap_15 : decode cX4_swap 15 = .ok (.putfield 13, 3) := by decide +kernel
theorem dX4_swap_18 : decode cX4_swap 18 = .ok (.aload_n 0, 1) := by decide +kernel
theorem dX4_swap_19 : decode cX4_swap 19 = .ok (.iconst (-1), 1) := by decide +kernel
theorem dX4_swap_20 : decode cX4_swap 20 = .ok (.putfield 40, 3) := by decide +kernel
theorem dX4_swap_23 : decode cX4_swap 23 = .ok (.aload_n 0, 1) := by decide +kernel
theorem dX4_swap_24 : decode cX4_swap 24 = .ok (.iconst (-1), 1) := by decide +kernel
theorem dX4_swap_25 : decode cX4_swap 25 = .ok (.putfield 16, 3) := by decide +kernel
theorem dX4_swap_28 : decode cX4_swap 28 = .ok (.aload_n 0, 1) := by decide +kernel
theorem dX4_swap_29 : decode cX4_swap 29 = .ok (.getfield 9, 3) := by decide +kernel
theorem dX4_swap_32 : decode cX4_swap 32 = .ok (.invokestatic 83, 3) := by decide +kernel
theorem dX4_swap_35 : decode cX4_swap 35 = .ok (.ireturn, 1) := by decide +kernel
theorem dX4_isPolynomial_0 : decode cX4_isPolynomial 0 = .ok (.iload_n 0, 1) := by decide +kernel
theorem dX4_isPolynomial_1 : decode cX4_isPolynomial 1 = .ok (.ifCond .eq 8, 3) := by decide +kernel
theorem dX4_isPolynomial_4 : decode cX4_isPolynomial 4 = .ok (.iload_n 0, 1) := by decide +kernel
theorem dX4_isPolynomial_5 : decode cX4_isPolynomial 5 = .ok (.iconst 1, 1) := by decide +kernel
theorem dX4_isPolynomial_6 : decode cX4_isPolynomial 6 = .ok (.if_icmp .ne 7, 3) := by decide +kernel
theorem dX4_isPolynomial_9 : decode cX4_isPolynomial 9 = .ok (.iconst 1, 1) := by decide +kernel
theorem dX4_isPolynomial_10 : decode cX4_isPolynomial 10 = .ok (.goto 4, 3) := by decide +kernel
theorem dX4_isPolynomial_13 : decode cX4_isPolynomial 13 = .ok (.iconst 0, 1) := by decide +kernel
theorem dX4_isPolynomial_14 : decode cX4_isPolynomial 14 = .ok (.ireturn, 1) := by decide +kernel
theorem dX4_isPower_0 : decode cX4_isPower 0 = .ok (.iload_n 0, 1) := by decide +kernel
theorem dX4_isPower_1 : decode cX4_isPower 1 = .ok (.ifCond .lt 13, 3) := by decide +kernel
theorem dX4_isPower_4 : decode cX4_isPower 4 = .ok (.iload_n 0, 1) := by decide +kernel
theorem dX4_isPower_5 : decode cX4_isPower 5 = .ok (.bipush 8, 2) := by decide +kernel
theorem dX4_isPower_7 : decode cX4_isPower 7 = .ok (.if_icmp .gt 7, 3) := by decide +kernel
theorem dX4_isPower_10 : decode cX4_isPower 10 = .ok (.iconst 1, 1) := by decide +kernel
theorem dX4_isPower_11 : decode cX4_isPower 11 = .ok (.goto 4, 3) := by decide +kernel
theorem dX4_isPower_14 : decode cX4_isPower 14 = .ok (.iconst 0, 1) := by decide +kernel
theorem dX4_isPower_15 : decode cX4_isPower 15 = .ok (.ireturn, 1) := by decide +kernel
theorem dX4_isLevel_0 : decode cX4_isLevel 0 = .ok (.iload_n 0, 1) := by decide +kernel
theorem dX4_isLevel_1 : decode cX4_isLevel 1 = .ok (.ifCond .lt 13, 3) := by decide +kernel
theorem dX4_isLevel_4 : decode cX4_isLevel 4 = .ok (.iload_n 0, 1) := by decide +kernel
theorem dX4_isLevel_5 : decode cX4_isLevel 5 = .ok (.bipush 30, 2) := by decide +kernel
theorem dX4_isLevel_7 : decode cX4_isLevel 7 = .ok (.if_icmp .gt 7, 3) := by decide +kernel
theorem dX4_isLevel_10 : decode cX4_isLevel 10 = .ok (.iconst 1, 1) := by decide +kernel
theorem dX4_isLevel_11 : decode cX4_isLevel 11 = .ok (.goto 4, 3) := by decide +kernel
theorem dX4_isLevel_14 : decode cX4_isLevel 14 = .ok (.iconst 0, 1) := by decide +kernel
theorem dX4_isLevel_15 : decode cX4_isLevel 15 = .ok (.ireturn, 1) := by decide +kernel
theorem dX4_isNumber_0 : decode cX4_isNumber 0 = .ok (.lload_n 0, 1) := by decide +kernel
theorem dX4_isNumber_1 : decode cX4_isNumber 1 = .ok (.ldc2_w 174, 3) := by decide +kernel
theorem dX4_isNumber_4 : decode cX4_isNumber 4 = .ok (.lcmp, 1) := by decide +kernel
theorem dX4_isNumber_5 : decode cX4_isNumber 5 = .ok (.ifCond .lt 15, 3) := by decide +kernel
theorem dX4_isNumber_8 : decode cX4_isNumber 8 = .ok (.lload_n 0, 1) := by decide +kernel
theorem dX4_isNumber_9 : decode cX4_isNumber 9 = .ok (.ldc2_w 176, 3) := by decide +kernel
theorem dX4_isNumber_12 : decode cX4_isNumber 12 = .ok (.lcmp, 1) := by decide +kernel
theorem dX4_isNumber_13 : decode cX4_isNumber 13 = .ok (.ifCond .gt 7, 3) := by decide +kernel
theorem dX4_isNumber_16 : decode cX4_isNumber 16 = .ok (.iconst 1, 1) := by decide +kernel
theorem dX4_isNumber_17 : decode cX4_isNumber 17 = .ok (.goto 4, 3) := by decide +kernel
theorem dX4_isNumber_20 : decode cX4_isNumber 20 = .ok (.iconst 0, 1) := by decide +kernel
theorem dX4_isNumber_21 : decode cX4_isNumber 21 = .ok (.ireturn, 1) := by decide +kernel
theorem dX4_isFound_0 : decode cX4_isFound 0 = .ok (.iload_n 1, 1) := by decide +kernel
theorem dX4_isFound_1 : decode cX4_isFound 1 = .ok (.ifCond .lt 21, 3) := by decide +kernel
theorem dX4_isFound_4 : decode cX4_isFound 4 = .ok (.iload_n 1, 1) := by decide +kernel
theorem dX4_isFound_5 : decode cX4_isFound 5 = .ok (.aload_n 0, 1) := by decide +kernel
theorem dX4_isFound_6 : decode cX4_isFound 6 = .ok (.getfield 16, 3) := by decide +kernel
theorem dX4_isFound_9 : decode cX4_isFound 9 = .ok (.if_icmp .ge 13, 3) := by decide +kernel
theorem dX4_isFound_12 : decode cX4_isFound 12 = .ok (.iload_n 1, 1) := by decide +kernel
theorem dX4_isFound_13 : decode cX4_isFound 13 = .ok (.bipush 8, 2) := by decide +kernel
theorem dX4_isFound_15 : decode cX4_isFound 15 = .ok (.if_icmp .ge 7, 3) := by decide +kernel
theorem dX4_isFound_18 : decode cX4_isFound 18 = .ok (.iconst 1, 1) := by decide +kernel
theorem dX4_isFound_19 : decode cX4_isFound 19 = .ok (.goto 4, 3) := by decide +kernel
theorem dX4_isFound_22 : decode cX4_isFound 22 = .ok (.iconst 0, 1) := by decide +kernel
theorem dX4_isFound_23 : decode cX4_isFound 23 = .ok (.ireturn, 1) := by decide +kernel
theorem dX4_chosen_0 : decode cX4_chosen 0 = .ok (.iload_n 1, 1) := by decide +kernel
theorem dX4_chosen_1 : decode cX4_chosen 1 = .ok (.ifCond .ne 10, 3) := by decide +kernel
theorem dX4_chosen_4 : decode cX4_chosen 4 = .ok (.aload_n 0, 1) := by decide +kernel
theorem dX4_chosen_5 : decode cX4_chosen 5 = .ok (.getfield 9, 3) := by decide +kernel
theorem dX4_chosen_8 : decode cX4_chosen 8 = .ok (.goto 7, 3) := by decide +kernel
theorem dX4_chosen_11 : decode cX4_chosen 11 = .ok (.aload_n 0, 1) := by decide +kernel
theorem dX4_chosen_12 : decode cX4_chosen 12 = .ok (.getfield 13, 3) := by decide +kernel
theorem dX4_chosen_15 : decode cX4_chosen 15 = .ok (.areturn, 1) := by decide +kernel
theorem dX4_topPower_0 : decode cX4_topPower 0 = .ok (.aload_n 0, 1) := by decide +kernel
theorem dX4_topPower_1 : decode cX4_topPower 1 = .ok (.arraylength, 1) := by decide +kernel
theorem dX4_topPower_2 : decode cX4_topPower 2 = .ok (.iconst 1, 1) := by decide +kernel
theorem dX4_topPower_3 : decode cX4_topPower 3 = .ok (.isub, 1) := by decide +kernel
theorem dX4_topPower_4 : decode cX4_topPower 4 = .ok (.istore_n 1, 1) := by decide +kernel
theorem dX4_topPower_5 : decode cX4_topPower 5 = .ok (.iload_n 1, 1) := by decide +kernel
theorem dX4_topPower_6 : decode cX4_topPower 6 = .ok (.ifCond .lt 17, 3) := by decide +kernel
theorem dX4_topPower_9 : decode cX4_topPower 9 = .ok (.aload_n 0, 1) := by decide +kernel
theorem dX4_topPower_10 : decode cX4_topPower 10 = .ok (.iload_n 1, 1) := by decide +kernel
theorem dX4_topPower_11 : decode cX4_topPower 11 = .ok (.iaload, 1) := by decide +kernel
theorem dX4_topPower_12 : decode cX4_topPower 12 = .ok (.ifCond .eq 5, 3) := by decide +kernel
theorem dX4_topPower_15 : decode cX4_topPower 15 = .ok (.iload_n 1, 1) := by decide +kernel
theorem dX4_topPower_16 : decode cX4_topPower 16 = .ok (.ireturn, 1) := by decide +kernel
theorem dX4_topPower_17 : decode cX4_topPower 17 = .ok (.iinc 1 (-1), 3) := by decide +kernel
theorem dX4_topPower_20 : decode cX4_topPower 20 = .ok (.goto (-15), 3) := by decide +kernel
theorem dX4_topPower_23 : decode cX4_topPower 23 = .ok (.bipush (-3), 2) := by decide +kernel
theorem dX4_topPower_25 : decode cX4_topPower 25 = .ok (.ireturn, 1) := by decide +kernel
theorem dX4_isBelow_0 : decode cX4_isBelow 0 = .ok (.iload_n 2, 1) := by decide +kernel
theorem dX4_isBelow_1 : decode cX4_isBelow 1 = .ok (.iload 5, 2) := by decide +kernel
theorem dX4_isBelow_3 : decode cX4_isBelow 3 = .ok (.if_icmp .gt 42, 3) := by decide +kernel
theorem dX4_isBelow_6 : decode cX4_isBelow 6 = .ok (.lload_n 0, 1) := by decide +kernel
theorem dX4_isBelow_7 : decode cX4_isBelow 7 = .ok (.lload_n 3, 1) := by decide +kernel
theorem dX4_isBelow_8 : decode cX4_isBelow 8 = .ok (.iload 5, 2) := by decide +kernel
theorem dX4_isBelow_10 : decode cX4_isBelow 10 = .ok (.iload_n 2, 1) := by decide +kernel
theorem dX4_isBelow_11 : decode cX4_isBelow 11 = .ok (.isub, 1) := by decide +kernel
theorem dX4_isBelow_12 : decode cX4_isBelow 12 = .ok (.lshr, 1) := by decide +kernel
theorem dX4_isBelow_13 : decode cX4_isBelow 13 = .ok (.lcmp, 1) := by decide +kernel
theorem dX4_isBelow_14 : decode cX4_isBelow 14 = .ok (.ifCond .lt 25, 3) := by decide +kernel
theorem dX4_isBelow_17 : decode cX4_isBelow 17 = .ok (.lload_n 0, 1) := by decide +kernel
theorem dX4_isBelow_18 : decode cX4_isBelow 18 = .ok (.lload_n 3, 1) := by decide +kernel
theorem dX4_isBelow_19 : decode cX4_isBelow 19 = .ok (.iload 5, 2) := by decide +kernel
theorem dX4_isBelow_21 : decode cX4_isBelow 21 = .ok (.iload_n 2, 1) := by decide +kernel
theorem dX4_isBelow_22 : decode cX4_isBelow 22 = .ok (.isub, 1) := by decide +kernel
theorem dX4_isBelow_23 : decode cX4_isBelow 23 = .ok (.lshr, 1) := by decide +kernel
theorem dX4_isBelow_24 : decode cX4_isBelow 24 = .ok (.lcmp, 1) := by decide +kernel
theorem dX4_isBelow_25 : decode cX4_isBelow 25 = .ok (.ifCond .ne 18, 3) := by decide +kernel
theorem dX4_isBelow_28 : decode cX4_isBelow 28 = .ok (.lload_n 0, 1) := by decide +kernel
theorem dX4_isBelow_29 : decode cX4_isBelow 29 = .ok (.iload 5, 2) := by decide +kernel
theorem dX4_isBelow_31 : decode cX4_isBelow 31 = .ok (.iload_n 2, 1) := by decide +kernel
theorem dX4_isBelow_32 : decode cX4_isBelow 32 = .ok (.isub, 1) := by decide +kernel
theorem dX4_isBelow_33 : decode cX4_isBelow 33 = .ok (.lshl, 1) := by decide +kernel
theorem dX4_isBelow_34 : decode cX4_isBelow 34 = .ok (.lload_n 3, 1) := by decide +kernel
theorem dX4_isBelow_35 : decode cX4_isBelow 35 = .ok (.lcmp, 1) := by decide +kernel
theorem dX4_isBelow_36 : decode cX4_isBelow 36 = .ok (.ifCond .eq 7, 3) := by decide +kernel
theorem dX4_isBelow_39 : decode cX4_isBelow 39 = .ok (.iconst 1, 1) := by decide +kernel
theorem dX4_isBelow_40 : decode cX4_isBelow 40 = .ok (.goto 4, 3) := by decide +kernel
theorem dX4_isBelow_43 : decode cX4_isBelow 43 = .ok (.iconst 0, 1) := by decide +kernel
theorem dX4_isBelow_44 : decode cX4_isBelow 44 = .ok (.ireturn, 1) := by decide +kernel
theorem dX4_isBelow_45 : decode cX4_isBelow 45 = .ok (.lload_n 0, 1) := by decide +kernel
theorem dX4_isBelow_46 : decode cX4_isBelow 46 = .ok (.iload_n 2, 1) := by decide +kernel
theorem dX4_isBelow_47 : decode cX4_isBelow 47 = .ok (.iload 5, 2) := by decide +kernel
theorem dX4_isBelow_49 : decode cX4_isBelow 49 = .ok (.isub, 1) := by decide +kernel
theorem dX4_isBelow_50 : decode cX4_isBelow 50 = .ok (.lshr, 1) := by decide +kernel
theorem dX4_isBelow_51 : decode cX4_isBelow 51 = .ok (.lload_n 3, 1) := by decide +kernel
theorem dX4_isBelow_52 : decode cX4_isBelow 52 = .ok (.lcmp, 1) := by decide +kernel
theorem dX4_isBelow_53 : decode cX4_isBelow 53 = .ok (.ifCond .ge 7, 3) := by decide +kernel
theorem dX4_isBelow_56 : decode cX4_isBelow 56 = .ok (.iconst 1, 1) := by decide +kernel
theorem dX4_isBelow_57 : decode cX4_isBelow 57 = .ok (.goto 4, 3) := by decide +kernel
theorem dX4_isBelow_60 : decode cX4_isBelow 60 = .ok (.iconst 0, 1) := by decide +kernel
theorem dX4_isBelow_61 : decode cX4_isBelow 61 = .ok (.ireturn, 1) := by decide +kernel
theorem dX4_take_0 : decode cX4_take 0 = .ok (.iconst 0, 1) := by decide +kernel
theorem dX4_take_1 : decode cX4_take 1 = .ok (.istore_n 2, 1) := by decide +kernel
theorem dX4_take_2 : decode cX4_take 2 = .ok (.iload_n 2, 1) := by decide +kernel
theorem dX4_take_3 : decode cX4_take 3 = .ok (.aload_n 0, 1) := by decide +kernel
theorem dX4_take_4 : decode cX4_take 4 = .ok (.arraylength, 1) := by decide +kernel
theorem dX4_take_5 : decode cX4_take 5 = .ok (.if_icmp .ge 20, 3) := by decide +kernel
theorem dX4_take_8 : decode cX4_take 8 = .ok (.aload_n 0, 1) := by decide +kernel
theorem dX4_take_9 : decode cX4_take 9 = .ok (.iload_n 2, 1) := by decide +kernel
theorem dX4_take_10 : decode cX4_take 10 = .ok (.laload, 1) := by decide +kernel
theorem dX4_take_11 : decode cX4_take 11 = .ok (.invokestatic 75, 3) := by decide +kernel
theorem dX4_take_14 : decode cX4_take 14 = .ok (.ifCond .ne 5, 3) := by decide +kernel
theorem dX4_take_17 : decode cX4_take 17 = .ok (.iconst 0, 1) := by decide +kernel
theorem dX4_take_18 : decode cX4_take 18 = .ok (.ireturn, 1) := by decide +kernel
theorem dX4_take_19 : decode cX4_take 19 = .ok (.iinc 2 1, 3) := by decide +kernel
theorem dX4_take_22 : decode cX4_take 22 = .ok (.goto (-20), 3) := by decide +kernel
theorem dX4_take_25 : decode cX4_take 25 = .ok (.iconst 0, 1) := by decide +kernel
theorem dX4_take_26 : decode cX4_take 26 = .ok (.istore_n 2, 1) := by decide +kernel
theorem dX4_take_27 : decode cX4_take 27 = .ok (.iload_n 2, 1) := by decide +kernel
theorem dX4_take_28 : decode cX4_take 28 = .ok (.aload_n 0, 1) := by decide +kernel
theorem dX4_take_29 : decode cX4_take 29 = .ok (.arraylength, 1) := by decide +kernel
theorem dX4_take_30 : decode cX4_take 30 = .ok (.if_icmp .ge 22, 3) := by decide +kernel
theorem dX4_take_33 : decode cX4_take 33 = .ok (.iload_n 2, 1) := by decide +kernel
theorem dX4_take_34 : decode cX4_take 34 = .ok (.aload_n 1, 1) := by decide +kernel
theorem dX4_take_35 : decode cX4_take 35 = .ok (.arraylength, 1) := by decide +kernel
theorem dX4_take_36 : decode cX4_take 36 = .ok (.if_icmp .ge 16, 3) := by decide +kernel
theorem dX4_take_39 : decode cX4_take 39 = .ok (.aload_n 1, 1) := by decide +kernel
theorem dX4_take_40 : decode cX4_take 40 = .ok (.iload_n 2, 1) := by decide +kernel
theorem dX4_take_41 : decode cX4_take 41 = .ok (.aload_n 0, 1) := by decide +kernel
theorem dX4_take_42 : decode cX4_take 42 = .ok (.iload_n 2, 1) := by decide +kernel
theorem dX4_take_43 : decode cX4_take 43 = .ok (.laload, 1) := by decide +kernel
theorem dX4_take_44 : decode cX4_take 44 = .ok (.l2i, 1) := by decide +kernel
theorem dX4_take_45 : decode cX4_take 45 = .ok (.iastore, 1) := by decide +kernel
theorem dX4_take_46 : decode cX4_take 46 = .ok (.iinc 2 1, 3) := by decide +kernel
theorem dX4_take_49 : decode cX4_take 49 = .ok (.goto (-22), 3) := by decide +kernel
theorem dX4_take_52 : decode cX4_take 52 = .ok (.iconst 1, 1) := by decide +kernel
theorem dX4_take_53 : decode cX4_take 53 = .ok (.ireturn, 1) := by decide +kernel
theorem dX4_replaceA_0 : decode cX4_replaceA 0 = .ok (.aload_n 0, 1) := by decide +kernel
theorem dX4_replaceA_1 : decode cX4_replaceA 1 = .ok (.getfield 59, 3) := by decide +kernel
theorem dX4_replaceA_4 : decode cX4_replaceA 4 = .ok (.aload_n 0, 1) := by decide +kernel
theorem dX4_replaceA_5 : decode cX4_replaceA 5 = .ok (.getfield 9, 3) := by decide +kernel
theorem dX4_replaceA_8 : decode cX4_replaceA 8 = .ok (.invokestatic 150, 3) := by decide +kernel
theorem dX4_replaceA_11 : decode cX4_replaceA 11 = .ok (.ifCond .ne 6, 3) := by decide +kernel
theorem dX4_replaceA_14 : decode cX4_replaceA 14 = .ok (.bipush (-5), 2) := by decide +kernel
theorem dX4_replaceA_16 : decode cX4_replaceA 16 = .ok (.ireturn, 1) := by decide +kernel
theorem dX4_replaceA_17 : decode cX4_replaceA 17 = .ok (.aload_n 0, 1) := by decide +kernel
theorem dX4_replaceA_18 : decode cX4_replaceA 18 = .ok (.iconst (-1), 1) := by decide +kernel
theorem dX4_replaceA_19 : decode cX4_replaceA 19 = .ok (.putfield 40, 3) := by decide +kernel
theorem dX4_replaceA_22 : decode cX4_replaceA 22 = .ok (.aload_n 0, 1) := by decide +kernel
theorem dX4_replaceA_23 : decode cX4_replaceA 23 = .ok (.iconst (-1), 1) := by decide +kernel
theorem dX4_replaceA_24 : decode cX4_replaceA 24 = .ok (.putfield 16, 3) := by decide +kernel
theorem dX4_replaceA_27 : decode cX4_replaceA 27 = .ok (.aload_n 0, 1) := by decide +kernel
theorem dX4_replaceA_28 : decode cX4_replaceA 28 = .ok (.getfield 9, 3) := by decide +kernel
theorem dX4_replaceA_31 : decode cX4_replaceA 31 = .ok (.invokestatic 83, 3) := by decide +kernel
theorem dX4_replaceA_34 : decode cX4_replaceA 34 = .ok (.ireturn, 1) := by decide +kernel
theorem dX4_sideOf_0 : decode cX4_sideOf 0 = .ok (.aload_n 0, 1) := by decide +kernel
theorem dX4_sideOf_1 : decode cX4_sideOf 1 = .ok (.getfield 55, 3) := by decide +kernel
theorem dX4_sideOf_4 : decode cX4_sideOf 4 = .ok (.aload_n 1, 1) := by decide +kernel
theorem dX4_sideOf_5 : decode cX4_sideOf 5 = .ok (.invokevirtual 157, 3) := by decide +kernel
theorem dX4_sideOf_8 : decode cX4_sideOf 8 = .ok (.aload_n 0, 1) := by decide +kernel
theorem dX4_sideOf_9 : decode cX4_sideOf 9 = .ok (.getfield 46, 3) := by decide +kernel
theorem dX4_sideOf_12 : decode cX4_sideOf 12 = .ok (.lload_n 2, 1) := by decide +kernel
theorem dX4_sideOf_13 : decode cX4_sideOf 13 = .ok (.iload 4, 2) := by decide +kernel
theorem dX4_sideOf_15 : decode cX4_sideOf 15 = .ok (.invokevirtual 132, 3) := by decide +kernel
theorem dX4_sideOf_18 : decode cX4_sideOf 18 = .ok (.aload_n 0, 1) := by decide +kernel
theorem dX4_sideOf_19 : decode cX4_sideOf 19 = .ok (.getfield 46, 3) := by decide +kernel
theorem dX4_sideOf_22 : decode cX4_sideOf 22 = .ok (.aload_n 0, 1) := by decide +kernel
theorem dX4_sideOf_23 : decode cX4_sideOf 23 = .ok (.getfield 55, 3) := by decide +kernel
theorem dX4_sideOf_26 : decode cX4_sideOf 26 = .ok (.iconst 0, 1) := by decide +kernel
theorem dX4_sideOf_27 : decode cX4_sideOf 27 = .ok (.invokevirtual 161, 3) := by decide +kernel
theorem dX4_sideOf_30 : decode cX4_sideOf 30 = .ok (.getfield 178, 3) := by decide +kernel
theorem dX4_sideOf_33 : decode cX4_sideOf 33 = .ok (.ireturn, 1) := by decide +kernel
theorem dX4_hold_0 : decode cX4_hold 0 = .ok (.aload_n 0, 1) := by decide +kernel
theorem dX4_hold_1 : decode cX4_hold 1 = .ok (.getfield 40, 3) := by decide +kernel
theorem dX4_hold_4 : decode cX4_hold 4 = .ok (.iload_n 1, 1) := by decide +kernel
theorem dX4_hold_5 : decode cX4_hold 5 = .ok (.if_icmp .ne 4, 3) := by decide +kernel
theorem dX4_hold_8 : decode cX4_hold 8 = .ok (.return_, 1) := by decide +kernel
theorem dX4_hold_9 : decode cX4_hold 9 = .ok (.iload_n 1, 1) := by decide +kernel
theorem dX4_hold_10 : decode cX4_hold 10 = .ok (.iconst 2, 1) := by decide +kernel
theorem dX4_hold_11 : decode cX4_hold 11 = .ok (.if_icmp .ne 21, 3) := by decide +kernel
theorem dX4_hold_14 : decode cX4_hold 14 = .ok (.aload_n 0, 1) := by decide +kernel
theorem dX4_hold_15 : decode cX4_hold 15 = .ok (.getfield 36, 3) := by decide +kernel
theorem dX4_hold_18 : decode cX4_hold 18 = .ok (.aload_n 0, 1) := by decide +kernel
theorem dX4_hold_19 : decode cX4_hold 19 = .ok (.getfield 9, 3) := by decide +kernel
theorem dX4_hold_22 : decode cX4_hold 22 = .ok (.aload_n 0, 1) := by decide +kernel
theorem dX4_hold_23 : decode cX4_hold 23 = .ok (.getfield 13, 3) := by decide +kernel
theorem dX4_hold_26 : decode cX4_hold 26 = .ok (.invokevirtual 181, 3) := by decide +kernel
theorem dX4_hold_29 : decode cX4_hold 29 = .ok (.goto 25, 3) := by decide +kernel
theorem dX4_hold_32 : decode cX4_hold 32 = .ok (.aload_n 0, 1) := by decide +kernel
theorem dX4_hold_33 : decode cX4_hold 33 = .ok (.getfield 36, 3) := by decide +kernel
theorem dX4_hold_36 : decode cX4_hold 36 = .ok (.iload_n 1, 1) := by decide +kernel
theorem dX4_hold_37 : decode cX4_hold 37 = .ok (.ifCond .ne 10, 3) := by decide +kernel
theorem dX4_hold_40 : decode cX4_hold 40 = .ok (.aload_n 0, 1) := by decide +kernel
theorem dX4_hold_41 : decode cX4_hold 41 = .ok (.getfield 9, 3) := by decide +kernel
theorem dX4_hold_44 : decode cX4_hold 44 = .ok (.goto 7, 3) := by decide +kernel
theorem dX4_hold_47 : decode cX4_hold 47 = .ok (.aload_n 0, 1) := by decide +kernel
theorem dX4_hold_48 : decode cX4_hold 48 = .ok (.getfield 13, 3) := by decide +kernel
theorem dX4_hold_51 : decode cX4_hold 51 = .ok (.invokevirtual 184, 3) := by decide +kernel
theorem dX4_hold_54 : decode cX4_hold 54 = .ok (.aload_n 0, 1) := by decide +kernel
theorem dX4_hold_55 : decode cX4_hold 55 = .ok (.iload_n 1, 1) := by decide +kernel
theorem dX4_hold_56 : decode cX4_hold 56 = .ok (.putfield 40, 3) := by decide +kernel
theorem dX4_hold_59 : decode cX4_hold 59 = .ok (.return_, 1) := by decide +kernel
theorem dX4_rootsUpTo_0 : decode cX4_rootsUpTo 0 = .ok (.aload_n 0, 1) := by decide +kernel
theorem dX4_rootsUpTo_1 : decode cX4_rootsUpTo 1 = .ok (.getfield 46, 3) := by decide +kernel
theorem dX4_rootsUpTo_4 : decode cX4_rootsUpTo 4 = .ok (.lload_n 1, 1) := by decide +kernel
theorem dX4_rootsUpTo_5 : decode cX4_rootsUpTo 5 = .ok (.iload_n 3, 1) := by decide +kernel
theorem dX4_rootsUpTo_6 : decode cX4_rootsUpTo 6 = .ok (.invokevirtual 132, 3) := by decide +kernel
theorem dX4_rootsUpTo_9 : decode cX4_rootsUpTo 9 = .ok (.aload_n 0, 1) := by decide +kernel
theorem dX4_rootsUpTo_10 : decode cX4_rootsUpTo 10 = .ok (.getfield 36, 3) := by decide +kernel
theorem dX4_rootsUpTo_13 : decode cX4_rootsUpTo 13 = .ok (.invokevirtual 187, 3) := by decide +kernel
theorem dX4_rootsUpTo_16 : decode cX4_rootsUpTo 16 = .ok (.aload_n 0, 1) := by decide +kernel
theorem dX4_rootsUpTo_17 : decode cX4_rootsUpTo 17 = .ok (.getfield 36, 3) := by decide +kernel
theorem dX4_rootsUpTo_20 : decode cX4_rootsUpTo 20 = .ok (.aload_n 0, 1) := by decide +kernel
theorem dX4_rootsUpTo_21 : decode cX4_rootsUpTo 21 = .ok (.getfield 46, 3) := by decide +kernel
theorem dX4_rootsUpTo_24 : decode cX4_rootsUpTo 24 = .ok (.iconst 0, 1) := by decide +kernel
theorem dX4_rootsUpTo_25 : decode cX4_rootsUpTo 25 = .ok (.invokevirtual 136, 3) := by decide +kernel
theorem dX4_rootsUpTo_28 : decode cX4_rootsUpTo 28 = .ok (.isub, 1) := by decide +kernel
theorem dX4_rootsUpTo_29 : decode cX4_rootsUpTo 29 = .ok (.ireturn, 1) := by decide +kernel
theorem dX4_bound_0 : decode cX4_bound 0 = .ok (.aload_n 0, 1) := by decide +kernel
theorem dX4_bound_1 : decode cX4_bound 1 = .ok (.getfield 9, 3) := by decide +kernel
theorem dX4_bound_4 : decode cX4_bound 4 = .ok (.invokestatic 83, 3) := by decide +kernel
theorem dX4_bound_7 : decode cX4_bound 7 = .ok (.istore_n 1, 1) := by decide +kernel
theorem dX4_bound_8 : decode cX4_bound 8 = .ok (.iload_n 1, 1) := by decide +kernel
theorem dX4_bound_9 : decode cX4_bound 9 = .ok (.ifCond .ge 7, 3) := by decide +kernel
theorem dX4_bound_12 : decode cX4_bound 12 = .ok (.lconst 0, 1) := by decide +kernel
theorem dX4_bound_13 : decode cX4_bound 13 = .ok (.goto 13, 3) := by decide +kernel
theorem dX4_bound_16 : decode cX4_bound 16 = .ok (.aload_n 0, 1) := by decide +kernel
theorem dX4_bound_17 : decode cX4_bound 17 = .ok (.getfield 9, 3) := by decide +kernel
theorem dX4_bound_20 : decode cX4_bound 20 = .ok (.iload_n 1, 1) := by decide +kernel
theorem dX4_bound_21 : decode cX4_bound 21 = .ok (.iaload, 1) := by decide +kernel
theorem dX4_bound_22 : decode cX4_bound 22 = .ok (.invokestatic 190, 3) := by decide +kernel
theorem dX4_bound_25 : decode cX4_bound 25 = .ok (.i2l, 1) := by decide +kernel
theorem dX4_bound_26 : decode cX4_bound 26 = .ok (.lstore_n 2, 1) := by decide +kernel
theorem dX4_bound_27 : decode cX4_bound 27 = .ok (.lconst 0, 1) := by decide +kernel
theorem dX4_bound_28 : decode cX4_bound 28 = .ok (.lstore 4, 2) := by decide +kernel
theorem dX4_bound_30 : decode cX4_bound 30 = .ok (.iconst 0, 1) := by decide +kernel
theorem dX4_bound_31 : decode cX4_bound 31 = .ok (.istore 6, 2) := by decide +kernel
theorem dX4_bound_33 : decode cX4_bound 33 = .ok (.iload 6, 2) := by decide +kernel
theorem dX4_bound_35 : decode cX4_bound 35 = .ok (.iload_n 1, 1) := by decide +kernel
theorem dX4_bound_36 : decode cX4_bound 36 = .ok (.if_icmp .ge 27, 3) := by decide +kernel
theorem dX4_bound_39 : decode cX4_bound 39 = .ok (.lload 4, 2) := by decide +kernel
theorem dX4_bound_41 : decode cX4_bound 41 = .ok (.aload_n 0, 1) := by decide +kernel
theorem dX4_bound_42 : decode cX4_bound 42 = .ok (.getfield 9, 3) := by decide +kernel
theorem dX4_bound_45 : decode cX4_bound 45 = .ok (.iload 6, 2) := by decide +kernel
theorem dX4_bound_47 : decode cX4_bound 47 = .ok (.iaload, 1) := by decide +kernel
theorem dX4_bound_48 : decode cX4_bound 48 = .ok (.invokestatic 190, 3) := by decide +kernel
theorem dX4_bound_51 : decode cX4_bound 51 = .ok (.i2l, 1) := by decide +kernel
theorem dX4_bound_52 : decode cX4_bound 52 = .ok (.invokestatic 194, 3) := by decide +kernel
theorem dX4_bound_55 : decode cX4_bound 55 = .ok (.lstore 4, 2) := by decide +kernel
theorem dX4_bound_57 : decode cX4_bound 57 = .ok (.iinc 6 1, 3) := by decide +kernel
theorem dX4_bound_60 : decode cX4_bound 60 = .ok (.goto (-27), 3) := by decide +kernel
theorem dX4_bound_63 : decode cX4_bound 63 = .ok (.lload_n 2, 1) := by decide +kernel
theorem dX4_bound_64 : decode cX4_bound 64 = .ok (.lconst 0, 1) := by decide +kernel
theorem dX4_bound_65 : decode cX4_bound 65 = .ok (.lcmp, 1) := by decide +kernel
theorem dX4_bound_66 : decode cX4_bound 66 = .ok (.ifCond .ne 9, 3) := by decide +kernel
theorem dX4_bound_69 : decode cX4_bound 69 = .ok (.ldc2_w 176, 3) := by decide +kernel
theorem dX4_bound_72 : decode cX4_bound 72 = .ok (.goto 11, 3) := by decide +kernel
theorem dX4_bound_75 : decode cX4_bound 75 = .ok (.lload 4, 2) := by decide +kernel
theorem dX4_bound_77 : decode cX4_bound 77 = .ok (.lload_n 2, 1) := by decide +kernel
theorem dX4_bound_78 : decode cX4_bound 78 = .ok (.ldiv, 1) := by decide +kernel
theorem dX4_bound_79 : decode cX4_bound 79 = .ok (.ldc2_w 198, 3) := by decide +kernel
theorem dX4_bound_82 : decode cX4_bound 82 = .ok (.ladd, 1) := by decide +kernel
theorem dX4_bound_83 : decode cX4_bound 83 = .ok (.lreturn, 1) := by decide +kernel
theorem dX4_findCells_0 : decode cX4_findCells 0 = .ok (.aload_n 0, 1) := by decide +kernel
theorem dX4_findCells_1 : decode cX4_findCells 1 = .ok (.invokevirtual 200, 3) := by decide +kernel
theorem dX4_findCells_4 : decode cX4_findCells 4 = .ok (.iload_n 2, 1) := by decide +kernel
theorem dX4_findCells_5 : decode cX4_findCells 5 = .ok (.lshl, 1) := by decide +kernel
theorem dX4_findCells_6 : decode cX4_findCells 6 = .ok (.lstore_n 3, 1) := by decide +kernel
theorem dX4_findCells_7 : decode cX4_findCells 7 = .ok (.iconst 0, 1) := by decide +kernel
theorem dX4_findCells_8 : decode cX4_findCells 8 = .ok (.istore 5, 2) := by decide +kernel
theorem dX4_findCells_10 : decode cX4_findCells 10 = .ok (.iload 5, 2) := by decide +kernel
theorem dX4_findCells_12 : decode cX4_findCells 12 = .ok (.iload_n 1, 1) := by decide +kernel
theorem dX4_findCells_13 : decode cX4_findCells 13 = .ok (.if_icmp .ge 26, 3) := by decide +kernel
theorem dX4_findCells_16 : decode cX4_findCells 16 = .ok (.aload_n 0, 1) := by decide +kernel
theorem dX4_findCells_17 : decode cX4_findCells 17 = .ok (.getfield 62, 3) := by decide +kernel
theorem dX4_findCells_20 : decode cX4_findCells 20 = .ok (.iload 5, 2) := by decide +kernel
theorem dX4_findCells_22 : decode cX4_findCells 22 = .ok (.lload_n 3, 1) := by decide +kernel
theorem dX4_findCells_23 : decode cX4_findCells 23 = .ok (.lneg, 1) := by decide +kernel
theorem dX4_findCells_24 : decode cX4_findCells 24 = .ok (.lastore, 1) := by decide +kernel
theorem dX4_findCells_25 : decode cX4_findCells 25 = .ok (.aload_n 0, 1) := by decide +kernel
theorem dX4_findCells_26 : decode cX4_findCells 26 = .ok (.getfield 65, 3) := by decide +kernel
theorem dX4_findCells_29 : decode cX4_findCells 29 = .ok (.iload 5, 2) := by decide +kernel
theorem dX4_findCells_31 : decode cX4_findCells 31 = .ok (.lload_n 3, 1) := by decide +kernel
theorem dX4_findCells_32 : decode cX4_findCells 32 = .ok (.lastore, 1) := by decide +kernel
theorem dX4_findCells_33 : decode cX4_findCells 33 = .ok (.iinc 5 1, 3) := by decide +kernel
theorem dX4_findCells_36 : decode cX4_findCells 36 = .ok (.goto (-26), 3) := by decide +kernel
theorem dX4_findCells_39 : decode cX4_findCells 39 = .ok (.iconst 0, 1) := by decide +kernel
theorem dX4_findCells_40 : decode cX4_findCells 40 = .ok (.istore 5, 2) := by decide +kernel
theorem dX4_findCells_42 : decode cX4_findCells 42 = .ok (.iload 5, 2) := by decide +kernel
theorem dX4_findCells_44 : decode cX4_findCells 44 = .ok (.iload_n 1, 1) := by decide +kernel
theorem dX4_findCells_45 : decode cX4_findCells 45 = .ok (.if_icmp .ge 134, 3) := by decide +kernel
theorem dX4_findCells_48 : decode cX4_findCells 48 = .ok (.iconst 0, 1) := by decide +kernel
theorem dX4_findCells_49 : decode cX4_findCells 49 = .ok (.istore 6, 2) := by decide +kernel
theorem dX4_findCells_51 : decode cX4_findCells 51 = .ok (.iload 6, 2) := by decide +kernel
theorem dX4_findCells_53 : decode cX4_findCells 53 = .ok (.bipush 64, 2) := by decide +kernel
theorem dX4_findCells_55 : decode cX4_findCells 55 = .ok (.if_icmp .ge 72, 3) := by decide +kernel
theorem dX4_findCells_58 : decode cX4_findCells 58 = .ok (.aload_n 0, 1) := by decide +kernel
theorem dX4_findCells_59 : decode cX4_findCells 59 = .ok (.getfield 65, 3) := by decide +kernel
theorem dX4_findCells_62 : decode cX4_findCells 62 = .ok (.iload 5, 2) := by decide +kernel
theorem dX4_findCells_64 : decode cX4_findCells 64 = .ok (.laload, 1) := by decide +kernel
theorem dX4_findCells_65 : decode cX4_findCells 65 = .ok (.aload_n 0, 1) := by decide +kernel
theorem dX4_findCells_66 : decode cX4_findCells 66 = .ok (.getfield 62, 3) := by decide +kernel
theorem dX4_findCells_69 : decode cX4_findCells 69 = .ok (.iload 5, 2) := by decide +kernel
theorem dX4_findCells_71 : decode cX4_findCells 71 = .ok (.laload, 1) := by decide +kernel
theorem dX4_findCells_72 : decode cX4_findCells 72 = .ok (.lsub, 1) := by decide +kernel
theorem dX4_findCells_73 : decode cX4_findCells 73 = .ok (.lconst 1, 1) := by decide +kernel
theorem dX4_findCells_74 : decode cX4_findCells 74 = .ok (.lcmp, 1) := by decide +kernel
theorem dX4_findCells_75 : decode cX4_findCells 75 = .ok (.ifCond .le 52, 3) := by decide +kernel
theorem dX4_findCells_78 : decode cX4_findCells 78 = .ok (.aload_n 0, 1) := by decide +kernel
theorem dX4_findCells_79 : decode cX4_findCells 79 = .ok (.iload 5, 2) := by decide +kernel
theorem dX4_findCells_81 : decode cX4_findCells 81 = .ok (.iload_n 1, 1) := by decide +kernel
theorem dX4_findCells_82 : decode cX4_findCells 82 = .ok (.invokevirtual 204, 3) := by decide +kernel
theorem dX4_findCells_85 : decode cX4_findCells 85 = .ok (.ifCond .ne 42, 3) := by decide +kernel
theorem dX4_findCells_88 : decode cX4_findCells 88 = .ok (.aload_n 0, 1) := by decide +kernel
theorem dX4_findCells_89 : decode cX4_findCells 89 = .ok (.getfield 62, 3) := by decide +kernel
theorem dX4_findCells_92 : decode cX4_findCells 92 = .ok (.iload 5, 2) := by decide +kernel
theorem dX4_findCells_94 : decode cX4_findCells 94 = .ok (.laload, 1) := by decide +kernel
theorem dX4_findCells_95 : decode cX4_findCells 95 = .ok (.aload_n 0, 1) := by decide +kernel
theorem dX4_findCells_96 : decode cX4_findCells 96 = .ok (.getfield 65, 3) := by decide +kernel
theorem dX4_findCells_99 : decode cX4_findCells 99 = .ok (.iload 5, 2) := by decide +kernel
theorem dX4_findCells_101 : decode cX4_findCells 101 = .ok (.laload, 1) := by decide +kernel
theorem dX4_findCells_102 : decode cX4_findCells 102 = .ok (.ladd, 1) := by decide +kernel
theorem dX4_findCells_103 : decode cX4_findCells 103 = .ok (.iconst 1, 1) := by decide +kernel
theorem dX4_findCells_104 : decode cX4_findCells 104 = .ok (.lshr, 1) := by decide +kernel
theorem dX4_findCells_105 : decode cX4_findCells 105 = .ok (.lstore 7, 2) := by decide +kernel
theorem dX4_findCells_107 : decode cX4_findCells 107 = .ok (.aload_n 0, 1) := by decide +kernel
theorem dX4_findCells_108 : decode cX4_findCells 108 = .ok (.lload 7, 2) := by decide +kernel
theorem dX4_findCells_110 : decode cX4_findCells 110 = .ok (.aload_n 0, 1) := by decide +kernel
theorem dX4_findCells_111 : decode cX4_findCells 111 = .ok (.lload 7, 2) := by decide +kernel
theorem dX4_findCells_113 : decode cX4_findCells 113 = .ok (.iload_n 2, 1) := by decide +kernel
theorem dX4_findCells_114 : decode cX4_findCells 114 = .ok (.invokevirtual 101, 3) := by decide +kernel
theorem dX4_findCells_117 : decode cX4_findCells 117 = .ok (.iload_n 1, 1) := by decide +kernel
theorem dX4_findCells_118 : decode cX4_findCells 118 = .ok (.invokevirtual 207, 3) := by decide +kernel
theorem dX4_findCells_121 : decode cX4_findCells 121 = .ok (.iinc 6 1, 3) := by decide +kernel
theorem dX4_findCells_124 : decode cX4_findCells 124 = .ok (.goto (-73), 3) := by decide +kernel
theorem dX4_findCells_127 : decode cX4_findCells 127 = .ok (.aload_n 0, 1) := by decide +kernel
theorem dX4_findCells_128 : decode cX4_findCells 128 = .ok (.getfield 23, 3) := by decide +kernel
theorem dX4_findCells_131 : decode cX4_findCells 131 = .ok (.iload 5, 2) := by decide +kernel
theorem dX4_findCells_133 : decode cX4_findCells 133 = .ok (.aload_n 0, 1) := by decide +kernel
theorem dX4_findCells_134 : decode cX4_findCells 134 = .ok (.iload 5, 2) := by decide +kernel
theorem dX4_findCells_136 : decode cX4_findCells 136 = .ok (.iload_n 1, 1) := by decide +kernel
theorem dX4_findCells_137 : decode cX4_findCells 137 = .ok (.invokevirtual 204, 3) := by decide +kernel
theorem dX4_findCells_140 : decode cX4_findCells 140 = .ok (.ifCond .eq 25, 3) := by decide +kernel
theorem dX4_findCells_143 : decode cX4_findCells 143 = .ok (.aload_n 0, 1) := by decide +kernel
theorem dX4_findCells_144 : decode cX4_findCells 144 = .ok (.aload_n 0, 1) := by decide +kernel
theorem dX4_findCells_145 : decode cX4_findCells 145 = .ok (.getfield 62, 3) := by decide +kernel
theorem dX4_findCells_148 : decode cX4_findCells 148 = .ok (.iload 5, 2) := by decide +kernel
theorem dX4_findCells_150 : decode cX4_findCells 150 = .ok (.laload, 1) := by decide +kernel
theorem dX4_findCells_151 : decode cX4_findCells 151 = .ok (.aload_n 0, 1) := by decide +kernel
theorem dX4_findCells_152 : decode cX4_findCells 152 = .ok (.getfield 65, 3) := by decide +kernel
theorem dX4_findCells_155 : decode cX4_findCells 155 = .ok (.iload 5, 2) := by decide +kernel
theorem dX4_findCells_157 : decode cX4_findCells 157 = .ok (.laload, 1) := by decide +kernel
theorem dX4_findCells_158 : decode cX4_findCells 158 = .ok (.iload_n 2, 1) := by decide +kernel
theorem dX4_findCells_159 : decode cX4_findCells 159 = .ok (.invokevirtual 211, 3) := by decide +kernel
theorem dX4_findCells_162 : decode cX4_findCells 162 = .ok (.goto 10, 3) := by decide +kernel
theorem dX4_findCells_165 : decode cX4_findCells 165 = .ok (.aload_n 0, 1) := by decide +kernel
theorem dX4_findCells_166 : decode cX4_findCells 166 = .ok (.getfield 62, 3) := by decide +kernel
theorem dX4_findCells_169 : decode cX4_findCells 169 = .ok (.iload 5, 2) := by decide +kernel
theorem dX4_findCells_171 : decode cX4_findCells 171 = .ok (.laload, 1) := by decide +kernel
theorem dX4_findCells_172 : decode cX4_findCells 172 = .ok (.lastore, 1) := by decide +kernel
theorem dX4_findCells_173 : decode cX4_findCells 173 = .ok (.iinc 5 1, 3) := by decide +kernel
theorem dX4_findCells_176 : decode cX4_findCells 176 = .ok (.goto (-134), 3) := by decide +kernel
theorem dX4_findCells_179 : decode cX4_findCells 179 = .ok (.return_, 1) := by decide +kernel
theorem dX4_isApart_0 : decode cX4_isApart 0 = .ok (.iload_n 1, 1) := by decide +kernel
theorem dX4_isApart_1 : decode cX4_isApart 1 = .ok (.ifCond .eq 21, 3) := by decide +kernel
theorem dX4_isApart_4 : decode cX4_isApart 4 = .ok (.aload_n 0, 1) := by decide +kernel
theorem dX4_isApart_5 : decode cX4_isApart 5 = .ok (.getfield 65, 3) := by decide +kernel
theorem dX4_isApart_8 : decode cX4_isApart 8 = .ok (.iload_n 1, 1) := by decide +kernel
theorem dX4_isApart_9 : decode cX4_isApart 9 = .ok (.iconst 1, 1) := by decide +kernel
theorem dX4_isApart_10 : decode cX4_isApart 10 = .ok (.isub, 1) := by decide +kernel
theorem dX4_isApart_11 : decode cX4_isApart 11 = .ok (.laload, 1) := by decide +kernel
theorem dX4_isApart_12 : decode cX4_isApart 12 = .ok (.aload_n 0, 1) := by decide +kernel
theorem dX4_isApart_13 : decode cX4_isApart 13 = .ok (.getfield 62, 3) := by decide +kernel
theorem dX4_isApart_16 : decode cX4_isApart 16 = .ok (.iload_n 1, 1) := by decide +kernel
theorem dX4_isApart_17 : decode cX4_isApart 17 = .ok (.laload, 1) := by decide +kernel
theorem dX4_isApart_18 : decode cX4_isApart 18 = .ok (.lcmp, 1) := by decide +kernel
theorem dX4_isApart_19 : decode cX4_isApart 19 = .ok (.ifCond .gt 32, 3) := by decide +kernel
theorem dX4_isApart_22 : decode cX4_isApart 22 = .ok (.iload_n 1, 1) := by decide +kernel
theorem dX4_isApart_23 : decode cX4_isApart 23 = .ok (.iconst 1, 1) := by decide +kernel
theorem dX4_isApart_24 : decode cX4_isApart 24 = .ok (.iadd, 1) := by decide +kernel
theorem dX4_isApart_25 : decode cX4_isApart 25 = .ok (.iload_n 2, 1) := by decide +kernel
theorem dX4_isApart_26 : decode cX4_isApart 26 = .ok (.if_icmp .ge 21, 3) := by decide +kernel
theorem dX4_isApart_29 : decode cX4_isApart 29 = .ok (.aload_n 0, 1) := by decide +kernel
theorem dX4_isApart_30 : decode cX4_isApart 30 = .ok (.getfield 65, 3) := by decide +kernel
theorem dX4_isApart_33 : decode cX4_isApart 33 = .ok (.iload_n 1, 1) := by decide +kernel
theorem dX4_isApart_34 : decode cX4_isApart 34 = .ok (.laload, 1) := by decide +kernel
theorem dX4_isApart_35 : decode cX4_isApart 35 = .ok (.aload_n 0, 1) := by decide +kernel
theorem dX4_isApart_36 : decode cX4_isApart 36 = .ok (.getfield 62, 3) := by decide +kernel
theorem dX4_isApart_39 : decode cX4_isApart 39 = .ok (.iload_n 1, 1) := by decide +kernel
theorem dX4_isApart_40 : decode cX4_isApart 40 = .ok (.iconst 1, 1) := by decide +kernel
theorem dX4_isApart_41 : decode cX4_isApart 41 = .ok (.iadd, 1) := by decide +kernel
theorem dX4_isApart_42 : decode cX4_isApart 42 = .ok (.laload, 1) := by decide +kernel
theorem dX4_isApart_43 : decode cX4_isApart 43 = .ok (.lcmp, 1) := by decide +kernel
theorem dX4_isApart_44 : decode cX4_isApart 44 = .ok (.ifCond .gt 7, 3) := by decide +kernel
theorem dX4_isApart_47 : decode cX4_isApart 47 = .ok (.iconst 1, 1) := by decide +kernel
theorem dX4_isApart_48 : decode cX4_isApart 48 = .ok (.goto 4, 3) := by decide +kernel
theorem dX4_isApart_51 : decode cX4_isApart 51 = .ok (.iconst 0, 1) := by decide +kernel
theorem dX4_isApart_52 : decode cX4_isApart 52 = .ok (.ireturn, 1) := by decide +kernel
theorem dX4_part_0 : decode cX4_part 0 = .ok (.iconst 0, 1) := by decide +kernel
theorem dX4_part_1 : decode cX4_part 1 = .ok (.istore 5, 2) := by decide +kernel
theorem dX4_part_3 : decode cX4_part 3 = .ok (.iload 5, 2) := by decide +kernel
theorem dX4_part_5 : decode cX4_part 5 = .ok (.iload 4, 2) := by decide +kernel
theorem dX4_part_7 : decode cX4_part 7 = .ok (.if_icmp .ge 54, 3) := by decide +kernel
theorem dX4_part_10 : decode cX4_part 10 = .ok (.iload 5, 2) := by decide +kernel
theorem dX4_part_12 : decode cX4_part 12 = .ok (.iload_n 3, 1) := by decide +kernel
theorem dX4_part_13 : decode cX4_part 13 = .ok (.if_icmp .ge 24, 3) := by decide +kernel
theorem dX4_part_16 : decode cX4_part 16 = .ok (.aload_n 0, 1) := by decide +kernel
theorem dX4_part_17 : decode cX4_part 17 = .ok (.getfield 65, 3) := by decide +kernel
theorem dX4_part_20 : decode cX4_part 20 = .ok (.iload 5, 2) := by decide +kernel
theorem dX4_part_22 : decode cX4_part 22 = .ok (.aload_n 0, 1) := by decide +kernel
theorem dX4_part_23 : decode cX4_part 23 = .ok (.getfield 65, 3) := by decide +kernel
theorem dX4_part_26 : decode cX4_part 26 = .ok (.iload 5, 2) := by decide +kernel
theorem dX4_part_28 : decode cX4_part 28 = .ok (.laload, 1) := by decide +kernel
theorem dX4_part_29 : decode cX4_part 29 = .ok (.lload_n 1, 1) := by decide +kernel
theorem dX4_part_30 : decode cX4_part 30 = .ok (.invokestatic 215, 3) := by decide +kernel
theorem dX4_part_33 : decode cX4_part 33 = .ok (.lastore, 1) := by decide +kernel
theorem dX4_part_34 : decode cX4_part 34 = .ok (.goto 21, 3) := by decide +kernel
theorem dX4_part_37 : decode cX4_part 37 = .ok (.aload_n 0, 1) := by decide +kernel
theorem dX4_part_38 : decode cX4_part 38 = .ok (.getfield 62, 3) := by decide +kernel
theorem dX4_part_41 : decode cX4_part 41 = .ok (.iload 5, 2) := by decide +kernel
theorem dX4_part_43 : decode cX4_part 43 = .ok (.aload_n 0, 1) := by decide +kernel
theorem dX4_part_44 : decode cX4_part 44 = .ok (.getfield 62, 3) := by decide +kernel
theorem dX4_part_47 : decode cX4_part 47 = .ok (.iload 5, 2) := by decide +kernel
theorem dX4_part_49 : decode cX4_part 49 = .ok (.laload, 1) := by decide +kernel
theorem dX4_part_50 : decode cX4_part 50 = .ok (.lload_n 1, 1) := by decide +kernel
theorem dX4_part_51 : decode cX4_part 51 = .ok (.invokestatic 194, 3) := by decide +kernel
theorem dX4_part_54 : decode cX4_part 54 = .ok (.lastore, 1) := by decide +kernel
theorem dX4_part_55 : decode cX4_part 55 = .ok (.iinc 5 1, 3) := by decide +kernel
theorem dX4_part_58 : decode cX4_part 58 = .ok (.goto (-55), 3) := by decide +kernel
theorem dX4_part_61 : decode cX4_part 61 = .ok (.return_, 1) := by decide +kernel
theorem dX4_narrow_0 : decode cX4_narrow 0 = .ok (.aload_n 0, 1) := by decide +kernel
theorem dX4_narrow_1 : decode cX4_narrow 1 = .ok (.lload_n 3, 1) := by decide +kernel
theorem dX4_narrow_2 : decode cX4_narrow 2 = .ok (.iload 5, 2) := by decide +kernel
theorem dX4_narrow_4 : decode cX4_narrow 4 = .ok (.invokevirtual 217, 3) := by decide +kernel
theorem dX4_narrow_7 : decode cX4_narrow 7 = .ok (.istore 6, 2) := by decide +kernel
theorem dX4_narrow_9 : decode cX4_narrow 9 = .ok (.iload 6, 2) := by decide +kernel
theorem dX4_narrow_11 : decode cX4_narrow 11 = .ok (.ifCond .ne 7, 3) := by decide +kernel
theorem dX4_narrow_14 : decode cX4_narrow 14 = .ok (.lload_n 3, 1) := by decide +kernel
theorem dX4_narrow_15 : decode cX4_narrow 15 = .ok (.lconst 1, 1) := by decide +kernel
theorem dX4_narrow_16 : decode cX4_narrow 16 = .ok (.lsub, 1) := by decide +kernel
theorem dX4_narrow_17 : decode cX4_narrow 17 = .ok (.lreturn, 1) := by decide +kernel
theorem dX4_narrow_18 : decode cX4_narrow 18 = .ok (.iconst 0, 1) := by decide +kernel
theorem dX4_narrow_19 : decode cX4_narrow 19 = .ok (.istore 7, 2) := by decide +kernel
theorem dX4_narrow_21 : decode cX4_narrow 21 = .ok (.iload 7, 2) := by decide +kernel
theorem dX4_narrow_23 : decode cX4_narrow 23 = .ok (.bipush 64, 2) := by decide +kernel
theorem dX4_narrow_25 : decode cX4_narrow 25 = .ok (.if_icmp .ge 60, 3) := by decide +kernel
theorem dX4_narrow_28 : decode cX4_narrow 28 = .ok (.lload_n 3, 1) := by decide +kernel
theorem dX4_narrow_29 : decode cX4_narrow 29 = .ok (.lload_n 1, 1) := by decide +kernel
theorem dX4_narrow_30 : decode cX4_narrow 30 = .ok (.lsub, 1) := by decide +kernel
theorem dX4_narrow_31 : decode cX4_narrow 31 = .ok (.lconst 1, 1) := by decide +kernel
theorem dX4_narrow_32 : decode cX4_narrow 32 = .ok (.lcmp, 1) := by decide +kernel
theorem dX4_narrow_33 : decode cX4_narrow 33 = .ok (.ifCond .le 52, 3) := by decide +kernel
theorem dX4_narrow_36 : decode cX4_narrow 36 = .ok (.lload_n 1, 1) := by decide +kernel
theorem dX4_narrow_37 : decode cX4_narrow 37 = .ok (.lload_n 3, 1) := by decide +kernel
theorem dX4_narrow_38 : decode cX4_narrow 38 = .ok (.ladd, 1) := by decide +kernel
theorem dX4_narrow_39 : decode cX4_narrow 39 = .ok (.iconst 1, 1) := by decide +kernel
theorem dX4_narrow_40 : decode cX4_narrow 40 = .ok (.lshr, 1) := by decide +kernel
theorem dX4_narrow_41 : decode cX4_narrow 41 = .ok (.lstore 8, 2) := by decide +kernel
theorem dX4_narrow_43 : decode cX4_narrow 43 = .ok (.aload_n 0, 1) := by decide +kernel
theorem dX4_narrow_44 : decode cX4_narrow 44 = .ok (.lload 8, 2) := by decide +kernel
theorem dX4_narrow_46 : decode cX4_narrow 46 = .ok (.iload 5, 2) := by decide +kernel
theorem dX4_narrow_48 : decode cX4_narrow 48 = .ok (.invokevirtual 217, 3) := by decide +kernel
theorem dX4_narrow_51 : decode cX4_narrow 51 = .ok (.istore 10, 2) := by decide +kernel
theorem dX4_narrow_53 : decode cX4_narrow 53 = .ok (.iload 10, 2) := by decide +kernel
theorem dX4_narrow_55 : decode cX4_narrow 55 = .ok (.ifCond .ne 8, 3) := by decide +kernel
theorem dX4_narrow_58 : decode cX4_narrow 58 = .ok (.lload 8, 2) := by decide +kernel
theorem dX4_narrow_60 : decode cX4_narrow 60 = .ok (.lconst 1, 1) := by decide +kernel
theorem dX4_narrow_61 : decode cX4_narrow 61 = .ok (.lsub, 1) := by decide +kernel
theorem dX4_narrow_62 : decode cX4_narrow 62 = .ok (.lreturn, 1) := by decide +kernel
theorem dX4_narrow_63 : decode cX4_narrow 63 = .ok (.iload 10, 2) := by decide +kernel
theorem dX4_narrow_65 : decode cX4_narrow 65 = .ok (.iload 6, 2) := by decide +kernel
theorem dX4_narrow_67 : decode cX4_narrow 67 = .ok (.if_icmp .ne 9, 3) := by decide +kernel
theorem dX4_narrow_70 : decode cX4_narrow 70 = .ok (.lload 8, 2) := by decide +kernel
theorem dX4_narrow_72 : decode cX4_narrow 72 = .ok (.lstore_n 3, 1) := by decide +kernel
theorem dX4_narrow_73 : decode cX4_narrow 73 = .ok (.goto 6, 3) := by decide +kernel
theorem dX4_narrow_76 : decode cX4_narrow 76 = .ok (.lload 8, 2) := by decide +kernel
theorem dX4_narrow_78 : decode cX4_narrow 78 = .ok (.lstore_n 1, 1) := by decide +kernel
theorem dX4_narrow_79 : decode cX4_narrow 79 = .ok (.iinc 7 1, 3) := by decide +kernel
theorem dX4_narrow_82 : decode cX4_narrow 82 = .ok (.goto (-61), 3) := by decide +kernel
theorem dX4_narrow_85 : decode cX4_narrow 85 = .ok (.lload_n 1, 1) := by decide +kernel
theorem dX4_narrow_86 : decode cX4_narrow 86 = .ok (.lreturn, 1) := by decide +kernel
theorem dX4_simpleSide_0 : decode cX4_simpleSide 0 = .ok (.aload_n 0, 1) := by decide +kernel
theorem dX4_simpleSide_1 : decode cX4_simpleSide 1 = .ok (.getfield 46, 3) := by decide +kernel
theorem dX4_simpleSide_4 : decode cX4_simpleSide 4 = .ok (.lload_n 1, 1) := by decide +kernel
theorem dX4_simpleSide_5 : decode cX4_simpleSide 5 = .ok (.iload_n 3, 1) := by decide +kernel
theorem dX4_simpleSide_6 : decode cX4_simpleSide 6 = .ok (.invokevirtual 132, 3) := by decide +kernel
theorem dX4_simpleSide_9 : decode cX4_simpleSide 9 = .ok (.aload_n 0, 1) := by decide +kernel
theorem dX4_simpleSide_10 : decode cX4_simpleSide 10 = .ok (.getfield 46, 3) := by decide +kernel
theorem dX4_simpleSide_13 : decode cX4_simpleSide 13 = .ok (.aload_n 0, 1) := by decide +kernel
theorem dX4_simpleSide_14 : decode cX4_simpleSide 14 = .ok (.getfield 36, 3) := by decide +kernel
theorem dX4_simpleSide_17 : decode cX4_simpleSide 17 = .ok (.invokevirtual 220, 3) := by decide +kernel
theorem dX4_simpleSide_20 : decode cX4_simpleSide 20 = .ok (.iconst 0, 1) := by decide +kernel
theorem dX4_simpleSide_21 : decode cX4_simpleSide 21 = .ok (.invokevirtual 161, 3) := by decide +kernel
theorem dX4_simpleSide_24 : decode cX4_simpleSide 24 = .ok (.getfield 178, 3) := by decide +kernel
theorem dX4_simpleSide_27 : decode cX4_simpleSide 27 = .ok (.istore 4, 2) := by decide +kernel
theorem dX4_simpleSide_29 : decode cX4_simpleSide 29 = .ok (.iload 4, 2) := by decide +kernel
theorem dX4_simpleSide_31 : decode cX4_simpleSide 31 = .ok (.ifCond .ne 7, 3) := by decide +kernel
theorem dX4_simpleSide_34 : decode cX4_simpleSide 34 = .ok (.iconst 0, 1) := by decide +kernel
theorem dX4_simpleSide_35 : decode cX4_simpleSide 35 = .ok (.goto 24, 3) := by decide +kernel
theorem dX4_simpleSide_38 : decode cX4_simpleSide 38 = .ok (.iload 4, 2) := by decide +kernel
theorem dX4_simpleSide_40 : decode cX4_simpleSide 40 = .ok (.aload_n 0, 1) := by decide +kernel
theorem dX4_simpleSide_41 : decode cX4_simpleSide 41 = .ok (.getfield 46, 3) := by decide +kernel
theorem dX4_simpleSide_44 : decode cX4_simpleSide 44 = .ok (.aload_n 0, 1) := by decide +kernel
theorem dX4_simpleSide_45 : decode cX4_simpleSide 45 = .ok (.getfield 36, 3) := by decide +kernel
theorem dX4_simpleSide_48 : decode cX4_simpleSide 48 = .ok (.invokevirtual 224, 3) := by decide +kernel
theorem dX4_simpleSide_51 : decode cX4_simpleSide 51 = .ok (.iconst 0, 1) := by decide +kernel
theorem dX4_simpleSide_52 : decode cX4_simpleSide 52 = .ok (.invokevirtual 161, 3) := by decide +kernel
theorem dX4_simpleSide_55 : decode cX4_simpleSide 55 = .ok (.getfield 178, 3) := by decide +kernel
theorem dX4_simpleSide_58 : decode cX4_simpleSide 58 = .ok (.imul, 1) := by decide +kernel
theorem dX4_simpleSide_59 : decode cX4_simpleSide 59 = .ok (.ireturn, 1) := by decide +kernel
theorem dX4_separate_0 : decode cX4_separate 0 = .ok (.iconst 0, 1) := by decide +kernel
theorem dX4_separate_1 : decode cX4_separate 1 = .ok (.istore_n 3, 1) := by decide +kernel
theorem dX4_separate_2 : decode cX4_separate 2 = .ok (.iload_n 3, 1) := by decide +kernel
theorem dX4_separate_3 : decode cX4_separate 3 = .ok (.iload_n 1, 1) := by decide +kernel
theorem dX4_separate_4 : decode cX4_separate 4 = .ok (.if_icmp .ge 16, 3) := by decide +kernel
theorem dX4_separate_7 : decode cX4_separate 7 = .ok (.aload_n 0, 1) := by decide +kernel
theorem dX4_separate_8 : decode cX4_separate 8 = .ok (.getfield 20, 3) := by decide +kernel
theorem dX4_separate_11 : decode cX4_separate 11 = .ok (.iload_n 3, 1) := by decide +kernel
theorem dX4_separate_12 : decode cX4_separate 12 = .ok (.iconst (-1), 1) := by decide +kernel
theorem dX4_separate_13 : decode cX4_separate 13 = .ok (.iastore, 1) := by decide +kernel
theorem dX4_separate_14 : decode cX4_separate 14 = .ok (.iinc 3 1, 3) := by decide +kernel
theorem dX4_separate_17 : decode cX4_separate 17 = .ok (.goto (-15), 3) := by decide +kernel
theorem dX4_separate_20 : decode cX4_separate 20 = .ok (.iload_n 2, 1) := by decide +kernel
theorem dX4_separate_21 : decode cX4_separate 21 = .ok (.istore_n 3, 1) := by decide +kernel
theorem dX4_separate_22 : decode cX4_separate 22 = .ok (.iload_n 3, 1) := by decide +kernel
theorem dX4_separate_23 : decode cX4_separate 23 = .ok (.bipush 30, 2) := by decide +kernel
theorem dX4_separate_25 : decode cX4_separate 25 = .ok (.if_icmp .gt 154, 3) := by decide +kernel
theorem dX4_separate_28 : decode cX4_separate 28 = .ok (.iconst 0, 1) := by decide +kernel
theorem dX4_separate_29 : decode cX4_separate 29 = .ok (.istore 4, 2) := by decide +kernel
theorem dX4_separate_31 : decode cX4_separate 31 = .ok (.iconst 0, 1) := by decide +kernel
theorem dX4_separate_32 : decode cX4_separate 32 = .ok (.istore 5, 2) := by decide +kernel
theorem dX4_separate_34 : decode cX4_separate 34 = .ok (.iload 5, 2) := by decide +kernel
theorem dX4_separate_36 : decode cX4_separate 36 = .ok (.iload_n 1, 1) := by decide +kernel
theorem dX4_separate_37 : decode cX4_separate 37 = .ok (.if_icmp .ge 52, 3) := by decide +kernel
theorem dX4_separate_40 : decode cX4_separate 40 = .ok (.aload_n 0, 1) := by decide +kernel
theorem dX4_separate_41 : decode cX4_separate 41 = .ok (.getfield 20, 3) := by decide +kernel
theorem dX4_separate_44 : decode cX4_separate 44 = .ok (.iload 5, 2) := by decide +kernel
theorem dX4_separate_46 : decode cX4_separate 46 = .ok (.iaload, 1) := by decide +kernel
theorem dX4_separate_47 : decode cX4_separate 47 = .ok (.iconst (-1), 1) := by decide +kernel
theorem dX4_separate_48 : decode cX4_separate 48 = .ok (.if_icmp .ne 21, 3) := by decide +kernel
theorem dX4_separate_51 : decode cX4_separate 51 = .ok (.aload_n 0, 1) := by decide +kernel
theorem dX4_separate_52 : decode cX4_separate 52 = .ok (.iload 5, 2) := by decide +kernel
theorem dX4_separate_54 : decode cX4_separate 54 = .ok (.iload_n 1, 1) := by decide +kernel
theorem dX4_separate_55 : decode cX4_separate 55 = .ok (.invokevirtual 227, 3) := by decide +kernel
theorem dX4_separate_58 : decode cX4_separate 58 = .ok (.ifCond .eq 11, 3) := by decide +kernel
theorem dX4_separate_61 : decode cX4_separate 61 = .ok (.aload_n 0, 1) := by decide +kernel
theorem dX4_separate_62 : decode cX4_separate 62 = .ok (.getfield 20, 3) := by decide +kernel
theorem dX4_separate_65 : decode cX4_separate 65 = .ok (.iload 5, 2) := by decide +kernel
theorem dX4_separate_67 : decode cX4_separate 67 = .ok (.iload_n 3, 1) := by decide +kernel
theorem dX4_separate_68 : decode cX4_separate 68 = .ok (.iastore, 1) := by decide +kernel
theorem dX4_separate_69 : decode cX4_separate 69 = .ok (.aload_n 0, 1) := by decide +kernel
theorem dX4_separate_70 : decode cX4_separate 70 = .ok (.getfield 20, 3) := by decide +kernel
theorem dX4_separate_73 : decode cX4_separate 73 = .ok (.iload 5, 2) := by decide +kernel
theorem dX4_separate_75 : decode cX4_separate 75 = .ok (.iaload, 1) := by decide +kernel
theorem dX4_separate_76 : decode cX4_separate 76 = .ok (.iconst (-1), 1) := by decide +kernel
theorem dX4_separate_77 : decode cX4_separate 77 = .ok (.if_icmp .ne 6, 3) := by decide +kernel
theorem dX4_separate_80 : decode cX4_separate 80 = .ok (.iinc 4 1, 3) := by decide +kernel
theorem dX4_separate_83 : decode cX4_separate 83 = .ok (.iinc 5 1, 3) := by decide +kernel
theorem dX4_separate_86 : decode cX4_separate 86 = .ok (.goto (-52), 3) := by decide +kernel
theorem dX4_separate_89 : decode cX4_separate 89 = .ok (.iload 4, 2) := by decide +kernel
theorem dX4_separate_91 : decode cX4_separate 91 = .ok (.ifCond .ne 5, 3) := by decide +kernel
theorem dX4_separate_94 : decode cX4_separate 94 = .ok (.iconst 1, 1) := by decide +kernel
theorem dX4_separate_95 : decode cX4_separate 95 = .ok (.ireturn, 1) := by decide +kernel
theorem dX4_separate_96 : decode cX4_separate 96 = .ok (.iconst 0, 1) := by decide +kernel
theorem dX4_separate_97 : decode cX4_separate 97 = .ok (.istore 5, 2) := by decide +kernel
theorem dX4_separate_99 : decode cX4_separate 99 = .ok (.iload 5, 2) := by decide +kernel
theorem dX4_separate_101 : decode cX4_separate 101 = .ok (.iload_n 1, 1) := by decide +kernel
theorem dX4_separate_102 : decode cX4_separate 102 = .ok (.if_icmp .ge 71, 3) := by decide +kernel
theorem dX4_separate_105 : decode cX4_separate 105 = .ok (.iload_n 3, 1) := by decide +kernel
theorem dX4_separate_106 : decode cX4_separate 106 = .ok (.bipush 30, 2) := by decide +kernel
theorem dX4_separate_108 : decode cX4_separate 108 = .ok (.if_icmp .ge 65, 3) := by decide +kernel
theorem dX4_separate_111 : decode cX4_separate 111 = .ok (.aload_n 0, 1) := by decide +kernel
theorem dX4_separate_112 : decode cX4_separate 112 = .ok (.getfield 20, 3) := by decide +kernel
theorem dX4_separate_115 : decode cX4_separate 115 = .ok (.iload 5, 2) := by decide +kernel
theorem dX4_separate_117 : decode cX4_separate 117 = .ok (.iaload, 1) := by decide +kernel
theorem dX4_separate_118 : decode cX4_separate 118 = .ok (.iconst (-1), 1) := by decide +kernel
theorem dX4_separate_119 : decode cX4_separate 119 = .ok (.if_icmp .ne 48, 3) := by decide +kernel
theorem dX4_separate_122 : decode cX4_separate 122 = .ok (.ldc2_w 198, 3) := by decide +kernel
theorem dX4_separate_125 : decode cX4_separate 125 = .ok (.aload_n 0, 1) := by decide +kernel
theorem dX4_separate_126 : decode cX4_separate 126 = .ok (.getfield 23, 3) := by decide +kernel
theorem dX4_separate_129 : decode cX4_separate 129 = .ok (.iload 5, 2) := by decide +kernel
theorem dX4_separate_131 : decode cX4_separate 131 = .ok (.laload, 1) := by decide +kernel
theorem dX4_separate_132 : decode cX4_separate 132 = .ok (.lmul, 1) := by decide +kernel
theorem dX4_separate_133 : decode cX4_separate 133 = .ok (.lconst 1, 1) := by decide +kernel
theorem dX4_separate_134 : decode cX4_separate 134 = .ok (.ladd, 1) := by decide +kernel
theorem dX4_separate_135 : decode cX4_separate 135 = .ok (.lstore 6, 2) := by decide +kernel
theorem dX4_separate_137 : decode cX4_separate 137 = .ok (.aload_n 0, 1) := by decide +kernel
theorem dX4_separate_138 : decode cX4_separate 138 = .ok (.getfield 23, 3) := by decide +kernel
theorem dX4_separate_141 : decode cX4_separate 141 = .ok (.iload 5, 2) := by decide +kernel
theorem dX4_separate_143 : decode cX4_separate 143 = .ok (.aload_n 0, 1) := by decide +kernel
theorem dX4_separate_144 : decode cX4_separate 144 = .ok (.lload 6, 2) := by decide +kernel
theorem dX4_separate_146 : decode cX4_separate 146 = .ok (.iload_n 3, 1) := by decide +kernel
theorem dX4_separate_147 : decode cX4_separate 147 = .ok (.iconst 1, 1) := by decide +kernel
theorem dX4_separate_148 : decode cX4_separate 148 = .ok (.iadd, 1) := by decide +kernel
theorem dX4_separate_149 : decode cX4_separate 149 = .ok (.invokevirtual 101, 3) := by decide +kernel
theorem dX4_separate_152 : decode cX4_separate 152 = .ok (.iload 5, 2) := by decide +kernel
theorem dX4_separate_154 : decode cX4_separate 154 = .ok (.if_icmp .le 10, 3) := by decide +kernel
theorem dX4_separate_157 : decode cX4_separate 157 = .ok (.lload 6, 2) := by decide +kernel
theorem dX4_separate_159 : decode cX4_separate 159 = .ok (.lconst 1, 1) := by decide +kernel
theorem dX4_separate_160 : decode cX4_separate 160 = .ok (.lsub, 1) := by decide +kernel
theorem dX4_separate_161 : decode cX4_separate 161 = .ok (.goto 5, 3) := by decide +kernel
theorem dX4_separate_164 : decode cX4_separate 164 = .ok (.lload 6, 2) := by decide +kernel
theorem dX4_separate_166 : decode cX4_separate 166 = .ok (.lastore, 1) := by decide +kernel
theorem dX4_separate_167 : decode cX4_separate 167 = .ok (.iinc 5 1, 3) := by decide +kernel
theorem dX4_separate_170 : decode cX4_separate 170 = .ok (.goto (-71), 3) := by decide +kernel
theorem dX4_separate_173 : decode cX4_separate 173 = .ok (.iinc 3 1, 3) := by decide +kernel
theorem dX4_separate_176 : decode cX4_separate 176 = .ok (.goto (-154), 3) := by decide +kernel
theorem dX4_separate_179 : decode cX4_separate 179 = .ok (.iconst 0, 1) := by decide +kernel
theorem dX4_separate_180 : decode cX4_separate 180 = .ok (.ireturn, 1) := by decide +kernel
theorem dX4_isAlone_0 : decode cX4_isAlone 0 = .ok (.iload_n 1, 1) := by decide +kernel
theorem dX4_isAlone_1 : decode cX4_isAlone 1 = .ok (.ifCond .le 37, 3) := by decide +kernel
theorem dX4_isAlone_4 : decode cX4_isAlone 4 = .ok (.aload_n 0, 1) := by decide +kernel
theorem dX4_isAlone_5 : decode cX4_isAlone 5 = .ok (.getfield 20, 3) := by decide +kernel
theorem dX4_isAlone_8 : decode cX4_isAlone 8 = .ok (.iload_n 1, 1) := by decide +kernel
theorem dX4_isAlone_9 : decode cX4_isAlone 9 = .ok (.iconst 1, 1) := by decide +kernel
theorem dX4_isAlone_10 : decode cX4_isAlone 10 = .ok (.isub, 1) := by decide +kernel
theorem dX4_isAlone_11 : decode cX4_isAlone 11 = .ok (.iaload, 1) := by decide +kernel
theorem dX4_isAlone_12 : decode cX4_isAlone 12 = .ok (.iconst (-1), 1) := by decide +kernel
theorem dX4_isAlone_13 : decode cX4_isAlone 13 = .ok (.if_icmp .ne 25, 3) := by decide +kernel
theorem dX4_isAlone_16 : decode cX4_isAlone 16 = .ok (.aload_n 0, 1) := by decide +kernel
theorem dX4_isAlone_17 : decode cX4_isAlone 17 = .ok (.getfield 23, 3) := by decide +kernel
theorem dX4_isAlone_20 : decode cX4_isAlone 20 = .ok (.iload_n 1, 1) := by decide +kernel
theorem dX4_isAlone_21 : decode cX4_isAlone 21 = .ok (.iconst 1, 1) := by decide +kernel
theorem dX4_isAlone_22 : decode cX4_isAlone 22 = .ok (.isub, 1) := by decide +kernel
theorem dX4_isAlone_23 : decode cX4_isAlone 23 = .ok (.laload, 1) := by decide +kernel
theorem dX4_isAlone_24 : decode cX4_isAlone 24 = .ok (.aload_n 0, 1) := by decide +kernel
theorem dX4_isAlone_25 : decode cX4_isAlone 25 = .ok (.getfield 23, 3) := by decide +kernel
theorem dX4_isAlone_28 : decode cX4_isAlone 28 = .ok (.iload_n 1, 1) := by decide +kernel
theorem dX4_isAlone_29 : decode cX4_isAlone 29 = .ok (.laload, 1) := by decide +kernel
theorem dX4_isAlone_30 : decode cX4_isAlone 30 = .ok (.lcmp, 1) := by decide +kernel
theorem dX4_isAlone_31 : decode cX4_isAlone 31 = .ok (.ifCond .ne 7, 3) := by decide +kernel
theorem dX4_isAlone_34 : decode cX4_isAlone 34 = .ok (.iconst 1, 1) := by decide +kernel
theorem dX4_isAlone_35 : decode cX4_isAlone 35 = .ok (.goto 4, 3) := by decide +kernel
theorem dX4_isAlone_38 : decode cX4_isAlone 38 = .ok (.iconst 0, 1) := by decide +kernel
theorem dX4_isAlone_39 : decode cX4_isAlone 39 = .ok (.istore_n 3, 1) := by decide +kernel
theorem dX4_isAlone_40 : decode cX4_isAlone 40 = .ok (.iload_n 1, 1) := by decide +kernel
theorem dX4_isAlone_41 : decode cX4_isAlone 41 = .ok (.iconst 1, 1) := by decide +kernel
theorem dX4_isAlone_42 : decode cX4_isAlone 42 = .ok (.iadd, 1) := by decide +kernel
theorem dX4_isAlone_43 : decode cX4_isAlone 43 = .ok (.iload_n 2, 1) := by decide +kernel
theorem dX4_isAlone_44 : decode cX4_isAlone 44 = .ok (.if_icmp .ge 37, 3) := by decide +kernel
theorem dX4_isAlone_47 : decode cX4_isAlone 47 = .ok (.aload_n 0, 1) := by decide +kernel
theorem dX4_isAlone_48 : decode cX4_isAlone 48 = .ok (.getfield 20, 3) := by decide +kernel
theorem dX4_isAlone_51 : decode cX4_isAlone 51 = .ok (.iload_n 1, 1) := by decide +kernel
theorem dX4_isAlone_52 : decode cX4_isAlone 52 = .ok (.iconst 1, 1) := by decide +kernel
theorem dX4_isAlone_53 : decode cX4_isAlone 53 = .ok (.iadd, 1) := by decide +kernel
theorem dX4_isAlone_54 : decode cX4_isAlone 54 = .ok (.iaload, 1) := by decide +kernel
theorem dX4_isAlone_55 : decode cX4_isAlone 55 = .ok (.iconst (-1), 1) := by decide +kernel
theorem dX4_isAlone_56 : decode cX4_isAlone 56 = .ok (.if_icmp .ne 25, 3) := by decide +kernel
theorem dX4_isAlone_59 : decode cX4_isAlone 59 = .ok (.aload_n 0, 1) := by decide +kernel
theorem dX4_isAlone_60 : decode cX4_isAlone 60 = .ok (.getfield 23, 3) := by decide +kernel
theorem dX4_isAlone_63 : decode cX4_isAlone 63 = .ok (.iload_n 1, 1) := by decide +kernel
theorem dX4_isAlone_64 : decode cX4_isAlone 64 = .ok (.iconst 1, 1) := by decide +kernel
theorem dX4_isAlone_65 : decode cX4_isAlone 65 = .ok (.iadd, 1) := by decide +kernel
theorem dX4_isAlone_66 : decode cX4_isAlone 66 = .ok (.laload, 1) := by decide +kernel
theorem dX4_isAlone_67 : decode cX4_isAlone 67 = .ok (.aload_n 0, 1) := by decide +kernel
theorem dX4_isAlone_68 : decode cX4_isAlone 68 = .ok (.getfield 23, 3) := by decide +kernel
theorem dX4_isAlone_71 : decode cX4_isAlone 71 = .ok (.iload_n 1, 1) := by decide +kernel
theorem dX4_isAlone_72 : decode cX4_isAlone 72 = .ok (.laload, 1) := by decide +kernel
theorem dX4_isAlone_73 : decode cX4_isAlone 73 = .ok (.lcmp, 1) := by decide +kernel
theorem dX4_isAlone_74 : decode cX4_isAlone 74 = .ok (.ifCond .ne 7, 3) := by decide +kernel
theorem dX4_isAlone_77 : decode cX4_isAlone 77 = .ok (.iconst 1, 1) := by decide +kernel
theorem dX4_isAlone_78 : decode cX4_isAlone 78 = .ok (.goto 4, 3) := by decide +kernel
theorem dX4_isAlone_81 : decode cX4_isAlone 81 = .ok (.iconst 0, 1) := by decide +kernel
theorem dX4_isAlone_82 : decode cX4_isAlone 82 = .ok (.istore 4, 2) := by decide +kernel
theorem dX4_isAlone_84 : decode cX4_isAlone 84 = .ok (.iload_n 3, 1) := by decide +kernel
theorem dX4_isAlone_85 : decode cX4_isAlone 85 = .ok (.ifCond .ne 12, 3) := by decide +kernel
theorem dX4_isAlone_88 : decode cX4_isAlone 88 = .ok (.iload 4, 2) := by decide +kernel
theorem dX4_isAlone_90 : decode cX4_isAlone 90 = .ok (.ifCond .ne 7, 3) := by decide +kernel
theorem dX4_isAlone_93 : decode cX4_isAlone 93 = .ok (.iconst 1, 1) := by decide +kernel
theorem dX4_isAlone_94 : decode cX4_isAlone 94 = .ok (.goto 4, 3) := by decide +kernel
theorem dX4_isAlone_97 : decode cX4_isAlone 97 = .ok (.iconst 0, 1) := by decide +kernel
theorem dX4_isAlone_98 : decode cX4_isAlone 98 = .ok (.ireturn, 1) := by decide +kernel
theorem dX4_markEnds_0 : decode cX4_markEnds 0 = .ok (.iconst 0, 1) := by decide +kernel
theorem dX4_markEnds_1 : decode cX4_markEnds 1 = .ok (.istore_n 2, 1) := by decide +kernel
theorem dX4_markEnds_2 : decode cX4_markEnds 2 = .ok (.iload_n 2, 1) := by decide +kernel
theorem dX4_markEnds_3 : decode cX4_markEnds 3 = .ok (.iload_n 1, 1) := by decide +kernel
theorem dX4_markEnds_4 : decode cX4_markEnds 4 = .ok (.if_icmp .ge 45, 3) := by decide +kernel
theorem dX4_markEnds_7 : decode cX4_markEnds 7 = .ok (.aload_n 0, 1) := by decide +kernel
theorem dX4_markEnds_8 : decode cX4_markEnds 8 = .ok (.getfield 27, 3) := by decide +kernel
theorem dX4_markEnds_11 : decode cX4_markEnds 11 = .ok (.iload_n 2, 1) := by decide +kernel
theorem dX4_markEnds_12 : decode cX4_markEnds 12 = .ok (.aload_n 0, 1) := by decide +kernel
theorem dX4_markEnds_13 : decode cX4_markEnds 13 = .ok (.aload_n 0, 1) := by decide +kernel
theorem dX4_markEnds_14 : decode cX4_markEnds 14 = .ok (.getfield 9, 3) := by decide +kernel
theorem dX4_markEnds_17 : decode cX4_markEnds 17 = .ok (.aload_n 0, 1) := by decide +kernel
theorem dX4_markEnds_18 : decode cX4_markEnds 18 = .ok (.getfield 23, 3) := by decide +kernel
theorem dX4_markEnds_21 : decode cX4_markEnds 21 = .ok (.iload_n 2, 1) := by decide +kernel
theorem dX4_markEnds_22 : decode cX4_markEnds 22 = .ok (.laload, 1) := by decide +kernel
theorem dX4_markEnds_23 : decode cX4_markEnds 23 = .ok (.lconst 1, 1) := by decide +kernel
theorem dX4_markEnds_24 : decode cX4_markEnds 24 = .ok (.ladd, 1) := by decide +kernel
theorem dX4_markEnds_25 : decode cX4_markEnds 25 = .ok (.aload_n 0, 1) := by decide +kernel
theorem dX4_markEnds_26 : decode cX4_markEnds 26 = .ok (.getfield 20, 3) := by decide +kernel
theorem dX4_markEnds_29 : decode cX4_markEnds 29 = .ok (.iload_n 2, 1) := by decide +kernel
theorem dX4_markEnds_30 : decode cX4_markEnds 30 = .ok (.iaload, 1) := by decide +kernel
theorem dX4_markEnds_31 : decode cX4_markEnds 31 = .ok (.invokevirtual 90, 3) := by decide +kernel
theorem dX4_markEnds_34 : decode cX4_markEnds 34 = .ok (.ifCond .ne 7, 3) := by decide +kernel
theorem dX4_markEnds_37 : decode cX4_markEnds 37 = .ok (.iconst 1, 1) := by decide +kernel
theorem dX4_markEnds_38 : decode cX4_markEnds 38 = .ok (.goto 4, 3) := by decide +kernel
theorem dX4_markEnds_41 : decode cX4_markEnds 41 = .ok (.iconst 0, 1) := by decide +kernel
theorem dX4_markEnds_42 : decode cX4_markEnds 42 = .ok (.iastore, 1) := by decide +kernel
theorem dX4_markEnds_43 : decode cX4_markEnds 43 = .ok (.iinc 2 1, 3) := by decide +kernel
theorem dX4_markEnds_46 : decode cX4_markEnds 46 = .ok (.goto (-44), 3) := by decide +kernel
theorem dX4_markEnds_49 : decode cX4_markEnds 49 = .ok (.return_, 1) := by decide +kernel
theorem dX4_countRepeats_0 : decode cX4_countRepeats 0 = .ok (.iconst 0, 1) := by decide +kernel
theorem dX4_countRepeats_1 : decode cX4_countRepeats 1 = .ok (.istore_n 2, 1) := by decide +kernel
theorem dX4_countRepeats_2 : decode cX4_countRepeats 2 = .ok (.iload_n 2, 1) := by decide +kernel
theorem dX4_countRepeats_3 : decode cX4_countRepeats 3 = .ok (.iload_n 1, 1) := by decide +kernel
theorem dX4_countRepeats_4 : decode cX4_countRepeats 4 = .ok (.if_icmp .ge 16, 3) := by decide +kernel
theorem dX4_countRepeats_7 : decode cX4_countRepeats 7 = .ok (.aload_n 0, 1) := by decide +kernel
theorem dX4_countRepeats_8 : decode cX4_countRepeats 8 = .ok (.getfield 30, 3) := by decide +kernel
theorem dX4_countRepeats_11 : decode cX4_countRepeats 11 = .ok (.iload_n 2, 1) := by decide +kernel
theorem dX4_countRepeats_12 : decode cX4_countRepeats 12 = .ok (.iconst 1, 1) := by decide +kernel
theorem dX4_countRepeats_13 : decode cX4_countRepeats 13 = .ok (.iastore, 1) := by decide +kernel
theorem dX4_countRepeats_14 : decode cX4_countRepeats 14 = .ok (.iinc 2 1, 3) := by decide +kernel
theorem dX4_countRepeats_17 : decode cX4_countRepeats 17 = .ok (.goto (-15), 3) := by decide +kernel
theorem dX4_countRepeats_20 : decode cX4_countRepeats 20 = .ok (.iconst 0, 1) := by decide +kernel
theorem dX4_countRepeats_21 : decode cX4_countRepeats 21 = .ok (.istore_n 2, 1) := by decide +kernel
theorem dX4_countRepeats_22 : decode cX4_countRepeats 22 = .ok (.iload_n 2, 1) := by decide +kernel
theorem dX4_countRepeats_23 : decode cX4_countRepeats 23 = .ok (.bipush 8, 2) := by decide +kernel
theorem dX4_countRepeats_25 : decode cX4_countRepeats 25 = .ok (.if_icmp .ge 91, 3) := by decide +kernel
theorem dX4_countRepeats_28 : decode cX4_countRepeats 28 = .ok (.aload_n 0, 1) := by decide +kernel
theorem dX4_countRepeats_29 : decode cX4_countRepeats 29 = .ok (.getfield 36, 3) := by decide +kernel
theorem dX4_countRepeats_32 : decode cX4_countRepeats 32 = .ok (.invokevirtual 144, 3) := by decide +kernel
theorem dX4_countRepeats_35 : decode cX4_countRepeats 35 = .ok (.ifCond .le 81, 3) := by decide +kernel
theorem dX4_countRepeats_38 : decode cX4_countRepeats 38 = .ok (.aload_n 0, 1) := by decide +kernel
theorem dX4_countRepeats_39 : decode cX4_countRepeats 39 = .ok (.iconst (-1), 1) := by decide +kernel
theorem dX4_countRepeats_40 : decode cX4_countRepeats 40 = .ok (.putfield 40, 3) := by decide +kernel
theorem dX4_countRepeats_43 : decode cX4_countRepeats 43 = .ok (.aload_n 0, 1) := by decide +kernel
theorem dX4_countRepeats_44 : decode cX4_countRepeats 44 = .ok (.getfield 36, 3) := by decide +kernel
theorem dX4_countRepeats_47 : decode cX4_countRepeats 47 = .ok (.invokevirtual 147, 3) := by decide +kernel
theorem dX4_countRepeats_50 : decode cX4_countRepeats 50 = .ok (.iconst 0, 1) := by decide +kernel
theorem dX4_countRepeats_51 : decode cX4_countRepeats 51 = .ok (.istore_n 3, 1) := by decide +kernel
theorem dX4_countRepeats_52 : decode cX4_countRepeats 52 = .ok (.iload_n 3, 1) := by decide +kernel
theorem dX4_countRepeats_53 : decode cX4_countRepeats 53 = .ok (.iload_n 1, 1) := by decide +kernel
theorem dX4_countRepeats_54 : decode cX4_countRepeats 54 = .ok (.if_icmp .ge 56, 3) := by decide +kernel
theorem dX4_countRepeats_57 : decode cX4_countRepeats 57 = .ok (.aload_n 0, 1) := by decide +kernel
theorem dX4_countRepeats_58 : decode cX4_countRepeats 58 = .ok (.aload_n 0, 1) := by decide +kernel
theorem dX4_countRepeats_59 : decode cX4_countRepeats 59 = .ok (.getfield 23, 3) := by decide +kernel
theorem dX4_countRepeats_62 : decode cX4_countRepeats 62 = .ok (.iload_n 3, 1) := by decide +kernel
theorem dX4_countRepeats_63 : decode cX4_countRepeats 63 = .ok (.laload, 1) := by decide +kernel
theorem dX4_countRepeats_64 : decode cX4_countRepeats 64 = .ok (.lconst 1, 1) := by decide +kernel
theorem dX4_countRepeats_65 : decode cX4_countRepeats 65 = .ok (.ladd, 1) := by decide +kernel
theorem dX4_countRepeats_66 : decode cX4_countRepeats 66 = .ok (.aload_n 0, 1) := by decide +kernel
theorem dX4_countRepeats_67 : decode cX4_countRepeats 67 = .ok (.getfield 20, 3) := by decide +kernel
theorem dX4_countRepeats_70 : decode cX4_countRepeats 70 = .ok (.iload_n 3, 1) := by decide +kernel
theorem dX4_countRepeats_71 : decode cX4_countRepeats 71 = .ok (.iaload, 1) := by decide +kernel
theorem dX4_countRepeats_72 : decode cX4_countRepeats 72 = .ok (.invokevirtual 101, 3) := by decide +kernel
theorem dX4_countRepeats_75 : decode cX4_countRepeats 75 = .ok (.aload_n 0, 1) := by decide +kernel
theorem dX4_countRepeats_76 : decode cX4_countRepeats 76 = .ok (.aload_n 0, 1) := by decide +kernel
theorem dX4_countRepeats_77 : decode cX4_countRepeats 77 = .ok (.getfield 23, 3) := by decide +kernel
theorem dX4_countRepeats_80 : decode cX4_countRepeats 80 = .ok (.iload_n 3, 1) := by decide +kernel
theorem dX4_countRepeats_81 : decode cX4_countRepeats 81 = .ok (.laload, 1) := by decide +kernel
theorem dX4_countRepeats_82 : decode cX4_countRepeats 82 = .ok (.aload_n 0, 1) := by decide +kernel
theorem dX4_countRepeats_83 : decode cX4_countRepeats 83 = .ok (.getfield 20, 3) := by decide +kernel
theorem dX4_countRepeats_86 : decode cX4_countRepeats 86 = .ok (.iload_n 3, 1) := by decide +kernel
theorem dX4_countRepeats_87 : decode cX4_countRepeats 87 = .ok (.iaload, 1) := by decide +kernel
theorem dX4_countRepeats_88 : decode cX4_countRepeats 88 = .ok (.invokevirtual 101, 3) := by decide +kernel
theorem dX4_countRepeats_91 : decode cX4_countRepeats 91 = .ok (.if_icmp .le 13, 3) := by decide +kernel
theorem dX4_countRepeats_94 : decode cX4_countRepeats 94 = .ok (.aload_n 0, 1) := by decide +kernel
theorem dX4_countRepeats_95 : decode cX4_countRepeats 95 = .ok (.getfield 30, 3) := by decide +kernel
theorem dX4_countRepeats_98 : decode cX4_countRepeats 98 = .ok (.iload_n 3, 1) := by decide +kernel
theorem dX4_countRepeats_99 : decode cX4_countRepeats 99 = .ok (.dup2, 1) := by decide +kernel
theorem dX4_countRepeats_100 : decode cX4_countRepeats 100 = .ok (.iaload, 1) := by decide +kernel
theorem dX4_countRepeats_101 : decode cX4_countRepeats 101 = .ok (.iconst 1, 1) := by decide +kernel
theorem dX4_countRepeats_102 : decode cX4_countRepeats 102 = .ok (.iadd, 1) := by decide +kernel
theorem dX4_countRepeats_103 : decode cX4_countRepeats 103 = .ok (.iastore, 1) := by decide +kernel
theorem dX4_countRepeats_104 : decode cX4_countRepeats 104 = .ok (.iinc 3 1, 3) := by decide +kernel
theorem dX4_countRepeats_107 : decode cX4_countRepeats 107 = .ok (.goto (-55), 3) := by decide +kernel
theorem dX4_countRepeats_110 : decode cX4_countRepeats 110 = .ok (.iinc 2 1, 3) := by decide +kernel
theorem dX4_countRepeats_113 : decode cX4_countRepeats 113 = .ok (.goto (-91), 3) := by decide +kernel
theorem dX4_countRepeats_116 : decode cX4_countRepeats 116 = .ok (.return_, 1) := by decide +kernel
