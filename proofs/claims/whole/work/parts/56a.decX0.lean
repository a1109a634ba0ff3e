theorem dX0_init_0 : decode cX0_init 0 = .ok (.aload_n 0, 1) := by decide +kernel
theorem dX0_init_1 : decode cX0_init 1 = .ok (.invokespecial 3, 3) := by decide +kernel
theorem dX0_init_4 : decode cX0_init 4 = .ok (.aload_n 0, 1) := by decide +kernel
theorem dX0_init_5 : decode cX0_init 5 = .ok (.bipush 10, 2) := by decide +kernel
theorem dX0_init_7 : decode cX0_init 7 = .ok (.anewarray 11, 3) := by decide +kernel
theorem dX0_init_10 : decode cX0_init 10 = .ok (.putfield 13, 3) := by decide +kernel
theorem dX0_init_13 : decode cX0_init 13 = .ok (.aload_n 0, 1) := by decide +kernel
theorem dX0_init_14 : decode cX0_init 14 = .ok (.iconst 0, 1) := by decide +kernel
theorem dX0_init_15 : decode cX0_init 15 = .ok (.putfield 17, 3) := by decide +kernel
theorem dX0_init_18 : decode cX0_init 18 = .ok (.aload_n 0, 1) := by decide +kernel
theorem dX0_init_19 : decode cX0_init 19 = .ok (.new 11, 3) := by decide +kernel
theorem dX0_init_22 : decode cX0_init 22 = .ok (.dup, 1) := by decide +kernel
theorem dX0_init_23 : decode cX0_init 23 = .ok (.bipush 16, 2) := by decide +kernel
theorem dX0_init_25 : decode cX0_init 25 = .ok (.invokespecial 21, 3) := by decide +kernel
theorem dX0_init_28 : decode cX0_init 28 = .ok (.putfield 24, 3) := by decide +kernel
theorem dX0_init_31 : decode cX0_init 31 = .ok (.aload_n 0, 1) := by decide +kernel
theorem dX0_init_32 : decode cX0_init 32 = .ok (.new 28, 3) := by decide +kernel
theorem dX0_init_35 : decode cX0_init 35 = .ok (.dup, 1) := by decide +kernel
theorem dX0_init_36 : decode cX0_init 36 = .ok (.invokespecial 30, 3) := by decide +kernel
theorem dX0_init_39 : decode cX0_init 39 = .ok (.putfield 31, 3) := by decide +kernel
theorem dX0_init_42 : decode cX0_init 42 = .ok (.aload_n 0, 1) := by decide +kernel
theorem dX0_init_43 : decode cX0_init 43 = .ok (.new 28, 3) := by decide +kernel
theorem dX0_init_46 : decode cX0_init 46 = .ok (.dup, 1) := by decide +kernel
theorem dX0_init_47 : decode cX0_init 47 = .ok (.invokespecial 30, 3) := by decide +kernel
theorem dX0_init_50 : decode cX0_init 50 = .ok (.putfield 35, 3) := by decide +kernel
theorem dX0_init_53 : decode cX0_init 53 = .ok (.aload_n 0, 1) := by decide +kernel
theorem dX0_init_54 : decode cX0_init 54 = .ok (.new 28, 3) := by decide +kernel
theorem dX0_init_57 : decode cX0_init 57 = .ok (.dup, 1) := by decide +kernel
theorem dX0_init_58 : decode cX0_init 58 = .ok (.invokespecial 30, 3) := by decide +kernel
theorem dX0_init_61 : decode cX0_init 61 = .ok (.putfield 38, 3) := by decide +kernel
theorem dX0_init_64 : decode cX0_init 64 = .ok (.aload_n 0, 1) := by decide +kernel
theorem dX0_init_65 : decode cX0_init 65 = .ok (.new 28, 3) := by decide +kernel
theorem dX0_init_68 : decode cX0_init 68 = .ok (.dup, 1) := by decide +kernel
theorem dX0_init_69 : decode cX0_init 69 = .ok (.invokespecial 30, 3) := by decide +kernel
theorem dX0_init_72 : decode cX0_init 72 = .ok (.putfield 41, 3) := by decide +kernel
theorem dX0_init_75 : decode cX0_init 75 = .ok (.aload_n 0, 1) := by decide +kernel
theorem dX0_init_76 : decode cX0_init 76 = .ok (.new 28, 3) := by decide +kernel
theorem dX0_init_79 : decode cX0_init 79 = .ok (.dup, 1) := by decide +kernel
theorem dX0_init_80 : decode cX0_init 80 = .ok (.invokespecial 30, 3) := by decide +kernel
theorem dX0_init_83 : decode cX0_init 83 = .ok (.putfield 44, 3) := by decide +kernel
theorem dX0_init_86 : decode cX0_init 86 = .ok (.aload_n 0, 1) := by decide +kernel
theorem dX0_init_87 : decode cX0_init 87 = .ok (.new 28, 3) := by decide +kernel
theorem dX0_init_90 : decode cX0_init 90 = .ok (.dup, 1) := by decide +kernel
theorem dX0_init_91 : decode cX0_init 91 = .ok (.invokespecial 30, 3) := by decide +kernel
theorem dX0_init_94 : decode cX0_init 94 = .ok (.putfield 47, 3) := by decide +kernel
theorem dX0_init_97 : decode cX0_init 97 = .ok (.aload_n 0, 1) := by decide +kernel
theorem dX0_init_98 : decode cX0_init 98 = .ok (.new 28, 3) := by decide +kernel
theorem dX0_init_101 : decode cX0_init 101 = .ok (.dup, 1) := by decide +kernel
theorem dX0_init_102 : decode cX0_init 102 = .ok (.invokespecial 30, 3) := by decide +kernel
theorem dX0_init_105 : decode cX0_init 105 = .ok (.putfield 50, 3) := by decide +kernel
theorem dX0_init_108 : decode cX0_init 108 = .ok (.iconst 0, 1) := by decide +kernel
theorem dX0_init_109 : decode cX0_init 109 = .ok (.istore_n 1, 1) := by decide +kernel
theorem dX0_init_110 : decode cX0_init 110 = .ok (.iload_n 1, 1) := by decide +kernel
theorem dX0_init_111 : decode cX0_init 111 = .ok (.bipush 10, 2) := by decide +kernel
theorem dX0_init_113 : decode cX0_init 113 = .ok (.if_icmp .ge 35, 3) := by decide +kernel
theorem dX0_init_116 : decode cX0_init 116 = .ok (.aload_n 0, 1) := by decide +kernel
theorem dX0_init_117 : decode cX0_init 117 = .ok (.getfield 13, 3) := by decide +kernel
theorem dX0_init_120 : decode cX0_init 120 = .ok (.iload_n 1, 1) := by decide +kernel
theorem dX0_init_121 : decode cX0_init 121 = .ok (.new 11, 3) := by decide +kernel
theorem dX0_init_124 : decode cX0_init 124 = .ok (.dup, 1) := by decide +kernel
theorem dX0_init_125 : decode cX0_init 125 = .ok (.iload_n 1, 1) := by decide +kernel
theorem dX0_init_126 : decode cX0_init 126 = .ok (.ifCond .ne 8, 3) := by decide +kernel
theorem dX0_init_129 : decode cX0_init 129 = .ok (.bipush 16, 2) := by decide +kernel
theorem dX0_init_131 : decode cX0_init 131 = .ok (.goto 7, 3) := by decide +kernel
theorem dX0_init_134 : decode cX0_init 134 = .ok (.bipush 10, 2) := by decide +kernel
theorem dX0_init_136 : decode cX0_init 136 = .ok (.iload_n 1, 1) := by decide +kernel
theorem dX0_init_137 : decode cX0_init 137 = .ok (.isub, 1) := by decide +kernel
theorem dX0_init_138 : decode cX0_init 138 = .ok (.invokespecial 21, 3) := by decide +kernel
theorem dX0_init_141 : decode cX0_init 141 = .ok (.aastore, 1) := by decide +kernel
theorem dX0_init_142 : decode cX0_init 142 = .ok (.iinc 1 1, 3) := by decide +kernel
theorem dX0_init_145 : decode cX0_init 145 = .ok (.goto (-35), 3) := by decide +kernel
theorem dX0_init_148 : decode cX0_init 148 = .ok (.return_, 1) := by decide +kernel
theorem dX0_first_0 : decode cX0_first 0 = .ok (.aload_n 0, 1) := by decide +kernel
theorem dX0_first_1 : decode cX0_first 1 = .ok (.getfield 13, 3) := by decide +kernel
theorem dX0_first_4 : decode cX0_first 4 = .ok (.iconst 0, 1) := by decide +kernel
theorem dX0_first_5 : decode cX0_first 5 = .ok (.aaload, 1) := by decide +kernel
theorem dX0_first_6 : decode cX0_first 6 = .ok (.areturn, 1) := by decide +kernel
theorem dX0_last_0 : decode cX0_last 0 = .ok (.aload_n 0, 1) := by decide +kernel
theorem dX0_last_1 : decode cX0_last 1 = .ok (.getfield 13, 3) := by decide +kernel
theorem dX0_last_4 : decode cX0_last 4 = .ok (.aload_n 0, 1) := by decide +kernel
theorem dX0_last_5 : decode cX0_last 5 = .ok (.getfield 17, 3) := by decide +kernel
theorem dX0_last_8 : decode cX0_last 8 = .ok (.ifCond .le 12, 3) := by decide +kernel
theorem dX0_last_11 : decode cX0_last 11 = .ok (.aload_n 0, 1) := by decide +kernel
theorem dX0_last_12 : decode cX0_last 12 = .ok (.getfield 17, 3) := by decide +kernel
theorem dX0_last_15 : decode cX0_last 15 = .ok (.iconst 1, 1) := by decide +kernel
theorem dX0_last_16 : decode cX0_last 16 = .ok (.isub, 1) := by decide +kernel
theorem dX0_last_17 : decode cX0_last 17 = .ok (.goto 4, 3) := by decide +kernel
theorem dX0_last_20 : decode cX0_last 20 = .ok (.iconst 0, 1) := by decide +kernel
theorem dX0_last_21 : decode cX0_last 21 = .ok (.aaload, 1) := by decide +kernel
theorem dX0_last_22 : decode cX0_last 22 = .ok (.areturn, 1) := by decide +kernel
theorem dX0_lastTop_0 : decode cX0_lastTop 0 = .ok (.aload_n 0, 1) := by decide +kernel
theorem dX0_lastTop_1 : decode cX0_lastTop 1 = .ok (.invokevirtual 53, 3) := by decide +kernel
theorem dX0_lastTop_4 : decode cX0_lastTop 4 = .ok (.getfield 57, 3) := by decide +kernel
theorem dX0_lastTop_7 : decode cX0_lastTop 7 = .ok (.ireturn, 1) := by decide +kernel
theorem dX0_startRoots_0 : decode cX0_startRoots 0 = .ok (.aload_n 0, 1) := by decide +kernel
theorem dX0_startRoots_1 : decode cX0_startRoots 1 = .ok (.getfield 13, 3) := by decide +kernel
theorem dX0_startRoots_4 : decode cX0_startRoots 4 = .ok (.iconst 0, 1) := by decide +kernel
theorem dX0_startRoots_5 : decode cX0_startRoots 5 = .ok (.aaload, 1) := by decide +kernel
theorem dX0_startRoots_6 : decode cX0_startRoots 6 = .ok (.aload_n 1, 1) := by decide +kernel
theorem dX0_startRoots_7 : decode cX0_startRoots 7 = .ok (.invokevirtual 60, 3) := by decide +kernel
theorem dX0_startRoots_10 : decode cX0_startRoots 10 = .ok (.aload_n 0, 1) := by decide +kernel
theorem dX0_startRoots_11 : decode cX0_startRoots 11 = .ok (.getfield 13, 3) := by decide +kernel
theorem dX0_startRoots_14 : decode cX0_startRoots 14 = .ok (.iconst 1, 1) := by decide +kernel
theorem dX0_startRoots_15 : decode cX0_startRoots 15 = .ok (.aaload, 1) := by decide +kernel
theorem dX0_startRoots_16 : decode cX0_startRoots 16 = .ok (.aload_n 0, 1) := by decide +kernel
theorem dX0_startRoots_17 : decode cX0_startRoots 17 = .ok (.getfield 13, 3) := by decide +kernel
theorem dX0_startRoots_20 : decode cX0_startRoots 20 = .ok (.iconst 0, 1) := by decide +kernel
theorem dX0_startRoots_21 : decode cX0_startRoots 21 = .ok (.aaload, 1) := by decide +kernel
theorem dX0_startRoots_22 : decode cX0_startRoots 22 = .ok (.aload_n 0, 1) := by decide +kernel
theorem dX0_startRoots_23 : decode cX0_startRoots 23 = .ok (.getfield 50, 3) := by decide +kernel
theorem dX0_startRoots_26 : decode cX0_startRoots 26 = .ok (.invokevirtual 64, 3) := by decide +kernel
theorem dX0_startRoots_29 : decode cX0_startRoots 29 = .ok (.aload_n 0, 1) := by decide +kernel
theorem dX0_startRoots_30 : decode cX0_startRoots 30 = .ok (.invokevirtual 68, 3) := by decide +kernel
theorem dX0_startRoots_33 : decode cX0_startRoots 33 = .ok (.return_, 1) := by decide +kernel
theorem dX0_startPair_0 : decode cX0_startPair 0 = .ok (.aload_n 1, 1) := by decide +kernel
theorem dX0_startPair_1 : decode cX0_startPair 1 = .ok (.invokestatic 71, 3) := by decide +kernel
theorem dX0_startPair_4 : decode cX0_startPair 4 = .ok (.aload_n 2, 1) := by decide +kernel
theorem dX0_startPair_5 : decode cX0_startPair 5 = .ok (.invokestatic 71, 3) := by decide +kernel
theorem dX0_startPair_8 : decode cX0_startPair 8 = .ok (.if_icmp .lt 7, 3) := by decide +kernel
theorem dX0_startPair_11 : decode cX0_startPair 11 = .ok (.iconst 1, 1) := by decide +kernel
theorem dX0_startPair_12 : decode cX0_startPair 12 = .ok (.goto 4, 3) := by decide +kernel
theorem dX0_startPair_15 : decode cX0_startPair 15 = .ok (.iconst 0, 1) := by decide +kernel
theorem dX0_startPair_16 : decode cX0_startPair 16 = .ok (.istore_n 3, 1) := by decide +kernel
theorem dX0_startPair_17 : decode cX0_startPair 17 = .ok (.aload_n 0, 1) := by decide +kernel
theorem dX0_startPair_18 : decode cX0_startPair 18 = .ok (.getfield 13, 3) := by decide +kernel
theorem dX0_startPair_21 : decode cX0_startPair 21 = .ok (.iconst 0, 1) := by decide +kernel
theorem dX0_startPair_22 : decode cX0_startPair 22 = .ok (.aaload, 1) := by decide +kernel
theorem dX0_startPair_23 : decode cX0_startPair 23 = .ok (.iload_n 3, 1) := by decide +kernel
theorem dX0_startPair_24 : decode cX0_startPair 24 = .ok (.ifCond .eq 7, 3) := by decide +kernel
theorem dX0_startPair_27 : decode cX0_startPair 27 = .ok (.aload_n 1, 1) := by decide +kernel
theorem dX0_startPair_28 : decode cX0_startPair 28 = .ok (.goto 4, 3) := by decide +kernel
theorem dX0_startPair_31 : decode cX0_startPair 31 = .ok (.aload_n 2, 1) := by decide +kernel
theorem dX0_startPair_32 : decode cX0_startPair 32 = .ok (.invokevirtual 60, 3) := by decide +kernel
theorem dX0_startPair_35 : decode cX0_startPair 35 = .ok (.aload_n 0, 1) := by decide +kernel
theorem dX0_startPair_36 : decode cX0_startPair 36 = .ok (.getfield 13, 3) := by decide +kernel
theorem dX0_startPair_39 : decode cX0_startPair 39 = .ok (.iconst 1, 1) := by decide +kernel
theorem dX0_startPair_40 : decode cX0_startPair 40 = .ok (.aaload, 1) := by decide +kernel
theorem dX0_startPair_41 : decode cX0_startPair 41 = .ok (.iload_n 3, 1) := by decide +kernel
theorem dX0_startPair_42 : decode cX0_startPair 42 = .ok (.ifCond .eq 7, 3) := by decide +kernel
theorem dX0_startPair_45 : decode cX0_startPair 45 = .ok (.aload_n 2, 1) := by decide +kernel
theorem dX0_startPair_46 : decode cX0_startPair 46 = .ok (.goto 4, 3) := by decide +kernel
theorem dX0_startPair_49 : decode cX0_startPair 49 = .ok (.aload_n 1, 1) := by decide +kernel
theorem dX0_startPair_50 : decode cX0_startPair 50 = .ok (.invokevirtual 60, 3) := by decide +kernel
theorem dX0_startPair_53 : decode cX0_startPair 53 = .ok (.aload_n 0, 1) := by decide +kernel
theorem dX0_startPair_54 : decode cX0_startPair 54 = .ok (.invokevirtual 68, 3) := by decide +kernel
theorem dX0_startPair_57 : decode cX0_startPair 57 = .ok (.return_, 1) := by decide +kernel
theorem dX0_startSigns_0 : decode cX0_startSigns 0 = .ok (.aload_n 0, 1) := by decide +kernel
theorem dX0_startSigns_1 : decode cX0_startSigns 1 = .ok (.getfield 13, 3) := by decide +kernel
theorem dX0_startSigns_4 : decode cX0_startSigns 4 = .ok (.iconst 0, 1) := by decide +kernel
theorem dX0_startSigns_5 : decode cX0_startSigns 5 = .ok (.aaload, 1) := by decide +kernel
theorem dX0_startSigns_6 : decode cX0_startSigns 6 = .ok (.invokevirtual 75, 3) := by decide +kernel
theorem dX0_startSigns_9 : decode cX0_startSigns 9 = .ok (.iconst 1, 1) := by decide +kernel
theorem dX0_startSigns_10 : decode cX0_startSigns 10 = .ok (.istore_n 3, 1) := by decide +kernel
theorem dX0_startSigns_11 : decode cX0_startSigns 11 = .ok (.iload_n 3, 1) := by decide +kernel
theorem dX0_startSigns_12 : decode cX0_startSigns 12 = .ok (.bipush 8, 2) := by decide +kernel
theorem dX0_startSigns_14 : decode cX0_startSigns 14 = .ok (.if_icmp .gt 70, 3) := by decide +kernel
theorem dX0_startSigns_17 : decode cX0_startSigns 17 = .ok (.iconst 0, 1) := by decide +kernel
theorem dX0_startSigns_18 : decode cX0_startSigns 18 = .ok (.istore 4, 2) := by decide +kernel
theorem dX0_startSigns_20 : decode cX0_startSigns 20 = .ok (.iload 4, 2) := by decide +kernel
theorem dX0_startSigns_22 : decode cX0_startSigns 22 = .ok (.bipush 8, 2) := by decide +kernel
theorem dX0_startSigns_24 : decode cX0_startSigns 24 = .ok (.if_icmp .gt 54, 3) := by decide +kernel
theorem dX0_startSigns_27 : decode cX0_startSigns 27 = .ok (.aload_n 0, 1) := by decide +kernel
theorem dX0_startSigns_28 : decode cX0_startSigns 28 = .ok (.getfield 50, 3) := by decide +kernel
theorem dX0_startSigns_31 : decode cX0_startSigns 31 = .ok (.iload_n 3, 1) := by decide +kernel
theorem dX0_startSigns_32 : decode cX0_startSigns 32 = .ok (.i2l, 1) := by decide +kernel
theorem dX0_startSigns_33 : decode cX0_startSigns 33 = .ok (.aload_n 1, 1) := by decide +kernel
theorem dX0_startSigns_34 : decode cX0_startSigns 34 = .ok (.iload_n 3, 1) := by decide +kernel
theorem dX0_startSigns_35 : decode cX0_startSigns 35 = .ok (.iaload, 1) := by decide +kernel
theorem dX0_startSigns_36 : decode cX0_startSigns 36 = .ok (.i2l, 1) := by decide +kernel
theorem dX0_startSigns_37 : decode cX0_startSigns 37 = .ok (.lmul, 1) := by decide +kernel
theorem dX0_startSigns_38 : decode cX0_startSigns 38 = .ok (.aload_n 2, 1) := by decide +kernel
theorem dX0_startSigns_39 : decode cX0_startSigns 39 = .ok (.iload 4, 2) := by decide +kernel
theorem dX0_startSigns_41 : decode cX0_startSigns 41 = .ok (.iaload, 1) := by decide +kernel
theorem dX0_startSigns_42 : decode cX0_startSigns 42 = .ok (.i2l, 1) := by decide +kernel
theorem dX0_startSigns_43 : decode cX0_startSigns 43 = .ok (.lmul, 1) := by decide +kernel
theorem dX0_startSigns_44 : decode cX0_startSigns 44 = .ok (.lneg, 1) := by decide +kernel
theorem dX0_startSigns_45 : decode cX0_startSigns 45 = .ok (.invokevirtual 78, 3) := by decide +kernel
theorem dX0_startSigns_48 : decode cX0_startSigns 48 = .ok (.aload_n 0, 1) := by decide +kernel
theorem dX0_startSigns_49 : decode cX0_startSigns 49 = .ok (.getfield 13, 3) := by decide +kernel
theorem dX0_startSigns_52 : decode cX0_startSigns 52 = .ok (.iconst 0, 1) := by decide +kernel
theorem dX0_startSigns_53 : decode cX0_startSigns 53 = .ok (.aaload, 1) := by decide +kernel
theorem dX0_startSigns_54 : decode cX0_startSigns 54 = .ok (.getfield 82, 3) := by decide +kernel
theorem dX0_startSigns_57 : decode cX0_startSigns 57 = .ok (.iload_n 3, 1) := by decide +kernel
theorem dX0_startSigns_58 : decode cX0_startSigns 58 = .ok (.iconst 1, 1) := by decide +kernel
theorem dX0_startSigns_59 : decode cX0_startSigns 59 = .ok (.isub, 1) := by decide +kernel
theorem dX0_startSigns_60 : decode cX0_startSigns 60 = .ok (.iload 4, 2) := by decide +kernel
theorem dX0_startSigns_62 : decode cX0_startSigns 62 = .ok (.iadd, 1) := by decide +kernel
theorem dX0_startSigns_63 : decode cX0_startSigns 63 = .ok (.aaload, 1) := by decide +kernel
theorem dX0_startSigns_64 : decode cX0_startSigns 64 = .ok (.aload_n 0, 1) := by decide +kernel
theorem dX0_startSigns_65 : decode cX0_startSigns 65 = .ok (.getfield 50, 3) := by decide +kernel
theorem dX0_startSigns_68 : decode cX0_startSigns 68 = .ok (.iconst 1, 1) := by decide +kernel
theorem dX0_startSigns_69 : decode cX0_startSigns 69 = .ok (.invokevirtual 86, 3) := by decide +kernel
theorem dX0_startSigns_72 : decode cX0_startSigns 72 = .ok (.iinc 4 1, 3) := by decide +kernel
theorem dX0_startSigns_75 : decode cX0_startSigns 75 = .ok (.goto (-55), 3) := by decide +kernel
theorem dX0_startSigns_78 : decode cX0_startSigns 78 = .ok (.iinc 3 1, 3) := by decide +kernel
theorem dX0_startSigns_81 : decode cX0_startSigns 81 = .ok (.goto (-70), 3) := by decide +kernel
theorem dX0_startSigns_84 : decode cX0_startSigns 84 = .ok (.aload_n 0, 1) := by decide +kernel
theorem dX0_startSigns_85 : decode cX0_startSigns 85 = .ok (.getfield 13, 3) := by decide +kernel
theorem dX0_startSigns_88 : decode cX0_startSigns 88 = .ok (.iconst 0, 1) := by decide +kernel
theorem dX0_startSigns_89 : decode cX0_startSigns 89 = .ok (.aaload, 1) := by decide +kernel
theorem dX0_startSigns_90 : decode cX0_startSigns 90 = .ok (.invokevirtual 90, 3) := by decide +kernel
theorem dX0_startSigns_93 : decode cX0_startSigns 93 = .ok (.aload_n 0, 1) := by decide +kernel
theorem dX0_startSigns_94 : decode cX0_startSigns 94 = .ok (.getfield 13, 3) := by decide +kernel
theorem dX0_startSigns_97 : decode cX0_startSigns 97 = .ok (.iconst 1, 1) := by decide +kernel
theorem dX0_startSigns_98 : decode cX0_startSigns 98 = .ok (.aaload, 1) := by decide +kernel
theorem dX0_startSigns_99 : decode cX0_startSigns 99 = .ok (.aload_n 1, 1) := by decide +kernel
theorem dX0_startSigns_100 : decode cX0_startSigns 100 = .ok (.invokevirtual 60, 3) := by decide +kernel
theorem dX0_startSigns_103 : decode cX0_startSigns 103 = .ok (.aload_n 0, 1) := by decide +kernel
theorem dX0_startSigns_104 : decode cX0_startSigns 104 = .ok (.invokevirtual 68, 3) := by decide +kernel
theorem dX0_startSigns_107 : decode cX0_startSigns 107 = .ok (.return_, 1) := by decide +kernel
theorem dX0_startLast_0 : decode cX0_startLast 0 = .ok (.aload_n 0, 1) := by decide +kernel
theorem dX0_startLast_1 : decode cX0_startLast 1 = .ok (.invokevirtual 53, 3) := by decide +kernel
theorem dX0_startLast_4 : decode cX0_startLast 4 = .ok (.astore_n 1, 1) := by decide +kernel
theorem dX0_startLast_5 : decode cX0_startLast 5 = .ok (.aload_n 1, 1) := by decide +kernel
theorem dX0_startLast_6 : decode cX0_startLast 6 = .ok (.getfield 57, 3) := by decide +kernel
theorem dX0_startLast_9 : decode cX0_startLast 9 = .ok (.ifCond .lt 15, 3) := by decide +kernel
theorem dX0_startLast_12 : decode cX0_startLast 12 = .ok (.aload_n 0, 1) := by decide +kernel
theorem dX0_startLast_13 : decode cX0_startLast 13 = .ok (.getfield 13, 3) := by decide +kernel
theorem dX0_startLast_16 : decode cX0_startLast 16 = .ok (.iconst 0, 1) := by decide +kernel
theorem dX0_startLast_17 : decode cX0_startLast 17 = .ok (.aaload, 1) := by decide +kernel
theorem dX0_startLast_18 : decode cX0_startLast 18 = .ok (.getfield 57, 3) := by decide +kernel
theorem dX0_startLast_21 : decode cX0_startLast 21 = .ok (.ifCond .ge 4, 3) := by decide +kernel
theorem dX0_startLast_24 : decode cX0_startLast 24 = .ok (.return_, 1) := by decide +kernel
theorem dX0_startLast_25 : decode cX0_startLast 25 = .ok (.aload_n 0, 1) := by decide +kernel
theorem dX0_startLast_26 : decode cX0_startLast 26 = .ok (.getfield 44, 3) := by decide +kernel
theorem dX0_startLast_29 : decode cX0_startLast 29 = .ok (.aload_n 0, 1) := by decide +kernel
theorem dX0_startLast_30 : decode cX0_startLast 30 = .ok (.getfield 13, 3) := by decide +kernel
theorem dX0_startLast_33 : decode cX0_startLast 33 = .ok (.iconst 0, 1) := by decide +kernel
theorem dX0_startLast_34 : decode cX0_startLast 34 = .ok (.aaload, 1) := by decide +kernel
theorem dX0_startLast_35 : decode cX0_startLast 35 = .ok (.getfield 82, 3) := by decide +kernel
theorem dX0_startLast_38 : decode cX0_startLast 38 = .ok (.aload_n 0, 1) := by decide +kernel
theorem dX0_startLast_39 : decode cX0_startLast 39 = .ok (.getfield 13, 3) := by decide +kernel
theorem dX0_startLast_42 : decode cX0_startLast 42 = .ok (.iconst 0, 1) := by decide +kernel
theorem dX0_startLast_43 : decode cX0_startLast 43 = .ok (.aaload, 1) := by decide +kernel
theorem dX0_startLast_44 : decode cX0_startLast 44 = .ok (.getfield 57, 3) := by decide +kernel
theorem dX0_startLast_47 : decode cX0_startLast 47 = .ok (.aaload, 1) := by decide +kernel
theorem dX0_startLast_48 : decode cX0_startLast 48 = .ok (.invokevirtual 93, 3) := by decide +kernel
theorem dX0_startLast_51 : decode cX0_startLast 51 = .ok (.aload_n 0, 1) := by decide +kernel
theorem dX0_startLast_52 : decode cX0_startLast 52 = .ok (.getfield 38, 3) := by decide +kernel
theorem dX0_startLast_55 : decode cX0_startLast 55 = .ok (.aload_n 1, 1) := by decide +kernel
theorem dX0_startLast_56 : decode cX0_startLast 56 = .ok (.getfield 82, 3) := by decide +kernel
theorem dX0_startLast_59 : decode cX0_startLast 59 = .ok (.aload_n 1, 1) := by decide +kernel
theorem dX0_startLast_60 : decode cX0_startLast 60 = .ok (.getfield 57, 3) := by decide +kernel
theorem dX0_startLast_63 : decode cX0_startLast 63 = .ok (.aaload, 1) := by decide +kernel
theorem dX0_startLast_64 : decode cX0_startLast 64 = .ok (.invokevirtual 93, 3) := by decide +kernel
theorem dX0_startLast_67 : decode cX0_startLast 67 = .ok (.aload_n 0, 1) := by decide +kernel
theorem dX0_startLast_68 : decode cX0_startLast 68 = .ok (.getfield 38, 3) := by decide +kernel
theorem dX0_startLast_71 : decode cX0_startLast 71 = .ok (.invokevirtual 97, 3) := by decide +kernel
theorem dX0_startLast_74 : decode cX0_startLast 74 = .ok (.istore_n 2, 1) := by decide +kernel
theorem dX0_startLast_75 : decode cX0_startLast 75 = .ok (.aload_n 0, 1) := by decide +kernel
theorem dX0_startLast_76 : decode cX0_startLast 76 = .ok (.getfield 24, 3) := by decide +kernel
theorem dX0_startLast_79 : decode cX0_startLast 79 = .ok (.aload_n 1, 1) := by decide +kernel
theorem dX0_startLast_80 : decode cX0_startLast 80 = .ok (.invokevirtual 101, 3) := by decide +kernel
theorem dX0_startLast_83 : decode cX0_startLast 83 = .ok (.iconst 0, 1) := by decide +kernel
theorem dX0_startLast_84 : decode cX0_startLast 84 = .ok (.istore_n 3, 1) := by decide +kernel
theorem dX0_startLast_85 : decode cX0_startLast 85 = .ok (.iload_n 3, 1) := by decide +kernel
theorem dX0_startLast_86 : decode cX0_startLast 86 = .ok (.aload_n 0, 1) := by decide +kernel
theorem dX0_startLast_87 : decode cX0_startLast 87 = .ok (.getfield 24, 3) := by decide +kernel
theorem dX0_startLast_90 : decode cX0_startLast 90 = .ok (.getfield 57, 3) := by decide +kernel
theorem dX0_startLast_93 : decode cX0_startLast 93 = .ok (.if_icmp .gt 54, 3) := by decide +kernel
theorem dX0_startLast_96 : decode cX0_startLast 96 = .ok (.aload_n 0, 1) := by decide +kernel
theorem dX0_startLast_97 : decode cX0_startLast 97 = .ok (.getfield 24, 3) := by decide +kernel
theorem dX0_startLast_100 : decode cX0_startLast 100 = .ok (.getfield 82, 3) := by decide +kernel
theorem dX0_startLast_103 : decode cX0_startLast 103 = .ok (.iload_n 3, 1) := by decide +kernel
theorem dX0_startLast_104 : decode cX0_startLast 104 = .ok (.aaload, 1) := by decide +kernel
theorem dX0_startLast_105 : decode cX0_startLast 105 = .ok (.aload_n 0, 1) := by decide +kernel
theorem dX0_startLast_106 : decode cX0_startLast 106 = .ok (.getfield 44, 3) := by decide +kernel
theorem dX0_startLast_109 : decode cX0_startLast 109 = .ok (.invokevirtual 104, 3) := by decide +kernel
theorem dX0_startLast_112 : decode cX0_startLast 112 = .ok (.aload_n 0, 1) := by decide +kernel
theorem dX0_startLast_113 : decode cX0_startLast 113 = .ok (.getfield 24, 3) := by decide +kernel
theorem dX0_startLast_116 : decode cX0_startLast 116 = .ok (.getfield 82, 3) := by decide +kernel
theorem dX0_startLast_119 : decode cX0_startLast 119 = .ok (.iload_n 3, 1) := by decide +kernel
theorem dX0_startLast_120 : decode cX0_startLast 120 = .ok (.aaload, 1) := by decide +kernel
theorem dX0_startLast_121 : decode cX0_startLast 121 = .ok (.iload_n 2, 1) := by decide +kernel
theorem dX0_startLast_122 : decode cX0_startLast 122 = .ok (.invokevirtual 107, 3) := by decide +kernel
theorem dX0_startLast_125 : decode cX0_startLast 125 = .ok (.aload_n 0, 1) := by decide +kernel
theorem dX0_startLast_126 : decode cX0_startLast 126 = .ok (.getfield 24, 3) := by decide +kernel
theorem dX0_startLast_129 : decode cX0_startLast 129 = .ok (.getfield 82, 3) := by decide +kernel
theorem dX0_startLast_132 : decode cX0_startLast 132 = .ok (.iload_n 3, 1) := by decide +kernel
theorem dX0_startLast_133 : decode cX0_startLast 133 = .ok (.aaload, 1) := by decide +kernel
theorem dX0_startLast_134 : decode cX0_startLast 134 = .ok (.aload_n 0, 1) := by decide +kernel
theorem dX0_startLast_135 : decode cX0_startLast 135 = .ok (.getfield 38, 3) := by decide +kernel
theorem dX0_startLast_138 : decode cX0_startLast 138 = .ok (.invokevirtual 110, 3) := by decide +kernel
theorem dX0_startLast_141 : decode cX0_startLast 141 = .ok (.iinc 3 1, 3) := by decide +kernel
theorem dX0_startLast_144 : decode cX0_startLast 144 = .ok (.goto (-59), 3) := by decide +kernel
theorem dX0_startLast_147 : decode cX0_startLast 147 = .ok (.aload_n 0, 1) := by decide +kernel
theorem dX0_startLast_148 : decode cX0_startLast 148 = .ok (.getfield 13, 3) := by decide +kernel
theorem dX0_startLast_151 : decode cX0_startLast 151 = .ok (.iconst 0, 1) := by decide +kernel
theorem dX0_startLast_152 : decode cX0_startLast 152 = .ok (.aaload, 1) := by decide +kernel
theorem dX0_startLast_153 : decode cX0_startLast 153 = .ok (.aload_n 0, 1) := by decide +kernel
theorem dX0_startLast_154 : decode cX0_startLast 154 = .ok (.getfield 24, 3) := by decide +kernel
theorem dX0_startLast_157 : decode cX0_startLast 157 = .ok (.invokevirtual 101, 3) := by decide +kernel
theorem dX0_startLast_160 : decode cX0_startLast 160 = .ok (.aload_n 0, 1) := by decide +kernel
theorem dX0_startLast_161 : decode cX0_startLast 161 = .ok (.getfield 13, 3) := by decide +kernel
theorem dX0_startLast_164 : decode cX0_startLast 164 = .ok (.iconst 1, 1) := by decide +kernel
theorem dX0_startLast_165 : decode cX0_startLast 165 = .ok (.aaload, 1) := by decide +kernel
theorem dX0_startLast_166 : decode cX0_startLast 166 = .ok (.aload_n 0, 1) := by decide +kernel
theorem dX0_startLast_167 : decode cX0_startLast 167 = .ok (.getfield 13, 3) := by decide +kernel
theorem dX0_startLast_170 : decode cX0_startLast 170 = .ok (.iconst 0, 1) := by decide +kernel
theorem dX0_startLast_171 : decode cX0_startLast 171 = .ok (.aaload, 1) := by decide +kernel
theorem dX0_startLast_172 : decode cX0_startLast 172 = .ok (.aload_n 0, 1) := by decide +kernel
theorem dX0_startLast_173 : decode cX0_startLast 173 = .ok (.getfield 50, 3) := by decide +kernel
theorem dX0_startLast_176 : decode cX0_startLast 176 = .ok (.invokevirtual 64, 3) := by decide +kernel
theorem dX0_startLast_179 : decode cX0_startLast 179 = .ok (.aload_n 0, 1) := by decide +kernel
theorem dX0_startLast_180 : decode cX0_startLast 180 = .ok (.invokevirtual 68, 3) := by decide +kernel
theorem dX0_startLast_183 : decode cX0_startLast 183 = .ok (.return_, 1) := by decide +kernel
theorem dX0_extend_0 : decode cX0_extend 0 = .ok (.aload_n 0, 1) := by decide +kernel
theorem dX0_extend_1 : decode cX0_extend 1 = .ok (.getfield 31, 3) := by decide +kernel
theorem dX0_extend_4 : decode cX0_extend 4 = .ok (.lconst 1, 1) := by decide +kernel
theorem dX0_extend_5 : decode cX0_extend 5 = .ok (.invokevirtual 78, 3) := by decide +kernel
theorem dX0_extend_8 : decode cX0_extend 8 = .ok (.aload_n 0, 1) := by decide +kernel
theorem dX0_extend_9 : decode cX0_extend 9 = .ok (.getfield 35, 3) := by decide +kernel
theorem dX0_extend_12 : decode cX0_extend 12 = .ok (.lconst 1, 1) := by decide +kernel
theorem dX0_extend_13 : decode cX0_extend 13 = .ok (.invokevirtual 78, 3) := by decide +kernel
theorem dX0_extend_16 : decode cX0_extend 16 = .ok (.aload_n 0, 1) := by decide +kernel
theorem dX0_extend_17 : decode cX0_extend 17 = .ok (.aload_n 0, 1) := by decide +kernel
theorem dX0_extend_18 : decode cX0_extend 18 = .ok (.getfield 13, 3) := by decide +kernel
theorem dX0_extend_21 : decode cX0_extend 21 = .ok (.iconst 1, 1) := by decide +kernel
theorem dX0_extend_22 : decode cX0_extend 22 = .ok (.aaload, 1) := by decide +kernel
theorem dX0_extend_23 : decode cX0_extend 23 = .ok (.getfield 57, 3) := by decide +kernel
theorem dX0_extend_26 : decode cX0_extend 26 = .ok (.ifCond .ge 7, 3) := by decide +kernel
theorem dX0_extend_29 : decode cX0_extend 29 = .ok (.iconst 1, 1) := by decide +kernel
theorem dX0_extend_30 : decode cX0_extend 30 = .ok (.goto 4, 3) := by decide +kernel
theorem dX0_extend_33 : decode cX0_extend 33 = .ok (.iconst 2, 1) := by decide +kernel
theorem dX0_extend_34 : decode cX0_extend 34 = .ok (.putfield 17, 3) := by decide +kernel
theorem dX0_extend_37 : decode cX0_extend 37 = .ok (.iconst 2, 1) := by decide +kernel
theorem dX0_extend_38 : decode cX0_extend 38 = .ok (.istore_n 1, 1) := by decide +kernel
theorem dX0_extend_39 : decode cX0_extend 39 = .ok (.iload_n 1, 1) := by decide +kernel
theorem dX0_extend_40 : decode cX0_extend 40 = .ok (.bipush 10, 2) := by decide +kernel
theorem dX0_extend_42 : decode cX0_extend 42 = .ok (.if_icmp .ge 130, 3) := by decide +kernel
theorem dX0_extend_45 : decode cX0_extend 45 = .ok (.aload_n 0, 1) := by decide +kernel
theorem dX0_extend_46 : decode cX0_extend 46 = .ok (.getfield 17, 3) := by decide +kernel
theorem dX0_extend_49 : decode cX0_extend 49 = .ok (.iload_n 1, 1) := by decide +kernel
theorem dX0_extend_50 : decode cX0_extend 50 = .ok (.if_icmp .ne 122, 3) := by decide +kernel
theorem dX0_extend_53 : decode cX0_extend 53 = .ok (.aload_n 0, 1) := by decide +kernel
theorem dX0_extend_54 : decode cX0_extend 54 = .ok (.getfield 13, 3) := by decide +kernel
theorem dX0_extend_57 : decode cX0_extend 57 = .ok (.iload_n 1, 1) := by decide +kernel
theorem dX0_extend_58 : decode cX0_extend 58 = .ok (.iconst 1, 1) := by decide +kernel
theorem dX0_extend_59 : decode cX0_extend 59 = .ok (.isub, 1) := by decide +kernel
theorem dX0_extend_60 : decode cX0_extend 60 = .ok (.aaload, 1) := by decide +kernel
theorem dX0_extend_61 : decode cX0_extend 61 = .ok (.getfield 57, 3) := by decide +kernel
theorem dX0_extend_64 : decode cX0_extend 64 = .ok (.ifCond .le 108, 3) := by decide +kernel
theorem dX0_extend_67 : decode cX0_extend 67 = .ok (.aload_n 0, 1) := by decide +kernel
theorem dX0_extend_68 : decode cX0_extend 68 = .ok (.getfield 13, 3) := by decide +kernel
theorem dX0_extend_71 : decode cX0_extend 71 = .ok (.iload_n 1, 1) := by decide +kernel
theorem dX0_extend_72 : decode cX0_extend 72 = .ok (.iconst 2, 1) := by decide +kernel
theorem dX0_extend_73 : decode cX0_extend 73 = .ok (.isub, 1) := by decide +kernel
theorem dX0_extend_74 : decode cX0_extend 74 = .ok (.aaload, 1) := by decide +kernel
theorem dX0_extend_75 : decode cX0_extend 75 = .ok (.getfield 57, 3) := by decide +kernel
theorem dX0_extend_78 : decode cX0_extend 78 = .ok (.aload_n 0, 1) := by decide +kernel
theorem dX0_extend_79 : decode cX0_extend 79 = .ok (.getfield 13, 3) := by decide +kernel
theorem dX0_extend_82 : decode cX0_extend 82 = .ok (.iload_n 1, 1) := by decide +kernel
theorem dX0_extend_83 : decode cX0_extend 83 = .ok (.iconst 1, 1) := by decide +kernel
theorem dX0_extend_84 : decode cX0_extend 84 = .ok (.isub, 1) := by decide +kernel
theorem dX0_extend_85 : decode cX0_extend 85 = .ok (.aaload, 1) := by decide +kernel
theorem dX0_extend_86 : decode cX0_extend 86 = .ok (.getfield 57, 3) := by decide +kernel
theorem dX0_extend_89 : decode cX0_extend 89 = .ok (.isub, 1) := by decide +kernel
theorem dX0_extend_90 : decode cX0_extend 90 = .ok (.istore_n 2, 1) := by decide +kernel
theorem dX0_extend_91 : decode cX0_extend 91 = .ok (.aload_n 0, 1) := by decide +kernel
theorem dX0_extend_92 : decode cX0_extend 92 = .ok (.getfield 24, 3) := by decide +kernel
theorem dX0_extend_95 : decode cX0_extend 95 = .ok (.aload_n 0, 1) := by decide +kernel
theorem dX0_extend_96 : decode cX0_extend 96 = .ok (.getfield 13, 3) := by decide +kernel
theorem dX0_extend_99 : decode cX0_extend 99 = .ok (.iload_n 1, 1) := by decide +kernel
theorem dX0_extend_100 : decode cX0_extend 100 = .ok (.iconst 2, 1) := by decide +kernel
theorem dX0_extend_101 : decode cX0_extend 101 = .ok (.isub, 1) := by decide +kernel
theorem dX0_extend_102 : decode cX0_extend 102 = .ok (.aaload, 1) := by decide +kernel
theorem dX0_extend_103 : decode cX0_extend 103 = .ok (.invokevirtual 101, 3) := by decide +kernel
theorem dX0_extend_106 : decode cX0_extend 106 = .ok (.aload_n 0, 1) := by decide +kernel
theorem dX0_extend_107 : decode cX0_extend 107 = .ok (.aload_n 0, 1) := by decide +kernel
theorem dX0_extend_108 : decode cX0_extend 108 = .ok (.getfield 13, 3) := by decide +kernel
theorem dX0_extend_111 : decode cX0_extend 111 = .ok (.iload_n 1, 1) := by decide +kernel
theorem dX0_extend_112 : decode cX0_extend 112 = .ok (.iconst 1, 1) := by decide +kernel
theorem dX0_extend_113 : decode cX0_extend 113 = .ok (.isub, 1) := by decide +kernel
theorem dX0_extend_114 : decode cX0_extend 114 = .ok (.aaload, 1) := by decide +kernel
theorem dX0_extend_115 : decode cX0_extend 115 = .ok (.invokevirtual 113, 3) := by decide +kernel
theorem dX0_extend_118 : decode cX0_extend 118 = .ok (.aload_n 0, 1) := by decide +kernel
theorem dX0_extend_119 : decode cX0_extend 119 = .ok (.getfield 24, 3) := by decide +kernel
theorem dX0_extend_122 : decode cX0_extend 122 = .ok (.getfield 57, 3) := by decide +kernel
theorem dX0_extend_125 : decode cX0_extend 125 = .ok (.ifCond .lt 41, 3) := by decide +kernel
theorem dX0_extend_128 : decode cX0_extend 128 = .ok (.aload_n 0, 1) := by decide +kernel
theorem dX0_extend_129 : decode cX0_extend 129 = .ok (.iload_n 2, 1) := by decide +kernel
theorem dX0_extend_130 : decode cX0_extend 130 = .ok (.invokevirtual 116, 3) := by decide +kernel
theorem dX0_extend_133 : decode cX0_extend 133 = .ok (.aload_n 0, 1) := by decide +kernel
theorem dX0_extend_134 : decode cX0_extend 134 = .ok (.getfield 13, 3) := by decide +kernel
theorem dX0_extend_137 : decode cX0_extend 137 = .ok (.iload_n 1, 1) := by decide +kernel
theorem dX0_extend_138 : decode cX0_extend 138 = .ok (.aaload, 1) := by decide +kernel
theorem dX0_extend_139 : decode cX0_extend 139 = .ok (.aload_n 0, 1) := by decide +kernel
theorem dX0_extend_140 : decode cX0_extend 140 = .ok (.getfield 24, 3) := by decide +kernel
theorem dX0_extend_143 : decode cX0_extend 143 = .ok (.invokevirtual 101, 3) := by decide +kernel
theorem dX0_extend_146 : decode cX0_extend 146 = .ok (.aload_n 0, 1) := by decide +kernel
theorem dX0_extend_147 : decode cX0_extend 147 = .ok (.iload_n 1, 1) := by decide +kernel
theorem dX0_extend_148 : decode cX0_extend 148 = .ok (.iconst 1, 1) := by decide +kernel
theorem dX0_extend_149 : decode cX0_extend 149 = .ok (.iadd, 1) := by decide +kernel
theorem dX0_extend_150 : decode cX0_extend 150 = .ok (.putfield 17, 3) := by decide +kernel
theorem dX0_extend_153 : decode cX0_extend 153 = .ok (.aload_n 0, 1) := by decide +kernel
theorem dX0_extend_154 : decode cX0_extend 154 = .ok (.aload_n 0, 1) := by decide +kernel
theorem dX0_extend_155 : decode cX0_extend 155 = .ok (.getfield 13, 3) := by decide +kernel
theorem dX0_extend_158 : decode cX0_extend 158 = .ok (.iload_n 1, 1) := by decide +kernel
theorem dX0_extend_159 : decode cX0_extend 159 = .ok (.iconst 1, 1) := by decide +kernel
theorem dX0_extend_160 : decode cX0_extend 160 = .ok (.isub, 1) := by decide +kernel
theorem dX0_extend_161 : decode cX0_extend 161 = .ok (.aaload, 1) := by decide +kernel
theorem dX0_extend_162 : decode cX0_extend 162 = .ok (.iload_n 2, 1) := by decide +kernel
theorem dX0_extend_163 : decode cX0_extend 163 = .ok (.invokevirtual 119, 3) := by decide +kernel
theorem dX0_extend_166 : decode cX0_extend 166 = .ok (.iinc 1 1, 3) := by decide +kernel
theorem dX0_extend_169 : decode cX0_extend 169 = .ok (.goto (-130), 3) := by decide +kernel
theorem dX0_extend_172 : decode cX0_extend 172 = .ok (.return_, 1) := by decide +kernel
theorem dX0_reduceBy_0 : decode cX0_reduceBy 0 = .ok (.aload_n 0, 1) := by decide +kernel
theorem dX0_reduceBy_1 : decode cX0_reduceBy 1 = .ok (.getfield 44, 3) := by decide +kernel
theorem dX0_reduceBy_4 : decode cX0_reduceBy 4 = .ok (.aload_n 1, 1) := by decide +kernel
theorem dX0_reduceBy_5 : decode cX0_reduceBy 5 = .ok (.getfield 82, 3) := by decide +kernel
theorem dX0_reduceBy_8 : decode cX0_reduceBy 8 = .ok (.aload_n 1, 1) := by decide +kernel
theorem dX0_reduceBy_9 : decode cX0_reduceBy 9 = .ok (.getfield 57, 3) := by decide +kernel
theorem dX0_reduceBy_12 : decode cX0_reduceBy 12 = .ok (.aaload, 1) := by decide +kernel
theorem dX0_reduceBy_13 : decode cX0_reduceBy 13 = .ok (.invokevirtual 93, 3) := by decide +kernel
theorem dX0_reduceBy_16 : decode cX0_reduceBy 16 = .ok (.aload_n 0, 1) := by decide +kernel
theorem dX0_reduceBy_17 : decode cX0_reduceBy 17 = .ok (.getfield 44, 3) := by decide +kernel
theorem dX0_reduceBy_20 : decode cX0_reduceBy 20 = .ok (.getfield 123, 3) := by decide +kernel
theorem dX0_reduceBy_23 : decode cX0_reduceBy 23 = .ok (.istore_n 2, 1) := by decide +kernel
theorem dX0_reduceBy_24 : decode cX0_reduceBy 24 = .ok (.aload_n 0, 1) := by decide +kernel
theorem dX0_reduceBy_25 : decode cX0_reduceBy 25 = .ok (.getfield 44, 3) := by decide +kernel
theorem dX0_reduceBy_28 : decode cX0_reduceBy 28 = .ok (.invokevirtual 126, 3) := by decide +kernel
theorem dX0_reduceBy_31 : decode cX0_reduceBy 31 = .ok (.aload_n 0, 1) := by decide +kernel
theorem dX0_reduceBy_32 : decode cX0_reduceBy 32 = .ok (.getfield 24, 3) := by decide +kernel
theorem dX0_reduceBy_35 : decode cX0_reduceBy 35 = .ok (.getfield 57, 3) := by decide +kernel
theorem dX0_reduceBy_38 : decode cX0_reduceBy 38 = .ok (.istore_n 3, 1) := by decide +kernel
theorem dX0_reduceBy_39 : decode cX0_reduceBy 39 = .ok (.iload_n 3, 1) := by decide +kernel
theorem dX0_reduceBy_40 : decode cX0_reduceBy 40 = .ok (.aload_n 1, 1) := by decide +kernel
theorem dX0_reduceBy_41 : decode cX0_reduceBy 41 = .ok (.getfield 57, 3) := by decide +kernel
theorem dX0_reduceBy_44 : decode cX0_reduceBy 44 = .ok (.if_icmp .lt 130, 3) := by decide +kernel
theorem dX0_reduceBy_47 : decode cX0_reduceBy 47 = .ok (.aload_n 0, 1) := by decide +kernel
theorem dX0_reduceBy_48 : decode cX0_reduceBy 48 = .ok (.getfield 47, 3) := by decide +kernel
theorem dX0_reduceBy_51 : decode cX0_reduceBy 51 = .ok (.aload_n 0, 1) := by decide +kernel
theorem dX0_reduceBy_52 : decode cX0_reduceBy 52 = .ok (.getfield 24, 3) := by decide +kernel
theorem dX0_reduceBy_55 : decode cX0_reduceBy 55 = .ok (.getfield 82, 3) := by decide +kernel
theorem dX0_reduceBy_58 : decode cX0_reduceBy 58 = .ok (.iload_n 3, 1) := by decide +kernel
theorem dX0_reduceBy_59 : decode cX0_reduceBy 59 = .ok (.aaload, 1) := by decide +kernel
theorem dX0_reduceBy_60 : decode cX0_reduceBy 60 = .ok (.invokevirtual 93, 3) := by decide +kernel
theorem dX0_reduceBy_63 : decode cX0_reduceBy 63 = .ok (.iconst 0, 1) := by decide +kernel
theorem dX0_reduceBy_64 : decode cX0_reduceBy 64 = .ok (.istore 4, 2) := by decide +kernel
theorem dX0_reduceBy_66 : decode cX0_reduceBy 66 = .ok (.iload 4, 2) := by decide +kernel
theorem dX0_reduceBy_68 : decode cX0_reduceBy 68 = .ok (.iload_n 3, 1) := by decide +kernel
theorem dX0_reduceBy_69 : decode cX0_reduceBy 69 = .ok (.if_icmp .ge 86, 3) := by decide +kernel
theorem dX0_reduceBy_72 : decode cX0_reduceBy 72 = .ok (.aload_n 0, 1) := by decide +kernel
theorem dX0_reduceBy_73 : decode cX0_reduceBy 73 = .ok (.getfield 24, 3) := by decide +kernel
theorem dX0_reduceBy_76 : decode cX0_reduceBy 76 = .ok (.getfield 82, 3) := by decide +kernel
theorem dX0_reduceBy_79 : decode cX0_reduceBy 79 = .ok (.iload 4, 2) := by decide +kernel
theorem dX0_reduceBy_81 : decode cX0_reduceBy 81 = .ok (.aaload, 1) := by decide +kernel
theorem dX0_reduceBy_82 : decode cX0_reduceBy 82 = .ok (.aload_n 0, 1) := by decide +kernel
theorem dX0_reduceBy_83 : decode cX0_reduceBy 83 = .ok (.getfield 44, 3) := by decide +kernel
theorem dX0_reduceBy_86 : decode cX0_reduceBy 86 = .ok (.invokevirtual 104, 3) := by decide +kernel
theorem dX0_reduceBy_89 : decode cX0_reduceBy 89 = .ok (.iload 4, 2) := by decide +kernel
theorem dX0_reduceBy_91 : decode cX0_reduceBy 91 = .ok (.iload_n 3, 1) := by decide +kernel
theorem dX0_reduceBy_92 : decode cX0_reduceBy 92 = .ok (.aload_n 1, 1) := by decide +kernel
theorem dX0_reduceBy_93 : decode cX0_reduceBy 93 = .ok (.getfield 57, 3) := by decide +kernel
theorem dX0_reduceBy_96 : decode cX0_reduceBy 96 = .ok (.isub, 1) := by decide +kernel
theorem dX0_reduceBy_97 : decode cX0_reduceBy 97 = .ok (.isub, 1) := by decide +kernel
theorem dX0_reduceBy_98 : decode cX0_reduceBy 98 = .ok (.istore 5, 2) := by decide +kernel
theorem dX0_reduceBy_100 : decode cX0_reduceBy 100 = .ok (.iload 5, 2) := by decide +kernel
theorem dX0_reduceBy_102 : decode cX0_reduceBy 102 = .ok (.ifCond .lt 47, 3) := by decide +kernel
theorem dX0_reduceBy_105 : decode cX0_reduceBy 105 = .ok (.aload_n 0, 1) := by decide +kernel
theorem dX0_reduceBy_106 : decode cX0_reduceBy 106 = .ok (.getfield 50, 3) := by decide +kernel
theorem dX0_reduceBy_109 : decode cX0_reduceBy 109 = .ok (.aload_n 0, 1) := by decide +kernel
theorem dX0_reduceBy_110 : decode cX0_reduceBy 110 = .ok (.getfield 47, 3) := by decide +kernel
theorem dX0_reduceBy_113 : decode cX0_reduceBy 113 = .ok (.invokevirtual 93, 3) := by decide +kernel
theorem dX0_reduceBy_116 : decode cX0_reduceBy 116 = .ok (.aload_n 0, 1) := by decide +kernel
theorem dX0_reduceBy_117 : decode cX0_reduceBy 117 = .ok (.getfield 50, 3) := by decide +kernel
theorem dX0_reduceBy_120 : decode cX0_reduceBy 120 = .ok (.aload_n 1, 1) := by decide +kernel
theorem dX0_reduceBy_121 : decode cX0_reduceBy 121 = .ok (.getfield 82, 3) := by decide +kernel
theorem dX0_reduceBy_124 : decode cX0_reduceBy 124 = .ok (.iload 5, 2) := by decide +kernel
theorem dX0_reduceBy_126 : decode cX0_reduceBy 126 = .ok (.aaload, 1) := by decide +kernel
theorem dX0_reduceBy_127 : decode cX0_reduceBy 127 = .ok (.invokevirtual 104, 3) := by decide +kernel
theorem dX0_reduceBy_130 : decode cX0_reduceBy 130 = .ok (.aload_n 0, 1) := by decide +kernel
theorem dX0_reduceBy_131 : decode cX0_reduceBy 131 = .ok (.getfield 24, 3) := by decide +kernel
theorem dX0_reduceBy_134 : decode cX0_reduceBy 134 = .ok (.getfield 82, 3) := by decide +kernel
theorem dX0_reduceBy_137 : decode cX0_reduceBy 137 = .ok (.iload 4, 2) := by decide +kernel
theorem dX0_reduceBy_139 : decode cX0_reduceBy 139 = .ok (.aaload, 1) := by decide +kernel
theorem dX0_reduceBy_140 : decode cX0_reduceBy 140 = .ok (.aload_n 0, 1) := by decide +kernel
theorem dX0_reduceBy_141 : decode cX0_reduceBy 141 = .ok (.getfield 50, 3) := by decide +kernel
theorem dX0_reduceBy_144 : decode cX0_reduceBy 144 = .ok (.iload_n 2, 1) := by decide +kernel
theorem dX0_reduceBy_145 : decode cX0_reduceBy 145 = .ok (.ineg, 1) := by decide +kernel
theorem dX0_reduceBy_146 : decode cX0_reduceBy 146 = .ok (.invokevirtual 86, 3) := by decide +kernel
theorem dX0_reduceBy_149 : decode cX0_reduceBy 149 = .ok (.iinc 4 1, 3) := by decide +kernel
theorem dX0_reduceBy_152 : decode cX0_reduceBy 152 = .ok (.goto (-86), 3) := by decide +kernel
theorem dX0_reduceBy_155 : decode cX0_reduceBy 155 = .ok (.aload_n 0, 1) := by decide +kernel
theorem dX0_reduceBy_156 : decode cX0_reduceBy 156 = .ok (.getfield 24, 3) := by decide +kernel
theorem dX0_reduceBy_159 : decode cX0_reduceBy 159 = .ok (.getfield 82, 3) := by decide +kernel
theorem dX0_reduceBy_162 : decode cX0_reduceBy 162 = .ok (.iload_n 3, 1) := by decide +kernel
theorem dX0_reduceBy_163 : decode cX0_reduceBy 163 = .ok (.aaload, 1) := by decide +kernel
theorem dX0_reduceBy_164 : decode cX0_reduceBy 164 = .ok (.lconst 0, 1) := by decide +kernel
theorem dX0_reduceBy_165 : decode cX0_reduceBy 165 = .ok (.invokevirtual 78, 3) := by decide +kernel
theorem dX0_reduceBy_168 : decode cX0_reduceBy 168 = .ok (.iinc 3 (-1), 3) := by decide +kernel
theorem dX0_reduceBy_171 : decode cX0_reduceBy 171 = .ok (.goto (-132), 3) := by decide +kernel
theorem dX0_reduceBy_174 : decode cX0_reduceBy 174 = .ok (.aload_n 0, 1) := by decide +kernel
theorem dX0_reduceBy_175 : decode cX0_reduceBy 175 = .ok (.getfield 24, 3) := by decide +kernel
theorem dX0_reduceBy_178 : decode cX0_reduceBy 178 = .ok (.invokevirtual 90, 3) := by decide +kernel
theorem dX0_reduceBy_181 : decode cX0_reduceBy 181 = .ok (.return_, 1) := by decide +kernel
theorem dX0_divideRest_0 : decode cX0_divideRest 0 = .ok (.aload_n 0, 1) := by decide +kernel
theorem dX0_divideRest_1 : decode cX0_divideRest 1 = .ok (.getfield 38, 3) := by decide +kernel
theorem dX0_divideRest_4 : decode cX0_divideRest 4 = .ok (.aload_n 0, 1) := by decide +kernel
theorem dX0_divideRest_5 : decode cX0_divideRest 5 = .ok (.getfield 31, 3) := by decide +kernel
theorem dX0_divideRest_8 : decode cX0_divideRest 8 = .ok (.invokevirtual 93, 3) := by decide +kernel
theorem dX0_divideRest_11 : decode cX0_divideRest 11 = .ok (.iconst 0, 1) := by decide +kernel
theorem dX0_divideRest_12 : decode cX0_divideRest 12 = .ok (.istore_n 2, 1) := by decide +kernel
theorem dX0_divideRest_13 : decode cX0_divideRest 13 = .ok (.iload_n 2, 1) := by decide +kernel
theorem dX0_divideRest_14 : decode cX0_divideRest 14 = .ok (.iload_n 1, 1) := by decide +kernel
theorem dX0_divideRest_15 : decode cX0_divideRest 15 = .ok (.if_icmp .ge 20, 3) := by decide +kernel
theorem dX0_divideRest_18 : decode cX0_divideRest 18 = .ok (.aload_n 0, 1) := by decide +kernel
theorem dX0_divideRest_19 : decode cX0_divideRest 19 = .ok (.getfield 38, 3) := by decide +kernel
theorem dX0_divideRest_22 : decode cX0_divideRest 22 = .ok (.aload_n 0, 1) := by decide +kernel
theorem dX0_divideRest_23 : decode cX0_divideRest 23 = .ok (.getfield 35, 3) := by decide +kernel
theorem dX0_divideRest_26 : decode cX0_divideRest 26 = .ok (.invokevirtual 104, 3) := by decide +kernel
theorem dX0_divideRest_29 : decode cX0_divideRest 29 = .ok (.iinc 2 1, 3) := by decide +kernel
theorem dX0_divideRest_32 : decode cX0_divideRest 32 = .ok (.goto (-19), 3) := by decide +kernel
theorem dX0_divideRest_35 : decode cX0_divideRest 35 = .ok (.aload_n 0, 1) := by decide +kernel
theorem dX0_divideRest_36 : decode cX0_divideRest 36 = .ok (.getfield 38, 3) := by decide +kernel
theorem dX0_divideRest_39 : decode cX0_divideRest 39 = .ok (.invokevirtual 97, 3) := by decide +kernel
theorem dX0_divideRest_42 : decode cX0_divideRest 42 = .ok (.istore_n 2, 1) := by decide +kernel
theorem dX0_divideRest_43 : decode cX0_divideRest 43 = .ok (.iconst 0, 1) := by decide +kernel
theorem dX0_divideRest_44 : decode cX0_divideRest 44 = .ok (.istore_n 3, 1) := by decide +kernel
theorem dX0_divideRest_45 : decode cX0_divideRest 45 = .ok (.iload_n 3, 1) := by decide +kernel
theorem dX0_divideRest_46 : decode cX0_divideRest 46 = .ok (.aload_n 0, 1) := by decide +kernel
theorem dX0_divideRest_47 : decode cX0_divideRest 47 = .ok (.getfield 24, 3) := by decide +kernel
theorem dX0_divideRest_50 : decode cX0_divideRest 50 = .ok (.getfield 57, 3) := by decide +kernel
theorem dX0_divideRest_53 : decode cX0_divideRest 53 = .ok (.if_icmp .gt 50, 3) := by decide +kernel
theorem dX0_divideRest_56 : decode cX0_divideRest 56 = .ok (.aload_n 0, 1) := by decide +kernel
theorem dX0_divideRest_57 : decode cX0_divideRest 57 = .ok (.getfield 24, 3) := by decide +kernel
theorem dX0_divideRest_60 : decode cX0_divideRest 60 = .ok (.getfield 82, 3) := by decide +kernel
theorem dX0_divideRest_63 : decode cX0_divideRest 63 = .ok (.iload_n 3, 1) := by decide +kernel
theorem dX0_divideRest_64 : decode cX0_divideRest 64 = .ok (.aaload, 1) := by decide +kernel
theorem dX0_divideRest_65 : decode cX0_divideRest 65 = .ok (.iload_n 2, 1) := by decide +kernel
theorem dX0_divideRest_66 : decode cX0_divideRest 66 = .ok (.invokevirtual 107, 3) := by decide +kernel
theorem dX0_divideRest_69 : decode cX0_divideRest 69 = .ok (.aload_n 0, 1) := by decide +kernel
theorem dX0_divideRest_70 : decode cX0_divideRest 70 = .ok (.getfield 24, 3) := by decide +kernel
theorem dX0_divideRest_73 : decode cX0_divideRest 73 = .ok (.getfield 82, 3) := by decide +kernel
theorem dX0_divideRest_76 : decode cX0_divideRest 76 = .ok (.iload_n 3, 1) := by decide +kernel
theorem dX0_divideRest_77 : decode cX0_divideRest 77 = .ok (.aaload, 1) := by decide +kernel
theorem dX0_divideRest_78 : decode cX0_divideRest 78 = .ok (.aload_n 0, 1) := by decide +kernel
theorem dX0_divideRest_79 : decode cX0_divideRest 79 = .ok (.getfield 38, 3) := by decide +kernel
theorem dX0_divideRest_82 : decode cX0_divideRest 82 = .ok (.invokevirtual 110, 3) := by decide +kernel
theorem dX0_divideRest_85 : decode cX0_divideRest 85 = .ok (.aload_n 0, 1) := by decide +kernel
theorem dX0_divideRest_86 : decode cX0_divideRest 86 = .ok (.getfield 24, 3) := by decide +kernel
theorem dX0_divideRest_89 : decode cX0_divideRest 89 = .ok (.getfield 82, 3) := by decide +kernel
theorem dX0_divideRest_92 : decode cX0_divideRest 92 = .ok (.iload_n 3, 1) := by decide +kernel
theorem dX0_divideRest_93 : decode cX0_divideRest 93 = .ok (.aaload, 1) := by decide +kernel
theorem dX0_divideRest_94 : decode cX0_divideRest 94 = .ok (.invokevirtual 129, 3) := by decide +kernel
theorem dX0_divideRest_97 : decode cX0_divideRest 97 = .ok (.iinc 3 1, 3) := by decide +kernel
theorem dX0_divideRest_100 : decode cX0_divideRest 100 = .ok (.goto (-55), 3) := by decide +kernel
theorem dX0_divideRest_103 : decode cX0_divideRest 103 = .ok (.return_, 1) := by decide +kernel
theorem dX0_nextGauge_0 : decode cX0_nextGauge 0 = .ok (.aload_n 0, 1) := by decide +kernel
theorem dX0_nextGauge_1 : decode cX0_nextGauge 1 = .ok (.getfield 31, 3) := by decide +kernel
theorem dX0_nextGauge_4 : decode cX0_nextGauge 4 = .ok (.aload_n 1, 1) := by decide +kernel
theorem dX0_nextGauge_5 : decode cX0_nextGauge 5 = .ok (.getfield 82, 3) := by decide +kernel
theorem dX0_nextGauge_8 : decode cX0_nextGauge 8 = .ok (.aload_n 1, 1) := by decide +kernel
theorem dX0_nextGauge_9 : decode cX0_nextGauge 9 = .ok (.getfield 57, 3) := by decide +kernel
theorem dX0_nextGauge_12 : decode cX0_nextGauge 12 = .ok (.aaload, 1) := by decide +kernel
theorem dX0_nextGauge_13 : decode cX0_nextGauge 13 = .ok (.invokevirtual 93, 3) := by decide +kernel
theorem dX0_nextGauge_16 : decode cX0_nextGauge 16 = .ok (.aload_n 0, 1) := by decide +kernel
theorem dX0_nextGauge_17 : decode cX0_nextGauge 17 = .ok (.getfield 31, 3) := by decide +kernel
theorem dX0_nextGauge_20 : decode cX0_nextGauge 20 = .ok (.invokevirtual 126, 3) := by decide +kernel
theorem dX0_nextGauge_23 : decode cX0_nextGauge 23 = .ok (.iload_n 2, 1) := by decide +kernel
theorem dX0_nextGauge_24 : decode cX0_nextGauge 24 = .ok (.ifCond .gt 4, 3) := by decide +kernel
theorem dX0_nextGauge_27 : decode cX0_nextGauge 27 = .ok (.return_, 1) := by decide +kernel
theorem dX0_nextGauge_28 : decode cX0_nextGauge 28 = .ok (.aload_n 0, 1) := by decide +kernel
theorem dX0_nextGauge_29 : decode cX0_nextGauge 29 = .ok (.getfield 38, 3) := by decide +kernel
theorem dX0_nextGauge_32 : decode cX0_nextGauge 32 = .ok (.aload_n 0, 1) := by decide +kernel
theorem dX0_nextGauge_33 : decode cX0_nextGauge 33 = .ok (.getfield 31, 3) := by decide +kernel
theorem dX0_nextGauge_36 : decode cX0_nextGauge 36 = .ok (.invokevirtual 93, 3) := by decide +kernel
theorem dX0_nextGauge_39 : decode cX0_nextGauge 39 = .ok (.aload_n 0, 1) := by decide +kernel
theorem dX0_nextGauge_40 : decode cX0_nextGauge 40 = .ok (.getfield 41, 3) := by decide +kernel
theorem dX0_nextGauge_43 : decode cX0_nextGauge 43 = .ok (.lconst 1, 1) := by decide +kernel
theorem dX0_nextGauge_44 : decode cX0_nextGauge 44 = .ok (.invokevirtual 78, 3) := by decide +kernel
theorem dX0_nextGauge_47 : decode cX0_nextGauge 47 = .ok (.iconst 1, 1) := by decide +kernel
theorem dX0_nextGauge_48 : decode cX0_nextGauge 48 = .ok (.istore_n 3, 1) := by decide +kernel
theorem dX0_nextGauge_49 : decode cX0_nextGauge 49 = .ok (.iload_n 3, 1) := by decide +kernel
theorem dX0_nextGauge_50 : decode cX0_nextGauge 50 = .ok (.iload_n 2, 1) := by decide +kernel
theorem dX0_nextGauge_51 : decode cX0_nextGauge 51 = .ok (.if_icmp .ge 31, 3) := by decide +kernel
theorem dX0_nextGauge_54 : decode cX0_nextGauge 54 = .ok (.aload_n 0, 1) := by decide +kernel
theorem dX0_nextGauge_55 : decode cX0_nextGauge 55 = .ok (.getfield 38, 3) := by decide +kernel
theorem dX0_nextGauge_58 : decode cX0_nextGauge 58 = .ok (.aload_n 0, 1) := by decide +kernel
theorem dX0_nextGauge_59 : decode cX0_nextGauge 59 = .ok (.getfield 31, 3) := by decide +kernel
theorem dX0_nextGauge_62 : decode cX0_nextGauge 62 = .ok (.invokevirtual 104, 3) := by decide +kernel
theorem dX0_nextGauge_65 : decode cX0_nextGauge 65 = .ok (.aload_n 0, 1) := by decide +kernel
theorem dX0_nextGauge_66 : decode cX0_nextGauge 66 = .ok (.getfield 41, 3) := by decide +kernel
theorem dX0_nextGauge_69 : decode cX0_nextGauge 69 = .ok (.aload_n 0, 1) := by decide +kernel
theorem dX0_nextGauge_70 : decode cX0_nextGauge 70 = .ok (.getfield 35, 3) := by decide +kernel
theorem dX0_nextGauge_73 : decode cX0_nextGauge 73 = .ok (.invokevirtual 104, 3) := by decide +kernel
theorem dX0_nextGauge_76 : decode cX0_nextGauge 76 = .ok (.iinc 3 1, 3) := by decide +kernel
theorem dX0_nextGauge_79 : decode cX0_nextGauge 79 = .ok (.goto (-30), 3) := by decide +kernel
theorem dX0_nextGauge_82 : decode cX0_nextGauge 82 = .ok (.aload_n 0, 1) := by decide +kernel
theorem dX0_nextGauge_83 : decode cX0_nextGauge 83 = .ok (.getfield 38, 3) := by decide +kernel
theorem dX0_nextGauge_86 : decode cX0_nextGauge 86 = .ok (.aload_n 0, 1) := by decide +kernel
theorem dX0_nextGauge_87 : decode cX0_nextGauge 87 = .ok (.getfield 41, 3) := by decide +kernel
theorem dX0_nextGauge_90 : decode cX0_nextGauge 90 = .ok (.invokevirtual 97, 3) := by decide +kernel
theorem dX0_nextGauge_93 : decode cX0_nextGauge 93 = .ok (.invokevirtual 107, 3) := by decide +kernel
theorem dX0_nextGauge_96 : decode cX0_nextGauge 96 = .ok (.aload_n 0, 1) := by decide +kernel
theorem dX0_nextGauge_97 : decode cX0_nextGauge 97 = .ok (.getfield 38, 3) := by decide +kernel
theorem dX0_nextGauge_100 : decode cX0_nextGauge 100 = .ok (.aload_n 0, 1) := by decide +kernel
theorem dX0_nextGauge_101 : decode cX0_nextGauge 101 = .ok (.getfield 41, 3) := by decide +kernel
theorem dX0_nextGauge_104 : decode cX0_nextGauge 104 = .ok (.invokevirtual 110, 3) := by decide +kernel
theorem dX0_nextGauge_107 : decode cX0_nextGauge 107 = .ok (.aload_n 0, 1) := by decide +kernel
theorem dX0_nextGauge_108 : decode cX0_nextGauge 108 = .ok (.getfield 35, 3) := by decide +kernel
theorem dX0_nextGauge_111 : decode cX0_nextGauge 111 = .ok (.aload_n 0, 1) := by decide +kernel
theorem dX0_nextGauge_112 : decode cX0_nextGauge 112 = .ok (.getfield 38, 3) := by decide +kernel
theorem dX0_nextGauge_115 : decode cX0_nextGauge 115 = .ok (.invokevirtual 93, 3) := by decide +kernel
theorem dX0_nextGauge_118 : decode cX0_nextGauge 118 = .ok (.return_, 1) := by decide +kernel
theorem dX0_changesAt_0 : decode cX0_changesAt 0 = .ok (.aload_n 0, 1) := by decide +kernel
theorem dX0_changesAt_1 : decode cX0_changesAt 1 = .ok (.invokevirtual 53, 3) := by decide +kernel
theorem dX0_changesAt_4 : decode cX0_changesAt 4 = .ok (.astore_n 3, 1) := by decide +kernel
theorem dX0_changesAt_5 : decode cX0_changesAt 5 = .ok (.iconst 0, 1) := by decide +kernel
theorem dX0_changesAt_6 : decode cX0_changesAt 6 = .ok (.istore 4, 2) := by decide +kernel
theorem dX0_changesAt_8 : decode cX0_changesAt 8 = .ok (.iload 4, 2) := by decide +kernel
theorem dX0_changesAt_10 : decode cX0_changesAt 10 = .ok (.aload_n 3, 1) := by decide +kernel
theorem dX0_changesAt_11 : decode cX0_changesAt 11 = .ok (.getfield 57, 3) := by decide +kernel
theorem dX0_changesAt_14 : decode cX0_changesAt 14 = .ok (.if_icmp .ge 22, 3) := by decide +kernel
theorem dX0_changesAt_17 : decode cX0_changesAt 17 = .ok (.aload_n 1, 1) := by decide +kernel
theorem dX0_changesAt_18 : decode cX0_changesAt 18 = .ok (.aload_n 3, 1) := by decide +kernel
theorem dX0_changesAt_19 : decode cX0_changesAt 19 = .ok (.iload 4, 2) := by decide +kernel
theorem dX0_changesAt_21 : decode cX0_changesAt 21 = .ok (.invokevirtual 132, 3) := by decide +kernel
theorem dX0_changesAt_24 : decode cX0_changesAt 24 = .ok (.getfield 123, 3) := by decide +kernel
theorem dX0_changesAt_27 : decode cX0_changesAt 27 = .ok (.ifCond .ne 9, 3) := by decide +kernel
theorem dX0_changesAt_30 : decode cX0_changesAt 30 = .ok (.iinc 4 1, 3) := by decide +kernel
theorem dX0_changesAt_33 : decode cX0_changesAt 33 = .ok (.goto (-25), 3) := by decide +kernel
theorem dX0_changesAt_36 : decode cX0_changesAt 36 = .ok (.iconst 0, 1) := by decide +kernel
theorem dX0_changesAt_37 : decode cX0_changesAt 37 = .ok (.istore 5, 2) := by decide +kernel
theorem dX0_changesAt_39 : decode cX0_changesAt 39 = .ok (.iconst 0, 1) := by decide +kernel
theorem dX0_changesAt_40 : decode cX0_changesAt 40 = .ok (.istore 6, 2) := by decide +kernel
theorem dX0_changesAt_42 : decode cX0_changesAt 42 = .ok (.iload_n 2, 1) := by decide +kernel
theorem dX0_changesAt_43 : decode cX0_changesAt 43 = .ok (.istore 7, 2) := by decide +kernel
theorem dX0_changesAt_45 : decode cX0_changesAt 45 = .ok (.iload 7, 2) := by decide +kernel
theorem dX0_changesAt_47 : decode cX0_changesAt 47 = .ok (.aload_n 0, 1) := by decide +kernel
theorem dX0_changesAt_48 : decode cX0_changesAt 48 = .ok (.getfield 17, 3) := by decide +kernel
theorem dX0_changesAt_51 : decode cX0_changesAt 51 = .ok (.if_icmp .ge 54, 3) := by decide +kernel
theorem dX0_changesAt_54 : decode cX0_changesAt 54 = .ok (.aload_n 1, 1) := by decide +kernel
theorem dX0_changesAt_55 : decode cX0_changesAt 55 = .ok (.aload_n 0, 1) := by decide +kernel
theorem dX0_changesAt_56 : decode cX0_changesAt 56 = .ok (.getfield 13, 3) := by decide +kernel
theorem dX0_changesAt_59 : decode cX0_changesAt 59 = .ok (.iload 7, 2) := by decide +kernel
theorem dX0_changesAt_61 : decode cX0_changesAt 61 = .ok (.aaload, 1) := by decide +kernel
theorem dX0_changesAt_62 : decode cX0_changesAt 62 = .ok (.iload 4, 2) := by decide +kernel
theorem dX0_changesAt_64 : decode cX0_changesAt 64 = .ok (.invokevirtual 132, 3) := by decide +kernel
theorem dX0_changesAt_67 : decode cX0_changesAt 67 = .ok (.getfield 123, 3) := by decide +kernel
theorem dX0_changesAt_70 : decode cX0_changesAt 70 = .ok (.istore 8, 2) := by decide +kernel
theorem dX0_changesAt_72 : decode cX0_changesAt 72 = .ok (.iload 8, 2) := by decide +kernel
theorem dX0_changesAt_74 : decode cX0_changesAt 74 = .ok (.ifCond .eq 25, 3) := by decide +kernel
theorem dX0_changesAt_77 : decode cX0_changesAt 77 = .ok (.iload 5, 2) := by decide +kernel
theorem dX0_changesAt_79 : decode cX0_changesAt 79 = .ok (.iload 6, 2) := by decide +kernel
theorem dX0_changesAt_81 : decode cX0_changesAt 81 = .ok (.iload 8, 2) := by decide +kernel
theorem dX0_changesAt_83 : decode cX0_changesAt 83 = .ok (.ineg, 1) := by decide +kernel
theorem dX0_changesAt_84 : decode cX0_changesAt 84 = .ok (.if_icmp .ne 7, 3) := by decide +kernel
theorem dX0_changesAt_87 : decode cX0_changesAt 87 = .ok (.iconst 1, 1) := by decide +kernel
theorem dX0_changesAt_88 : decode cX0_changesAt 88 = .ok (.goto 4, 3) := by decide +kernel
theorem dX0_changesAt_91 : decode cX0_changesAt 91 = .ok (.iconst 0, 1) := by decide +kernel
theorem dX0_changesAt_92 : decode cX0_changesAt 92 = .ok (.iadd, 1) := by decide +kernel
theorem dX0_changesAt_93 : decode cX0_changesAt 93 = .ok (.istore 5, 2) := by decide +kernel
theorem dX0_changesAt_95 : decode cX0_changesAt 95 = .ok (.iload 8, 2) := by decide +kernel
theorem dX0_changesAt_97 : decode cX0_changesAt 97 = .ok (.istore 6, 2) := by decide +kernel
theorem dX0_changesAt_99 : decode cX0_changesAt 99 = .ok (.iinc 7 1, 3) := by decide +kernel
theorem dX0_changesAt_102 : decode cX0_changesAt 102 = .ok (.goto (-57), 3) := by decide +kernel
theorem dX0_changesAt_105 : decode cX0_changesAt 105 = .ok (.iload 5, 2) := by decide +kernel
theorem dX0_changesAt_107 : decode cX0_changesAt 107 = .ok (.ireturn, 1) := by decide +kernel
theorem dX0_changesBelowAll_0 : decode cX0_changesBelowAll 0 = .ok (.aload_n 0, 1) := by decide +kernel
theorem dX0_changesBelowAll_1 : decode cX0_changesBelowAll 1 = .ok (.iconst 1, 1) := by decide +kernel
theorem dX0_changesBelowAll_2 : decode cX0_changesBelowAll 2 = .ok (.invokevirtual 138, 3) := by decide +kernel
theorem dX0_changesBelowAll_5 : decode cX0_changesBelowAll 5 = .ok (.ireturn, 1) := by decide +kernel
theorem dX0_allRoots_0 : decode cX0_allRoots 0 = .ok (.aload_n 0, 1) := by decide +kernel
theorem dX0_allRoots_1 : decode cX0_allRoots 1 = .ok (.iconst 1, 1) := by decide +kernel
theorem dX0_allRoots_2 : decode cX0_allRoots 2 = .ok (.invokevirtual 138, 3) := by decide +kernel
theorem dX0_allRoots_5 : decode cX0_allRoots 5 = .ok (.aload_n 0, 1) := by decide +kernel
theorem dX0_allRoots_6 : decode cX0_allRoots 6 = .ok (.iconst 0, 1) := by decide +kernel
theorem dX0_allRoots_7 : decode cX0_allRoots 7 = .ok (.invokevirtual 138, 3) := by decide +kernel
theorem dX0_allRoots_10 : decode cX0_allRoots 10 = .ok (.isub, 1) := by decide +kernel
theorem dX0_allRoots_11 : decode cX0_allRoots 11 = .ok (.ireturn, 1) := by decide +kernel
theorem dX0_changesBeyond_0 : decode cX0_changesBeyond 0 = .ok (.iconst 0, 1) := by decide +kernel
theorem dX0_changesBeyond_1 : decode cX0_changesBeyond 1 = .ok (.istore_n 2, 1) := by decide +kernel
theorem dX0_changesBeyond_2 : decode cX0_changesBeyond 2 = .ok (.iconst 0, 1) := by decide +kernel
theorem dX0_changesBeyond_3 : decode cX0_changesBeyond 3 = .ok (.istore_n 3, 1) := by decide +kernel
theorem dX0_changesBeyond_4 : decode cX0_changesBeyond 4 = .ok (.iconst 0, 1) := by decide +kernel
theorem dX0_changesBeyond_5 : decode cX0_changesBeyond 5 = .ok (.istore 4, 2) := by decide +kernel
theorem dX0_changesBeyond_7 : decode cX0_changesBeyond 7 = .ok (.iload 4, 2) := by decide +kernel
theorem dX0_changesBeyond_9 : decode cX0_changesBeyond 9 = .ok (.aload_n 0, 1) := by decide +kernel
theorem dX0_changesBeyond_10 : decode cX0_changesBeyond 10 = .ok (.getfield 17, 3) := by decide +kernel
theorem dX0_changesBeyond_13 : decode cX0_changesBeyond 13 = .ok (.if_icmp .ge 93, 3) := by decide +kernel
theorem dX0_changesBeyond_16 : decode cX0_changesBeyond 16 = .ok (.aload_n 0, 1) := by decide +kernel
theorem dX0_changesBeyond_17 : decode cX0_changesBeyond 17 = .ok (.getfield 13, 3) := by decide +kernel
theorem dX0_changesBeyond_20 : decode cX0_changesBeyond 20 = .ok (.iload 4, 2) := by decide +kernel
theorem dX0_changesBeyond_22 : decode cX0_changesBeyond 22 = .ok (.aaload, 1) := by decide +kernel
theorem dX0_changesBeyond_23 : decode cX0_changesBeyond 23 = .ok (.getfield 57, 3) := by decide +kernel
theorem dX0_changesBeyond_26 : decode cX0_changesBeyond 26 = .ok (.istore 5, 2) := by decide +kernel
theorem dX0_changesBeyond_28 : decode cX0_changesBeyond 28 = .ok (.iload 5, 2) := by decide +kernel
theorem dX0_changesBeyond_30 : decode cX0_changesBeyond 30 = .ok (.ifCond .ge 7, 3) := by decide +kernel
theorem dX0_changesBeyond_33 : decode cX0_changesBeyond 33 = .ok (.iconst 0, 1) := by decide +kernel
theorem dX0_changesBeyond_34 : decode cX0_changesBeyond 34 = .ok (.goto 19, 3) := by decide +kernel
theorem dX0_changesBeyond_37 : decode cX0_changesBeyond 37 = .ok (.aload_n 0, 1) := by decide +kernel
theorem dX0_changesBeyond_38 : decode cX0_changesBeyond 38 = .ok (.getfield 13, 3) := by decide +kernel
theorem dX0_changesBeyond_41 : decode cX0_changesBeyond 41 = .ok (.iload 4, 2) := by decide +kernel
theorem dX0_changesBeyond_43 : decode cX0_changesBeyond 43 = .ok (.aaload, 1) := by decide +kernel
theorem dX0_changesBeyond_44 : decode cX0_changesBeyond 44 = .ok (.getfield 82, 3) := by decide +kernel
theorem dX0_changesBeyond_47 : decode cX0_changesBeyond 47 = .ok (.iload 5, 2) := by decide +kernel
theorem dX0_changesBeyond_49 : decode cX0_changesBeyond 49 = .ok (.aaload, 1) := by decide +kernel
theorem dX0_changesBeyond_50 : decode cX0_changesBeyond 50 = .ok (.getfield 123, 3) := by decide +kernel
theorem dX0_changesBeyond_53 : decode cX0_changesBeyond 53 = .ok (.istore 6, 2) := by decide +kernel
theorem dX0_changesBeyond_55 : decode cX0_changesBeyond 55 = .ok (.iload_n 1, 1) := by decide +kernel
theorem dX0_changesBeyond_56 : decode cX0_changesBeyond 56 = .ok (.ifCond .eq 17, 3) := by decide +kernel
theorem dX0_changesBeyond_59 : decode cX0_changesBeyond 59 = .ok (.iload 5, 2) := by decide +kernel
theorem dX0_changesBeyond_61 : decode cX0_changesBeyond 61 = .ok (.iconst 2, 1) := by decide +kernel
theorem dX0_changesBeyond_62 : decode cX0_changesBeyond 62 = .ok (.irem, 1) := by decide +kernel
theorem dX0_changesBeyond_63 : decode cX0_changesBeyond 63 = .ok (.iconst 1, 1) := by decide +kernel
theorem dX0_changesBeyond_64 : decode cX0_changesBeyond 64 = .ok (.if_icmp .ne 9, 3) := by decide +kernel
theorem dX0_changesBeyond_67 : decode cX0_changesBeyond 67 = .ok (.iload 6, 2) := by decide +kernel
theorem dX0_changesBeyond_69 : decode cX0_changesBeyond 69 = .ok (.ineg, 1) := by decide +kernel
theorem dX0_changesBeyond_70 : decode cX0_changesBeyond 70 = .ok (.goto 5, 3) := by decide +kernel
theorem dX0_changesBeyond_73 : decode cX0_changesBeyond 73 = .ok (.iload 6, 2) := by decide +kernel
theorem dX0_changesBeyond_75 : decode cX0_changesBeyond 75 = .ok (.istore 6, 2) := by decide +kernel
theorem dX0_changesBeyond_77 : decode cX0_changesBeyond 77 = .ok (.iload 6, 2) := by decide +kernel
theorem dX0_changesBeyond_79 : decode cX0_changesBeyond 79 = .ok (.ifCond .eq 21, 3) := by decide +kernel
theorem dX0_changesBeyond_82 : decode cX0_changesBeyond 82 = .ok (.iload_n 2, 1) := by decide +kernel
theorem dX0_changesBeyond_83 : decode cX0_changesBeyond 83 = .ok (.iload_n 3, 1) := by decide +kernel
theorem dX0_changesBeyond_84 : decode cX0_changesBeyond 84 = .ok (.iload 6, 2) := by decide +kernel
theorem dX0_changesBeyond_86 : decode cX0_changesBeyond 86 = .ok (.ineg, 1) := by decide +kernel
theorem dX0_changesBeyond_87 : decode cX0_changesBeyond 87 = .ok (.if_icmp .ne 7, 3) := by decide +kernel
theorem dX0_changesBeyond_90 : decode cX0_changesBeyond 90 = .ok (.iconst 1, 1) := by decide +kernel
theorem dX0_changesBeyond_91 : decode cX0_changesBeyond 91 = .ok (.goto 4, 3) := by decide +kernel
theorem dX0_changesBeyond_94 : decode cX0_changesBeyond 94 = .ok (.iconst 0, 1) := by decide +kernel
theorem dX0_changesBeyond_95 : decode cX0_changesBeyond 95 = .ok (.iadd, 1) := by decide +kernel
theorem dX0_changesBeyond_96 : decode cX0_changesBeyond 96 = .ok (.istore_n 2, 1) := by decide +kernel
theorem dX0_changesBeyond_97 : decode cX0_changesBeyond 97 = .ok (.iload 6, 2) := by decide +kernel
theorem dX0_changesBeyond_99 : decode cX0_changesBeyond 99 = .ok (.istore_n 3, 1) := by decide +kernel
theorem dX0_changesBeyond_100 : decode cX0_changesBeyond 100 = .ok (.iinc 4 1, 3) := by decide +kernel
theorem dX0_changesBeyond_103 : decode cX0_changesBeyond 103 = .ok (.goto (-96), 3) := by decide +kernel
theorem dX0_changesBeyond_106 : decode cX0_changesBeyond 106 = .ok (.iload_n 2, 1) := by decide +kernel
theorem dX0_changesBeyond_107 : decode cX0_changesBeyond 107 = .ok (.ireturn, 1) := by decide +kernel
theorem dX1_init_0 : decode cX1_init 0 = .ok (.aload_n 0, 1) := by decide +kernel
theorem dX1_init_1 : decode cX1_init 1 = .ok (.invokespecial 1, 3) := by decide +kernel
theorem dX1_init_4 : decode cX1_init 4 = .ok (.aload_n 0, 1) := by decide +kernel
theorem dX1_init_5 : decode cX1_init 5 = .ok (.new 7, 3) := by decide +kernel
theorem dX1_init_8 : decode cX1_init 8 = .ok (.dup, 1) := by decide +kernel
theorem dX1_init_9 : decode cX1_init 9 = .ok (.invokespecial 9, 3) := by decide +kernel
theorem dX1_init_12 : decode cX1_init 12 = .ok (.putfield 10, 3) := by decide +kernel
theorem dX1_init_15 : decode cX1_init 15 = .ok (.aload_n 0, 1) := by decide +kernel
theorem dX1_init_16 : decode cX1_init 16 = .ok (.iconst 0, 1) := by decide +kernel
theorem dX1_init_17 : decode cX1_init 17 = .ok (.putfield 16, 3) := by decide +kernel
theorem dX1_init_20 : decode cX1_init 20 = .ok (.aload_n 0, 1) := by decide +kernel
theorem dX1_init_21 : decode cX1_init 21 = .ok (.new 7, 3) := by decide +kernel
theorem dX1_init_24 : decode cX1_init 24 = .ok (.dup, 1) := by decide +kernel
theorem dX1_init_25 : decode cX1_init 25 = .ok (.invokespecial 9, 3) := by decide +kernel
theorem dX1_init_28 : decode cX1_init 28 = .ok (.putfield 20, 3) := by decide +kernel
theorem dX1_init_31 : decode cX1_init 31 = .ok (.aload_n 0, 1) := by decide +kernel
theorem dX1_init_32 : decode cX1_init 32 = .ok (.new 7, 3) := by decide +kernel
theorem dX1_init_35 : decode cX1_init 35 = .ok (.dup, 1) := by decide +kernel
theorem dX1_init_36 : decode cX1_init 36 = .ok (.invokespecial 9, 3) := by decide +kernel
theorem dX1_init_39 : decode cX1_init 39 = .ok (.putfield 23, 3) := by decide +kernel
theorem dX1_init_42 : decode cX1_init 42 = .ok (.aload_n 0, 1) := by decide +kernel
theorem dX1_init_43 : decode cX1_init 43 = .ok (.new 7, 3) := by decide +kernel
theorem dX1_init_46 : decode cX1_init 46 = .ok (.dup, 1) := by decide +kernel
theorem dX1_init_47 : decode cX1_init 47 = .ok (.invokespecial 9, 3) := by decide +kernel
theorem dX1_init_50 : decode cX1_init 50 = .ok (.putfield 26, 3) := by decide +kernel
theorem dX1_init_53 : decode cX1_init 53 = .ok (.return_, 1) := by decide +kernel
theorem dX1_moveTo_0 : decode cX1_moveTo 0 = .ok (.aload_n 0, 1) := by decide +kernel
theorem dX1_moveTo_1 : decode cX1_moveTo 1 = .ok (.getfield 10, 3) := by decide +kernel
theorem dX1_moveTo_4 : decode cX1_moveTo 4 = .ok (.lload_n 1, 1) := by decide +kernel
theorem dX1_moveTo_5 : decode cX1_moveTo 5 = .ok (.invokevirtual 29, 3) := by decide +kernel
theorem dX1_moveTo_8 : decode cX1_moveTo 8 = .ok (.aload_n 0, 1) := by decide +kernel
theorem dX1_moveTo_9 : decode cX1_moveTo 9 = .ok (.iload_n 3, 1) := by decide +kernel
theorem dX1_moveTo_10 : decode cX1_moveTo 10 = .ok (.putfield 16, 3) := by decide +kernel
theorem dX1_moveTo_13 : decode cX1_moveTo 13 = .ok (.return_, 1) := by decide +kernel
theorem dX1_taylor_0 : decode cX1_taylor 0 = .ok (.aload_n 0, 1) := by decide +kernel
theorem dX1_taylor_1 : decode cX1_taylor 1 = .ok (.getfield 20, 3) := by decide +kernel
theorem dX1_taylor_4 : decode cX1_taylor 4 = .ok (.lconst 0, 1) := by decide +kernel
theorem dX1_taylor_5 : decode cX1_taylor 5 = .ok (.invokevirtual 29, 3) := by decide +kernel
theorem dX1_taylor_8 : decode cX1_taylor 8 = .ok (.aload_n 1, 1) := by decide +kernel
theorem dX1_taylor_9 : decode cX1_taylor 9 = .ok (.getfield 33, 3) := by decide +kernel
theorem dX1_taylor_12 : decode cX1_taylor 12 = .ok (.istore_n 3, 1) := by decide +kernel
theorem dX1_taylor_13 : decode cX1_taylor 13 = .ok (.iload_n 3, 1) := by decide +kernel
theorem dX1_taylor_14 : decode cX1_taylor 14 = .ok (.iload_n 2, 1) := by decide +kernel
theorem dX1_taylor_15 : decode cX1_taylor 15 = .ok (.if_icmp .lt 94, 3) := by decide +kernel
theorem dX1_taylor_18 : decode cX1_taylor 18 = .ok (.iload_n 3, 1) := by decide +kernel
theorem dX1_taylor_19 : decode cX1_taylor 19 = .ok (.ifCond .lt 90, 3) := by decide +kernel
theorem dX1_taylor_22 : decode cX1_taylor 22 = .ok (.aload_n 0, 1) := by decide +kernel
theorem dX1_taylor_23 : decode cX1_taylor 23 = .ok (.getfield 20, 3) := by decide +kernel
theorem dX1_taylor_26 : decode cX1_taylor 26 = .ok (.aload_n 0, 1) := by decide +kernel
theorem dX1_taylor_27 : decode cX1_taylor 27 = .ok (.getfield 10, 3) := by decide +kernel
theorem dX1_taylor_30 : decode cX1_taylor 30 = .ok (.invokevirtual 38, 3) := by decide +kernel
theorem dX1_taylor_33 : decode cX1_taylor 33 = .ok (.aload_n 0, 1) := by decide +kernel
theorem dX1_taylor_34 : decode cX1_taylor 34 = .ok (.getfield 23, 3) := by decide +kernel
theorem dX1_taylor_37 : decode cX1_taylor 37 = .ok (.aload_n 1, 1) := by decide +kernel
theorem dX1_taylor_38 : decode cX1_taylor 38 = .ok (.getfield 42, 3) := by decide +kernel
theorem dX1_taylor_41 : decode cX1_taylor 41 = .ok (.iload_n 3, 1) := by decide +kernel
theorem dX1_taylor_42 : decode cX1_taylor 42 = .ok (.aaload, 1) := by decide +kernel
theorem dX1_taylor_43 : decode cX1_taylor 43 = .ok (.invokevirtual 46, 3) := by decide +kernel
theorem dX1_taylor_46 : decode cX1_taylor 46 = .ok (.iload_n 2, 1) := by decide +kernel
theorem dX1_taylor_47 : decode cX1_taylor 47 = .ok (.ifCond .le 26, 3) := by decide +kernel
theorem dX1_taylor_50 : decode cX1_taylor 50 = .ok (.aload_n 0, 1) := by decide +kernel
theorem dX1_taylor_51 : decode cX1_taylor 51 = .ok (.getfield 26, 3) := by decide +kernel
theorem dX1_taylor_54 : decode cX1_taylor 54 = .ok (.iload_n 3, 1) := by decide +kernel
theorem dX1_taylor_55 : decode cX1_taylor 55 = .ok (.iload_n 2, 1) := by decide +kernel
theorem dX1_taylor_56 : decode cX1_taylor 56 = .ok (.invokestatic 49, 3) := by decide +kernel
theorem dX1_taylor_59 : decode cX1_taylor 59 = .ok (.invokevirtual 29, 3) := by decide +kernel
theorem dX1_taylor_62 : decode cX1_taylor 62 = .ok (.aload_n 0, 1) := by decide +kernel
theorem dX1_taylor_63 : decode cX1_taylor 63 = .ok (.getfield 23, 3) := by decide +kernel
theorem dX1_taylor_66 : decode cX1_taylor 66 = .ok (.aload_n 0, 1) := by decide +kernel
theorem dX1_taylor_67 : decode cX1_taylor 67 = .ok (.getfield 26, 3) := by decide +kernel
theorem dX1_taylor_70 : decode cX1_taylor 70 = .ok (.invokevirtual 38, 3) := by decide +kernel
theorem dX1_taylor_73 : decode cX1_taylor 73 = .ok (.aload_n 0, 1) := by decide +kernel
theorem dX1_taylor_74 : decode cX1_taylor 74 = .ok (.getfield 23, 3) := by decide +kernel
theorem dX1_taylor_77 : decode cX1_taylor 77 = .ok (.aload_n 0, 1) := by decide +kernel
theorem dX1_taylor_78 : decode cX1_taylor 78 = .ok (.getfield 16, 3) := by decide +kernel
theorem dX1_taylor_81 : decode cX1_taylor 81 = .ok (.aload_n 1, 1) := by decide +kernel
theorem dX1_taylor_82 : decode cX1_taylor 82 = .ok (.getfield 33, 3) := by decide +kernel
theorem dX1_taylor_85 : decode cX1_taylor 85 = .ok (.iload_n 3, 1) := by decide +kernel
theorem dX1_taylor_86 : decode cX1_taylor 86 = .ok (.isub, 1) := by decide +kernel
theorem dX1_taylor_87 : decode cX1_taylor 87 = .ok (.imul, 1) := by decide +kernel
theorem dX1_taylor_88 : decode cX1_taylor 88 = .ok (.invokevirtual 53, 3) := by decide +kernel
theorem dX1_taylor_91 : decode cX1_taylor 91 = .ok (.aload_n 0, 1) := by decide +kernel
theorem dX1_taylor_92 : decode cX1_taylor 92 = .ok (.getfield 20, 3) := by decide +kernel
theorem dX1_taylor_95 : decode cX1_taylor 95 = .ok (.aload_n 0, 1) := by decide +kernel
theorem dX1_taylor_96 : decode cX1_taylor 96 = .ok (.getfield 23, 3) := by decide +kernel
theorem dX1_taylor_99 : decode cX1_taylor 99 = .ok (.iconst 1, 1) := by decide +kernel
theorem dX1_taylor_100 : decode cX1_taylor 100 = .ok (.invokevirtual 57, 3) := by decide +kernel
theorem dX1_taylor_103 : decode cX1_taylor 103 = .ok (.iinc 3 (-1), 3) := by decide +kernel
theorem dX1_taylor_106 : decode cX1_taylor 106 = .ok (.goto (-93), 3) := by decide +kernel
theorem dX1_taylor_109 : decode cX1_taylor 109 = .ok (.aload_n 0, 1) := by decide +kernel
theorem dX1_taylor_110 : decode cX1_taylor 110 = .ok (.getfield 20, 3) := by decide +kernel
theorem dX1_taylor_113 : decode cX1_taylor 113 = .ok (.areturn, 1) := by decide +kernel
theorem dX1_choose_0 : decode cX1_choose 0 = .ok (.lconst 1, 1) := by decide +kernel
theorem dX1_choose_1 : decode cX1_choose 1 = .ok (.lstore_n 2, 1) := by decide +kernel
theorem dX1_choose_2 : decode cX1_choose 2 = .ok (.iconst 0, 1) := by decide +kernel
theorem dX1_choose_3 : decode cX1_choose 3 = .ok (.istore 4, 2) := by decide +kernel
theorem dX1_choose_5 : decode cX1_choose 5 = .ok (.iload 4, 2) := by decide +kernel
theorem dX1_choose_7 : decode cX1_choose 7 = .ok (.iload_n 1, 1) := by decide +kernel
theorem dX1_choose_8 : decode cX1_choose 8 = .ok (.if_icmp .ge 23, 3) := by decide +kernel
theorem dX1_choose_11 : decode cX1_choose 11 = .ok (.lload_n 2, 1) := by decide +kernel
theorem dX1_choose_12 : decode cX1_choose 12 = .ok (.iload_n 0, 1) := by decide +kernel
theorem dX1_choose_13 : decode cX1_choose 13 = .ok (.iload 4, 2) := by decide +kernel
theorem dX1_choose_15 : decode cX1_choose 15 = .ok (.isub, 1) := by decide +kernel
theorem dX1_choose_16 : decode cX1_choose 16 = .ok (.i2l, 1) := by decide +kernel
theorem dX1_choose_17 : decode cX1_choose 17 = .ok (.lmul, 1) := by decide +kernel
theorem dX1_choose_18 : decode cX1_choose 18 = .ok (.iload 4, 2) := by decide +kernel
theorem dX1_choose_20 : decode cX1_choose 20 = .ok (.iconst 1, 1) := by decide +kernel
theorem dX1_choose_21 : decode cX1_choose 21 = .ok (.iadd, 1) := by decide +kernel
theorem dX1_choose_22 : decode cX1_choose 22 = .ok (.i2l, 1) := by decide +kernel
theorem dX1_choose_23 : decode cX1_choose 23 = .ok (.ldiv, 1) := by decide +kernel
theorem dX1_choose_24 : decode cX1_choose 24 = .ok (.lstore_n 2, 1) := by decide +kernel
theorem dX1_choose_25 : decode cX1_choose 25 = .ok (.iinc 4 1, 3) := by decide +kernel
theorem dX1_choose_28 : decode cX1_choose 28 = .ok (.goto (-23), 3) := by decide +kernel
theorem dX1_choose_31 : decode cX1_choose 31 = .ok (.lload_n 2, 1) := by decide +kernel
theorem dX1_choose_32 : decode cX1_choose 32 = .ok (.lreturn, 1) := by decide +kernel
theorem dX2_init_0 : decode cX2_init 0 = .ok (.aload_n 0, 1) := by decide +kernel
theorem dX2_init_1 : decode cX2_init 1 = .ok (.invokespecial 1, 3) := by decide +kernel
theorem dX2_init_4 : decode cX2_init 4 = .ok (.aload_n 0, 1) := by decide +kernel
theorem dX2_init_5 : decode cX2_init 5 = .ok (.iconst (-1), 1) := by decide +kernel
theorem dX2_init_6 : decode cX2_init 6 = .ok (.putfield 7, 3) := by decide +kernel
theorem dX2_init_9 : decode cX2_init 9 = .ok (.aload_n 0, 1) := by decide +kernel
theorem dX2_init_10 : decode cX2_init 10 = .ok (.iload_n 1, 1) := by decide +kernel
theorem dX2_init_11 : decode cX2_init 11 = .ok (.anewarray 13, 3) := by decide +kernel
theorem dX2_init_14 : decode cX2_init 14 = .ok (.putfield 15, 3) := by decide +kernel
theorem dX2_init_17 : decode cX2_init 17 = .ok (.iconst 0, 1) := by decide +kernel
theorem dX2_init_18 : decode cX2_init 18 = .ok (.istore_n 2, 1) := by decide +kernel
theorem dX2_init_19 : decode cX2_init 19 = .ok (.iload_n 2, 1) := by decide +kernel
theorem dX2_init_20 : decode cX2_init 20 = .ok (.iload_n 1, 1) := by decide +kernel
theorem dX2_init_21 : decode cX2_init 21 = .ok (.if_icmp .ge 22, 3) := by decide +kernel
theorem dX2_init_24 : decode cX2_init 24 = .ok (.aload_n 0, 1) := by decide +kernel
theorem dX2_init_25 : decode cX2_init 25 = .ok (.getfield 15, 3) := by decide +kernel
theorem dX2_init_28 : decode cX2_init 28 = .ok (.iload_n 2, 1) := by decide +kernel
theorem dX2_init_29 : decode cX2_init 29 = .ok (.new 13, 3) := by decide +kernel
theorem dX2_init_32 : decode cX2_init 32 = .ok (.dup, 1) := by decide +kernel
theorem dX2_init_33 : decode cX2_init 33 = .ok (.invokespecial 19, 3) := by decide +kernel
theorem dX2_init_36 : decode cX2_init 36 = .ok (.aastore, 1) := by decide +kernel
theorem dX2_init_37 : decode cX2_init 37 = .ok (.iinc 2 1, 3) := by decide +kernel
theorem dX2_init_40 : decode cX2_init 40 = .ok (.goto (-21), 3) := by decide +kernel
theorem dX2_init_43 : decode cX2_init 43 = .ok (.return_, 1) := by decide +kernel
theorem dX2_load_0 : decode cX2_load 0 = .ok (.aload_n 0, 1) := by decide +kernel
theorem dX2_load_1 : decode cX2_load 1 = .ok (.invokevirtual 20, 3) := by decide +kernel
theorem dX2_load_4 : decode cX2_load 4 = .ok (.iconst 0, 1) := by decide +kernel
theorem dX2_load_5 : decode cX2_load 5 = .ok (.istore_n 2, 1) := by decide +kernel
theorem dX2_load_6 : decode cX2_load 6 = .ok (.iload_n 2, 1) := by decide +kernel
theorem dX2_load_7 : decode cX2_load 7 = .ok (.aload_n 1, 1) := by decide +kernel
theorem dX2_load_8 : decode cX2_load 8 = .ok (.arraylength, 1) := by decide +kernel
theorem dX2_load_9 : decode cX2_load 9 = .ok (.if_icmp .ge 31, 3) := by decide +kernel
theorem dX2_load_12 : decode cX2_load 12 = .ok (.iload_n 2, 1) := by decide +kernel
theorem dX2_load_13 : decode cX2_load 13 = .ok (.aload_n 0, 1) := by decide +kernel
theorem dX2_load_14 : decode cX2_load 14 = .ok (.getfield 15, 3) := by decide +kernel
theorem dX2_load_17 : decode cX2_load 17 = .ok (.arraylength, 1) := by decide +kernel
theorem dX2_load_18 : decode cX2_load 18 = .ok (.if_icmp .ge 22, 3) := by decide +kernel
theorem dX2_load_21 : decode cX2_load 21 = .ok (.aload_n 0, 1) := by decide +kernel
theorem dX2_load_22 : decode cX2_load 22 = .ok (.getfield 15, 3) := by decide +kernel
theorem dX2_load_25 : decode cX2_load 25 = .ok (.iload_n 2, 1) := by decide +kernel
theorem dX2_load_26 : decode cX2_load 26 = .ok (.aaload, 1) := by decide +kernel
theorem dX2_load_27 : decode cX2_load 27 = .ok (.aload_n 1, 1) := by decide +kernel
theorem dX2_load_28 : decode cX2_load 28 = .ok (.iload_n 2, 1) := by decide +kernel
theorem dX2_load_29 : decode cX2_load 29 = .ok (.iaload, 1) := by decide +kernel
theorem dX2_load_30 : decode cX2_load 30 = .ok (.i2l, 1) := by decide +kernel
theorem dX2_load_31 : decode cX2_load 31 = .ok (.invokevirtual 23, 3) := by decide +kernel
theorem dX2_load_34 : decode cX2_load 34 = .ok (.iinc 2 1, 3) := by decide +kernel
theorem dX2_load_37 : decode cX2_load 37 = .ok (.goto (-31), 3) := by decide +kernel
theorem dX2_load_40 : decode cX2_load 40 = .ok (.aload_n 0, 1) := by decide +kernel
theorem dX2_load_41 : decode cX2_load 41 = .ok (.invokevirtual 27, 3) := by decide +kernel
theorem dX2_load_44 : decode cX2_load 44 = .ok (.return_, 1) := by decide +kernel
theorem dX2_clear_0 : decode cX2_clear 0 = .ok (.iconst 0, 1) := by decide +kernel
theorem dX2_clear_1 : decode cX2_clear 1 = .ok (.istore_n 1, 1) := by decide +kernel
theorem dX2_clear_2 : decode cX2_clear 2 = .ok (.iload_n 1, 1) := by decide +kernel
theorem dX2_clear_3 : decode cX2_clear 3 = .ok (.aload_n 0, 1) := by decide +kernel
theorem dX2_clear_4 : decode cX2_clear 4 = .ok (.getfield 15, 3) := by decide +kernel
theorem dX2_clear_7 : decode cX2_clear 7 = .ok (.arraylength, 1) := by decide +kernel
theorem dX2_clear_8 : decode cX2_clear 8 = .ok (.if_icmp .ge 19, 3) := by decide +kernel
theorem dX2_clear_11 : decode cX2_clear 11 = .ok (.aload_n 0, 1) := by decide +kernel
theorem dX2_clear_12 : decode cX2_clear 12 = .ok (.getfield 15, 3) := by decide +kernel
theorem dX2_clear_15 : decode cX2_clear 15 = .ok (.iload_n 1, 1) := by decide +kernel
theorem dX2_clear_16 : decode cX2_clear 16 = .ok (.aaload, 1) := by decide +kernel
theorem dX2_clear_17 : decode cX2_clear 17 = .ok (.lconst 0, 1) := by decide +kernel
theorem dX2_clear_18 : decode cX2_clear 18 = .ok (.invokevirtual 23, 3) := by decide +kernel
theorem dX2_clear_21 : decode cX2_clear 21 = .ok (.iinc 1 1, 3) := by decide +kernel
theorem dX2_clear_24 : decode cX2_clear 24 = .ok (.goto (-22), 3) := by decide +kernel
theorem dX2_clear_27 : decode cX2_clear 27 = .ok (.aload_n 0, 1) := by decide +kernel
theorem dX2_clear_28 : decode cX2_clear 28 = .ok (.iconst (-1), 1) := by decide +kernel
theorem dX2_clear_29 : decode cX2_clear 29 = .ok (.putfield 7, 3) := by decide +kernel
theorem dX2_clear_32 : decode cX2_clear 32 = .ok (.return_, 1) := by decide +kernel
theorem dX2_copy_0 : decode cX2_copy 0 = .ok (.aload_n 0, 1) := by decide +kernel
theorem dX2_copy_1 : decode cX2_copy 1 = .ok (.invokevirtual 20, 3) := by decide +kernel
theorem dX2_copy_4 : decode cX2_copy 4 = .ok (.iconst 0, 1) := by decide +kernel
theorem dX2_copy_5 : decode cX2_copy 5 = .ok (.istore_n 2, 1) := by decide +kernel
theorem dX2_copy_6 : decode cX2_copy 6 = .ok (.iload_n 2, 1) := by decide +kernel
theorem dX2_copy_7 : decode cX2_copy 7 = .ok (.aload_n 1, 1) := by decide +kernel
theorem dX2_copy_8 : decode cX2_copy 8 = .ok (.getfield 7, 3) := by decide +kernel
theorem dX2_copy_11 : decode cX2_copy 11 = .ok (.if_icmp .gt 33, 3) := by decide +kernel
theorem dX2_copy_14 : decode cX2_copy 14 = .ok (.iload_n 2, 1) := by decide +kernel
theorem dX2_copy_15 : decode cX2_copy 15 = .ok (.aload_n 0, 1) := by decide +kernel
theorem dX2_copy_16 : decode cX2_copy 16 = .ok (.getfield 15, 3) := by decide +kernel
theorem dX2_copy_19 : decode cX2_copy 19 = .ok (.arraylength, 1) := by decide +kernel
theorem dX2_copy_20 : decode cX2_copy 20 = .ok (.if_icmp .ge 24, 3) := by decide +kernel
theorem dX2_copy_23 : decode cX2_copy 23 = .ok (.aload_n 0, 1) := by decide +kernel
theorem dX2_copy_24 : decode cX2_copy 24 = .ok (.getfield 15, 3) := by decide +kernel
theorem dX2_copy_27 : decode cX2_copy 27 = .ok (.iload_n 2, 1) := by decide +kernel
theorem dX2_copy_28 : decode cX2_copy 28 = .ok (.aaload, 1) := by decide +kernel
theorem dX2_copy_29 : decode cX2_copy 29 = .ok (.aload_n 1, 1) := by decide +kernel
theorem dX2_copy_30 : decode cX2_copy 30 = .ok (.getfield 15, 3) := by decide +kernel
theorem dX2_copy_33 : decode cX2_copy 33 = .ok (.iload_n 2, 1) := by decide +kernel
theorem dX2_copy_34 : decode cX2_copy 34 = .ok (.aaload, 1) := by decide +kernel
theorem dX2_copy_35 : decode cX2_copy 35 = .ok (.invokevirtual 30, 3) := by decide +kernel
theorem dX2_copy_38 : decode cX2_copy 38 = .ok (.iinc 2 1, 3) := by decide +kernel
theorem dX2_copy_41 : decode cX2_copy 41 = .ok (.goto (-35), 3) := by decide +kernel
theorem dX2_copy_44 : decode cX2_copy 44 = .ok (.aload_n 0, 1) := by decide +kernel
theorem dX2_copy_45 : decode cX2_copy 45 = .ok (.invokevirtual 27, 3) := by decide +kernel
theorem dX2_copy_48 : decode cX2_copy 48 = .ok (.return_, 1) := by decide +kernel
theorem dX2_loadDerivative_0 : decode cX2_loadDerivative 0 = .ok (.aload_n 0, 1) := by decide +kernel
theorem dX2_loadDerivative_1 : decode cX2_loadDerivative 1 = .ok (.invokevirtual 20, 3) := by decide +kernel
theorem dX2_loadDerivative_4 : decode cX2_loadDerivative 4 = .ok (.iconst 1, 1) := by decide +kernel
theorem dX2_loadDerivative_5 : decode cX2_loadDerivative 5 = .ok (.istore_n 3, 1) := by decide +kernel
theorem dX2_loadDerivative_6 : decode cX2_loadDerivative 6 = .ok (.iload_n 3, 1) := by decide +kernel
theorem dX2_loadDerivative_7 : decode cX2_loadDerivative 7 = .ok (.aload_n 1, 1) := by decide +kernel
theorem dX2_loadDerivative_8 : decode cX2_loadDerivative 8 = .ok (.getfield 7, 3) := by decide +kernel
theorem dX2_loadDerivative_11 : decode cX2_loadDerivative 11 = .ok (.if_icmp .gt 53, 3) := by decide +kernel
theorem dX2_loadDerivative_14 : decode cX2_loadDerivative 14 = .ok (.iload_n 3, 1) := by decide +kernel
theorem dX2_loadDerivative_15 : decode cX2_loadDerivative 15 = .ok (.aload_n 0, 1) := by decide +kernel
theorem dX2_loadDerivative_16 : decode cX2_loadDerivative 16 = .ok (.getfield 15, 3) := by decide +kernel
theorem dX2_loadDerivative_19 : decode cX2_loadDerivative 19 = .ok (.arraylength, 1) := by decide +kernel
theorem dX2_loadDerivative_20 : decode cX2_loadDerivative 20 = .ok (.if_icmp .gt 44, 3) := by decide +kernel
theorem dX2_loadDerivative_23 : decode cX2_loadDerivative 23 = .ok (.aload_n 2, 1) := by decide +kernel
theorem dX2_loadDerivative_24 : decode cX2_loadDerivative 24 = .ok (.iload_n 3, 1) := by decide +kernel
theorem dX2_loadDerivative_25 : decode cX2_loadDerivative 25 = .ok (.i2l, 1) := by decide +kernel
theorem dX2_loadDerivative_26 : decode cX2_loadDerivative 26 = .ok (.invokevirtual 23, 3) := by decide +kernel
theorem dX2_loadDerivative_29 : decode cX2_loadDerivative 29 = .ok (.aload_n 0, 1) := by decide +kernel
theorem dX2_loadDerivative_30 : decode cX2_loadDerivative 30 = .ok (.getfield 15, 3) := by decide +kernel
theorem dX2_loadDerivative_33 : decode cX2_loadDerivative 33 = .ok (.iload_n 3, 1) := by decide +kernel
theorem dX2_loadDerivative_34 : decode cX2_loadDerivative 34 = .ok (.iconst 1, 1) := by decide +kernel
theorem dX2_loadDerivative_35 : decode cX2_loadDerivative 35 = .ok (.isub, 1) := by decide +kernel
theorem dX2_loadDerivative_36 : decode cX2_loadDerivative 36 = .ok (.aaload, 1) := by decide +kernel
theorem dX2_loadDerivative_37 : decode cX2_loadDerivative 37 = .ok (.aload_n 1, 1) := by decide +kernel
theorem dX2_loadDerivative_38 : decode cX2_loadDerivative 38 = .ok (.getfield 15, 3) := by decide +kernel
theorem dX2_loadDerivative_41 : decode cX2_loadDerivative 41 = .ok (.iload_n 3, 1) := by decide +kernel
theorem dX2_loadDerivative_42 : decode cX2_loadDerivative 42 = .ok (.aaload, 1) := by decide +kernel
theorem dX2_loadDerivative_43 : decode cX2_loadDerivative 43 = .ok (.invokevirtual 30, 3) := by decide +kernel
theorem dX2_loadDerivative_46 : decode cX2_loadDerivative 46 = .ok (.aload_n 0, 1) := by decide +kernel
theorem dX2_loadDerivative_47 : decode cX2_loadDerivative 47 = .ok (.getfield 15, 3) := by decide +kernel
theorem dX2_loadDerivative_50 : decode cX2_loadDerivative 50 = .ok (.iload_n 3, 1) := by decide +kernel
theorem dX2_loadDerivative_51 : decode cX2_loadDerivative 51 = .ok (.iconst 1, 1) := by decide +kernel
theorem dX2_loadDerivative_52 : decode cX2_loadDerivative 52 = .ok (.isub, 1) := by decide +kernel
theorem dX2_loadDerivative_53 : decode cX2_loadDerivative 53 = .ok (.aaload, 1) := by decide +kernel
theorem dX2_loadDerivative_54 : decode cX2_loadDerivative 54 = .ok (.aload_n 2, 1) := by decide +kernel
theorem dX2_loadDerivative_55 : decode cX2_loadDerivative 55 = .ok (.invokevirtual 34, 3) := by decide +kernel
theorem dX2_loadDerivative_58 : decode cX2_loadDerivative 58 = .ok (.iinc 3 1, 3) := by decide +kernel
theorem dX2_loadDerivative_61 : decode cX2_loadDerivative 61 = .ok (.goto (-55), 3) := by decide +kernel
theorem dX2_loadDerivative_64 : decode cX2_loadDerivative 64 = .ok (.aload_n 0, 1) := by decide +kernel
theorem dX2_loadDerivative_65 : decode cX2_loadDerivative 65 = .ok (.invokevirtual 27, 3) := by decide +kernel
theorem dX2_loadDerivative_68 : decode cX2_loadDerivative 68 = .ok (.return_, 1) := by decide +kernel
theorem dX2_findTop_0 : decode cX2_findTop 0 = .ok (.aload_n 0, 1) := by decide +kernel
theorem dX2_findTop_1 : decode cX2_findTop 1 = .ok (.aload_n 0, 1) := by decide +kernel
theorem dX2_findTop_2 : decode cX2_findTop 2 = .ok (.getfield 15, 3) := by decide +kernel
theorem dX2_findTop_5 : decode cX2_findTop 5 = .ok (.arraylength, 1) := by decide +kernel
theorem dX2_findTop_6 : decode cX2_findTop 6 = .ok (.iconst 1, 1) := by decide +kernel
theorem dX2_findTop_7 : decode cX2_findTop 7 = .ok (.isub, 1) := by decide +kernel
theorem dX2_findTop_8 : decode cX2_findTop 8 = .ok (.putfield 7, 3) := by decide +kernel
theorem dX2_findTop_11 : decode cX2_findTop 11 = .ok (.aload_n 0, 1) := by decide +kernel
theorem dX2_findTop_12 : decode cX2_findTop 12 = .ok (.getfield 7, 3) := by decide +kernel
theorem dX2_findTop_15 : decode cX2_findTop 15 = .ok (.ifCond .lt 31, 3) := by decide +kernel
theorem dX2_findTop_18 : decode cX2_findTop 18 = .ok (.aload_n 0, 1) := by decide +kernel
theorem dX2_findTop_19 : decode cX2_findTop 19 = .ok (.getfield 15, 3) := by decide +kernel
theorem dX2_findTop_22 : decode cX2_findTop 22 = .ok (.aload_n 0, 1) := by decide +kernel
theorem dX2_findTop_23 : decode cX2_findTop 23 = .ok (.getfield 7, 3) := by decide +kernel
theorem dX2_findTop_26 : decode cX2_findTop 26 = .ok (.aaload, 1) := by decide +kernel
theorem dX2_findTop_27 : decode cX2_findTop 27 = .ok (.getfield 37, 3) := by decide +kernel
theorem dX2_findTop_30 : decode cX2_findTop 30 = .ok (.ifCond .ne 16, 3) := by decide +kernel
theorem dX2_findTop_33 : decode cX2_findTop 33 = .ok (.aload_n 0, 1) := by decide +kernel
theorem dX2_findTop_34 : decode cX2_findTop 34 = .ok (.dup, 1) := by decide +kernel
theorem dX2_findTop_35 : decode cX2_findTop 35 = .ok (.getfield 7, 3) := by decide +kernel
theorem dX2_findTop_38 : decode cX2_findTop 38 = .ok (.iconst 1, 1) := by decide +kernel
theorem dX2_findTop_39 : decode cX2_findTop 39 = .ok (.isub, 1) := by decide +kernel
theorem dX2_findTop_40 : decode cX2_findTop 40 = .ok (.putfield 7, 3) := by decide +kernel
theorem dX2_findTop_43 : decode cX2_findTop 43 = .ok (.goto (-32), 3) := by decide +kernel
theorem dX2_findTop_46 : decode cX2_findTop 46 = .ok (.return_, 1) := by decide +kernel
theorem dJ9_abs_0f7a4_0 : decode cJ9_abs_0f7a4 0 = .ok (.iload_n 0, 1) := by decide +kernel
theorem dJ9_abs_0f7a4_1 : decode cJ9_abs_0f7a4 1 = .ok (.ifCond .ge 8, 3) := by decide +kernel
theorem dJ9_abs_0f7a4_4 : decode cJ9_abs_0f7a4 4 = .ok (.iload_n 0, 1) := by decide +kernel
theorem dJ9_abs_0f7a4_5 : decode cJ9_abs_0f7a4 5 = .ok (.ineg, 1) := by decide +kernel
theorem dJ9_abs_0f7a4_6 : decode cJ9_abs_0f7a4 6 = .ok (.goto 4, 3) := by decide +kernel
theorem dJ9_abs_0f7a4_9 : decode cJ9_abs_0f7a4 9 = .ok (.iload_n 0, 1) := by decide +kernel
theorem dJ9_abs_0f7a4_10 : decode cJ9_abs_0f7a4 10 = .ok (.ireturn, 1) := by decide +kernel
theorem dJ9_max_f86c9_0 : decode cJ9_max_f86c9 0 = .ok (.lload_n 0, 1) := by decide +kernel
theorem dJ9_max_f86c9_1 : decode cJ9_max_f86c9 1 = .ok (.lload_n 2, 1) := by decide +kernel
theorem dJ9_max_f86c9_2 : decode cJ9_max_f86c9 2 = .ok (.lcmp, 1) := by decide +kernel
theorem dJ9_max_f86c9_3 : decode cJ9_max_f86c9 3 = .ok (.ifCond .lt 7, 3) := by decide +kernel
theorem dJ9_max_f86c9_6 : decode cJ9_max_f86c9 6 = .ok (.lload_n 0, 1) := by decide +kernel
theorem dJ9_max_f86c9_7 : decode cJ9_max_f86c9 7 = .ok (.goto 4, 3) := by decide +kernel
theorem dJ9_max_f86c9_10 : decode cJ9_max_f86c9 10 = .ok (.lload_n 2, 1) := by decide +kernel
theorem dJ9_max_f86c9_11 : decode cJ9_max_f86c9 11 = .ok (.lreturn, 1) := by decide +kernel
theorem dJ9_min_7cf53_0 : decode cJ9_min_7cf53 0 = .ok (.iload_n 0, 1) := by decide +kernel
theorem dJ9_min_7cf53_1 : decode cJ9_min_7cf53 1 = .ok (.iload_n 1, 1) := by decide +kernel
theorem dJ9_min_7cf53_2 : decode cJ9_min_7cf53 2 = .ok (.if_icmp .gt 7, 3) := by decide +kernel
theorem dJ9_min_7cf53_5 : decode cJ9_min_7cf53 5 = .ok (.iload_n 0, 1) := by decide +kernel
theorem dJ9_min_7cf53_6 : decode cJ9_min_7cf53 6 = .ok (.goto 4, 3) := by decide +kernel
theorem dJ9_min_7cf53_9 : decode cJ9_min_7cf53 9 = .ok (.iload_n 1, 1) := by decide +kernel
theorem dJ9_min_7cf53_10 : decode cJ9_min_7cf53 10 = .ok (.ireturn, 1) := by decide +kernel
theorem dJ9_min_f86c9_0 : decode cJ9_min_f86c9 0 = .ok (.lload_n 0, 1) := by decide +kernel
theorem dJ9_min_f86c9_1 : decode cJ9_min_f86c9 1 = .ok (.lload_n 2, 1) := by decide +kernel
theorem dJ9_min_f86c9_2 : decode cJ9_min_f86c9 2 = .ok (.lcmp, 1) := by decide +kernel
theorem dJ9_min_f86c9_3 : decode cJ9_min_f86c9 3 = .ok (.ifCond .gt 7, 3) := by decide +kernel
theorem dJ9_min_f86c9_6 : decode cJ9_min_f86c9 6 = .ok (.lload_n 0, 1) := by decide +kernel
theorem dJ9_min_f86c9_7 : decode cJ9_min_f86c9 7 = .ok (.goto 4, 3) := by decide +kernel
theorem dJ9_min_f86c9_10 : decode cJ9_min_f86c9 10 = .ok (.lload_n 2, 1) := by decide +kernel
theorem dJ9_min_f86c9_11 : decode cJ9_min_f86c9 11 = .ok (.lreturn, 1) := by decide +kernel
