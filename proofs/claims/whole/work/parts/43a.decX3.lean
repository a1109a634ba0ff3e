theorem dX3_init_0 : decode cX3_init 0 = .ok (.aload_n 0, 1) := by decide +kernel
theorem dX3_init_1 : decode cX3_init 1 = .ok (.invokespecial 3, 3) := by decide +kernel
theorem dX3_init_4 : decode cX3_init 4 = .ok (.aload_n 0, 1) := by decide +kernel
theorem dX3_init_5 : decode cX3_init 5 = .ok (.iconst 4, 1) := by decide +kernel
theorem dX3_init_6 : decode cX3_init 6 = .ok (.newarray .int, 2) := by decide +kernel
theorem dX3_init_8 : decode cX3_init 8 = .ok (.putfield 9, 3) := by decide +kernel
theorem dX3_init_11 : decode cX3_init 11 = .ok (.aload_n 0, 1) := by decide +kernel
theorem dX3_init_12 : decode cX3_init 12 = .ok (.iconst 0, 1) := by decide +kernel
theorem dX3_init_13 : decode cX3_init 13 = .ok (.putfield 13, 3) := by decide +kernel
theorem dX3_init_16 : decode cX3_init 16 = .ok (.aload_n 0, 1) := by decide +kernel
theorem dX3_init_17 : decode cX3_init 17 = .ok (.iconst 0, 1) := by decide +kernel
theorem dX3_init_18 : decode cX3_init 18 = .ok (.putfield 17, 3) := by decide +kernel
theorem dX3_init_21 : decode cX3_init 21 = .ok (.return_, 1) := by decide +kernel
theorem dX3_put_0 : decode cX3_put 0 = .ok (.aload_n 0, 1) := by decide +kernel
theorem dX3_put_1 : decode cX3_put 1 = .ok (.lload_n 1, 1) := by decide +kernel
theorem dX3_put_2 : decode cX3_put 2 = .ok (.lconst 0, 1) := by decide +kernel
theorem dX3_put_3 : decode cX3_put 3 = .ok (.lcmp, 1) := by decide +kernel
theorem dX3_put_4 : decode cX3_put 4 = .ok (.ifCond .le 7, 3) := by decide +kernel
theorem dX3_put_7 : decode cX3_put 7 = .ok (.iconst 1, 1) := by decide +kernel
theorem dX3_put_8 : decode cX3_put 8 = .ok (.goto 14, 3) := by decide +kernel
theorem dX3_put_11 : decode cX3_put 11 = .ok (.lload_n 1, 1) := by decide +kernel
theorem dX3_put_12 : decode cX3_put 12 = .ok (.lconst 0, 1) := by decide +kernel
theorem dX3_put_13 : decode cX3_put 13 = .ok (.lcmp, 1) := by decide +kernel
theorem dX3_put_14 : decode cX3_put 14 = .ok (.ifCond .ge 7, 3) := by decide +kernel
theorem dX3_put_17 : decode cX3_put 17 = .ok (.iconst (-1), 1) := by decide +kernel
theorem dX3_put_18 : decode cX3_put 18 = .ok (.goto 4, 3) := by decide +kernel
theorem dX3_put_21 : decode cX3_put 21 = .ok (.iconst 0, 1) := by decide +kernel
theorem dX3_put_22 : decode cX3_put 22 = .ok (.putfield 17, 3) := by decide +kernel
theorem dX3_put_25 : decode cX3_put 25 = .ok (.lload_n 1, 1) := by decide +kernel
theorem dX3_put_26 : decode cX3_put 26 = .ok (.lconst 0, 1) := by decide +kernel
theorem dX3_put_27 : decode cX3_put 27 = .ok (.lcmp, 1) := by decide +kernel
theorem dX3_put_28 : decode cX3_put 28 = .ok (.ifCond .ge 8, 3) := by decide +kernel
theorem dX3_put_31 : decode cX3_put 31 = .ok (.lload_n 1, 1) := by decide +kernel
theorem dX3_put_32 : decode cX3_put 32 = .ok (.lneg, 1) := by decide +kernel
theorem dX3_put_33 : decode cX3_put 33 = .ok (.goto 4, 3) := by decide +kernel
theorem dX3_put_36 : decode cX3_put 36 = .ok (.lload_n 1, 1) := by decide +kernel
theorem dX3_put_37 : decode cX3_put 37 = .ok (.lstore_n 3, 1) := by decide +kernel
theorem dX3_put_38 : decode cX3_put 38 = .ok (.aload_n 0, 1) := by decide +kernel
theorem dX3_put_39 : decode cX3_put 39 = .ok (.iconst 0, 1) := by decide +kernel
theorem dX3_put_40 : decode cX3_put 40 = .ok (.putfield 13, 3) := by decide +kernel
theorem dX3_put_43 : decode cX3_put 43 = .ok (.iconst 0, 1) := by decide +kernel
theorem dX3_put_44 : decode cX3_put 44 = .ok (.istore 5, 2) := by decide +kernel
theorem dX3_put_46 : decode cX3_put 46 = .ok (.lload_n 3, 1) := by decide +kernel
theorem dX3_put_47 : decode cX3_put 47 = .ok (.lconst 0, 1) := by decide +kernel
theorem dX3_put_48 : decode cX3_put 48 = .ok (.lcmp, 1) := by decide +kernel
theorem dX3_put_49 : decode cX3_put 49 = .ok (.ifCond .eq 45, 3) := by decide +kernel
theorem dX3_put_52 : decode cX3_put 52 = .ok (.iload 5, 2) := by decide +kernel
theorem dX3_put_54 : decode cX3_put 54 = .ok (.aload_n 0, 1) := by decide +kernel
theorem dX3_put_55 : decode cX3_put 55 = .ok (.getfield 9, 3) := by decide +kernel
theorem dX3_put_58 : decode cX3_put 58 = .ok (.arraylength, 1) := by decide +kernel
theorem dX3_put_59 : decode cX3_put 59 = .ok (.if_icmp .ge 35, 3) := by decide +kernel
theorem dX3_put_62 : decode cX3_put 62 = .ok (.aload_n 0, 1) := by decide +kernel
theorem dX3_put_63 : decode cX3_put 63 = .ok (.getfield 9, 3) := by decide +kernel
theorem dX3_put_66 : decode cX3_put 66 = .ok (.iload 5, 2) := by decide +kernel
theorem dX3_put_68 : decode cX3_put 68 = .ok (.lload_n 3, 1) := by decide +kernel
theorem dX3_put_69 : decode cX3_put 69 = .ok (.ldc2_w 20, 3) := by decide +kernel
theorem dX3_put_72 : decode cX3_put 72 = .ok (.land, 1) := by decide +kernel
theorem dX3_put_73 : decode cX3_put 73 = .ok (.l2i, 1) := by decide +kernel
theorem dX3_put_74 : decode cX3_put 74 = .ok (.iastore, 1) := by decide +kernel
theorem dX3_put_75 : decode cX3_put 75 = .ok (.lload_n 3, 1) := by decide +kernel
theorem dX3_put_76 : decode cX3_put 76 = .ok (.bipush 30, 2) := by decide +kernel
theorem dX3_put_78 : decode cX3_put 78 = .ok (.lushr, 1) := by decide +kernel
theorem dX3_put_79 : decode cX3_put 79 = .ok (.lstore_n 3, 1) := by decide +kernel
theorem dX3_put_80 : decode cX3_put 80 = .ok (.aload_n 0, 1) := by decide +kernel
theorem dX3_put_81 : decode cX3_put 81 = .ok (.iload 5, 2) := by decide +kernel
theorem dX3_put_83 : decode cX3_put 83 = .ok (.iconst 1, 1) := by decide +kernel
theorem dX3_put_84 : decode cX3_put 84 = .ok (.iadd, 1) := by decide +kernel
theorem dX3_put_85 : decode cX3_put 85 = .ok (.putfield 13, 3) := by decide +kernel
theorem dX3_put_88 : decode cX3_put 88 = .ok (.iinc 5 1, 3) := by decide +kernel
theorem dX3_put_91 : decode cX3_put 91 = .ok (.goto (-45), 3) := by decide +kernel
theorem dX3_put_94 : decode cX3_put 94 = .ok (.return_, 1) := by decide +kernel
theorem dX3_copy_0 : decode cX3_copy 0 = .ok (.aload_n 0, 1) := by decide +kernel
theorem dX3_copy_1 : decode cX3_copy 1 = .ok (.aload_n 1, 1) := by decide +kernel
theorem dX3_copy_2 : decode cX3_copy 2 = .ok (.getfield 13, 3) := by decide +kernel
theorem dX3_copy_5 : decode cX3_copy 5 = .ok (.invokevirtual 22, 3) := by decide +kernel
theorem dX3_copy_8 : decode cX3_copy 8 = .ok (.aload_n 1, 1) := by decide +kernel
theorem dX3_copy_9 : decode cX3_copy 9 = .ok (.getfield 9, 3) := by decide +kernel
theorem dX3_copy_12 : decode cX3_copy 12 = .ok (.iconst 0, 1) := by decide +kernel
theorem dX3_copy_13 : decode cX3_copy 13 = .ok (.aload_n 0, 1) := by decide +kernel
theorem dX3_copy_14 : decode cX3_copy 14 = .ok (.getfield 9, 3) := by decide +kernel
theorem dX3_copy_17 : decode cX3_copy 17 = .ok (.iconst 0, 1) := by decide +kernel
theorem dX3_copy_18 : decode cX3_copy 18 = .ok (.aload_n 1, 1) := by decide +kernel
theorem dX3_copy_19 : decode cX3_copy 19 = .ok (.getfield 13, 3) := by decide +kernel
theorem dX3_copy_22 : decode cX3_copy 22 = .ok (.invokestatic 26, 3) := by decide +kernel
theorem dX3_copy_25 : decode cX3_copy 25 = .ok (.aload_n 0, 1) := by decide +kernel
theorem dX3_copy_26 : decode cX3_copy 26 = .ok (.aload_n 1, 1) := by decide +kernel
theorem dX3_copy_27 : decode cX3_copy 27 = .ok (.getfield 13, 3) := by decide +kernel
theorem dX3_copy_30 : decode cX3_copy 30 = .ok (.putfield 13, 3) := by decide +kernel
theorem dX3_copy_33 : decode cX3_copy 33 = .ok (.aload_n 0, 1) := by decide +kernel
theorem dX3_copy_34 : decode cX3_copy 34 = .ok (.aload_n 1, 1) := by decide +kernel
theorem dX3_copy_35 : decode cX3_copy 35 = .ok (.getfield 17, 3) := by decide +kernel
theorem dX3_copy_38 : decode cX3_copy 38 = .ok (.putfield 17, 3) := by decide +kernel
theorem dX3_copy_41 : decode cX3_copy 41 = .ok (.return_, 1) := by decide +kernel
theorem dX3_negate_0 : decode cX3_negate 0 = .ok (.aload_n 0, 1) := by decide +kernel
theorem dX3_negate_1 : decode cX3_negate 1 = .ok (.aload_n 0, 1) := by decide +kernel
theorem dX3_negate_2 : decode cX3_negate 2 = .ok (.getfield 17, 3) := by decide +kernel
theorem dX3_negate_5 : decode cX3_negate 5 = .ok (.ineg, 1) := by decide +kernel
theorem dX3_negate_6 : decode cX3_negate 6 = .ok (.putfield 17, 3) := by decide +kernel
theorem dX3_negate_9 : decode cX3_negate 9 = .ok (.return_, 1) := by decide +kernel
theorem dX3_dropSign_0 : decode cX3_dropSign 0 = .ok (.aload_n 0, 1) := by decide +kernel
theorem dX3_dropSign_1 : decode cX3_dropSign 1 = .ok (.aload_n 0, 1) := by decide +kernel
theorem dX3_dropSign_2 : decode cX3_dropSign 2 = .ok (.getfield 17, 3) := by decide +kernel
theorem dX3_dropSign_5 : decode cX3_dropSign 5 = .ok (.ifCond .ne 7, 3) := by decide +kernel
theorem dX3_dropSign_8 : decode cX3_dropSign 8 = .ok (.iconst 0, 1) := by decide +kernel
theorem dX3_dropSign_9 : decode cX3_dropSign 9 = .ok (.goto 4, 3) := by decide +kernel
theorem dX3_dropSign_12 : decode cX3_dropSign 12 = .ok (.iconst 1, 1) := by decide +kernel
theorem dX3_dropSign_13 : decode cX3_dropSign 13 = .ok (.putfield 17, 3) := by decide +kernel
theorem dX3_dropSign_16 : decode cX3_dropSign 16 = .ok (.return_, 1) := by decide +kernel
theorem dX3_isShort_0 : decode cX3_isShort 0 = .ok (.aload_n 0, 1) := by decide +kernel
theorem dX3_isShort_1 : decode cX3_isShort 1 = .ok (.getfield 13, 3) := by decide +kernel
theorem dX3_isShort_4 : decode cX3_isShort 4 = .ok (.iconst 1, 1) := by decide +kernel
theorem dX3_isShort_5 : decode cX3_isShort 5 = .ok (.if_icmp .gt 7, 3) := by decide +kernel
theorem dX3_isShort_8 : decode cX3_isShort 8 = .ok (.iconst 1, 1) := by decide +kernel
theorem dX3_isShort_9 : decode cX3_isShort 9 = .ok (.goto 4, 3) := by decide +kernel
theorem dX3_isShort_12 : decode cX3_isShort 12 = .ok (.iconst 0, 1) := by decide +kernel
theorem dX3_isShort_13 : decode cX3_isShort 13 = .ok (.ireturn, 1) := by decide +kernel
theorem dX3_lowPart_0 : decode cX3_lowPart 0 = .ok (.aload_n 0, 1) := by decide +kernel
theorem dX3_lowPart_1 : decode cX3_lowPart 1 = .ok (.getfield 13, 3) := by decide +kernel
theorem dX3_lowPart_4 : decode cX3_lowPart 4 = .ok (.ifCond .ne 7, 3) := by decide +kernel
theorem dX3_lowPart_7 : decode cX3_lowPart 7 = .ok (.iconst 0, 1) := by decide +kernel
theorem dX3_lowPart_8 : decode cX3_lowPart 8 = .ok (.goto 14, 3) := by decide +kernel
theorem dX3_lowPart_11 : decode cX3_lowPart 11 = .ok (.aload_n 0, 1) := by decide +kernel
theorem dX3_lowPart_12 : decode cX3_lowPart 12 = .ok (.getfield 17, 3) := by decide +kernel
theorem dX3_lowPart_15 : decode cX3_lowPart 15 = .ok (.aload_n 0, 1) := by decide +kernel
theorem dX3_lowPart_16 : decode cX3_lowPart 16 = .ok (.getfield 9, 3) := by decide +kernel
theorem dX3_lowPart_19 : decode cX3_lowPart 19 = .ok (.iconst 0, 1) := by decide +kernel
theorem dX3_lowPart_20 : decode cX3_lowPart 20 = .ok (.iaload, 1) := by decide +kernel
theorem dX3_lowPart_21 : decode cX3_lowPart 21 = .ok (.imul, 1) := by decide +kernel
theorem dX3_lowPart_22 : decode cX3_lowPart 22 = .ok (.ireturn, 1) := by decide +kernel
theorem dX3_makeRoom_0 : decode cX3_makeRoom 0 = .ok (.iload_n 1, 1) := by decide +kernel
theorem dX3_makeRoom_1 : decode cX3_makeRoom 1 = .ok (.aload_n 0, 1) := by decide +kernel
theorem dX3_makeRoom_2 : decode cX3_makeRoom 2 = .ok (.getfield 9, 3) := by decide +kernel
theorem dX3_makeRoom_5 : decode cX3_makeRoom 5 = .ok (.arraylength, 1) := by decide +kernel
theorem dX3_makeRoom_6 : decode cX3_makeRoom 6 = .ok (.if_icmp .gt 4, 3) := by decide +kernel
theorem dX3_makeRoom_9 : decode cX3_makeRoom 9 = .ok (.return_, 1) := by decide +kernel
theorem dX3_makeRoom_10 : decode cX3_makeRoom 10 = .ok (.iload_n 1, 1) := by decide +kernel
theorem dX3_makeRoom_11 : decode cX3_makeRoom 11 = .ok (.iconst 2, 1) := by decide +kernel
theorem dX3_makeRoom_12 : decode cX3_makeRoom 12 = .ok (.aload_n 0, 1) := by decide +kernel
theorem dX3_makeRoom_13 : decode cX3_makeRoom 13 = .ok (.getfield 9, 3) := by decide +kernel
theorem dX3_makeRoom_16 : decode cX3_makeRoom 16 = .ok (.arraylength, 1) := by decide +kernel
theorem dX3_makeRoom_17 : decode cX3_makeRoom 17 = .ok (.imul, 1) := by decide +kernel
theorem dX3_makeRoom_18 : decode cX3_makeRoom 18 = .ok (.if_icmp .le 7, 3) := by decide +kernel
theorem dX3_makeRoom_21 : decode cX3_makeRoom 21 = .ok (.iload_n 1, 1) := by decide +kernel
theorem dX3_makeRoom_22 : decode cX3_makeRoom 22 = .ok (.goto 10, 3) := by decide +kernel
theorem dX3_makeRoom_25 : decode cX3_makeRoom 25 = .ok (.iconst 2, 1) := by decide +kernel
theorem dX3_makeRoom_26 : decode cX3_makeRoom 26 = .ok (.aload_n 0, 1) := by decide +kernel
theorem dX3_makeRoom_27 : decode cX3_makeRoom 27 = .ok (.getfield 9, 3) := by decide +kernel
theorem dX3_makeRoom_30 : decode cX3_makeRoom 30 = .ok (.arraylength, 1) := by decide +kernel
theorem dX3_makeRoom_31 : decode cX3_makeRoom 31 = .ok (.imul, 1) := by decide +kernel
theorem dX3_makeRoom_32 : decode cX3_makeRoom 32 = .ok (.newarray .int, 2) := by decide +kernel
theorem dX3_makeRoom_34 : decode cX3_makeRoom 34 = .ok (.astore_n 2, 1) := by decide +kernel
theorem dX3_makeRoom_35 : decode cX3_makeRoom 35 = .ok (.aload_n 0, 1) := by decide +kernel
theorem dX3_makeRoom_36 : decode cX3_makeRoom 36 = .ok (.getfield 9, 3) := by decide +kernel
theorem dX3_makeRoom_39 : decode cX3_makeRoom 39 = .ok (.iconst 0, 1) := by decide +kernel
theorem dX3_makeRoom_40 : decode cX3_makeRoom 40 = .ok (.aload_n 2, 1) := by decide +kernel
theorem dX3_makeRoom_41 : decode cX3_makeRoom 41 = .ok (.iconst 0, 1) := by decide +kernel
theorem dX3_makeRoom_42 : decode cX3_makeRoom 42 = .ok (.aload_n 0, 1) := by decide +kernel
theorem dX3_makeRoom_43 : decode cX3_makeRoom 43 = .ok (.getfield 9, 3) := by decide +kernel
theorem dX3_makeRoom_46 : decode cX3_makeRoom 46 = .ok (.arraylength, 1) := by decide +kernel
theorem dX3_makeRoom_47 : decode cX3_makeRoom 47 = .ok (.invokestatic 26, 3) := by decide +kernel
theorem dX3_makeRoom_50 : decode cX3_makeRoom 50 = .ok (.aload_n 0, 1) := by decide +kernel
theorem dX3_makeRoom_51 : decode cX3_makeRoom 51 = .ok (.aload_n 2, 1) := by decide +kernel
theorem dX3_makeRoom_52 : decode cX3_makeRoom 52 = .ok (.putfield 9, 3) := by decide +kernel
theorem dX3_makeRoom_55 : decode cX3_makeRoom 55 = .ok (.return_, 1) := by decide +kernel
theorem dX3_trim_0 : decode cX3_trim 0 = .ok (.aload_n 0, 1) := by decide +kernel
theorem dX3_trim_1 : decode cX3_trim 1 = .ok (.iload_n 1, 1) := by decide +kernel
theorem dX3_trim_2 : decode cX3_trim 2 = .ok (.putfield 13, 3) := by decide +kernel
theorem dX3_trim_5 : decode cX3_trim 5 = .ok (.aload_n 0, 1) := by decide +kernel
theorem dX3_trim_6 : decode cX3_trim 6 = .ok (.getfield 13, 3) := by decide +kernel
theorem dX3_trim_9 : decode cX3_trim 9 = .ok (.ifCond .le 30, 3) := by decide +kernel
theorem dX3_trim_12 : decode cX3_trim 12 = .ok (.aload_n 0, 1) := by decide +kernel
theorem dX3_trim_13 : decode cX3_trim 13 = .ok (.getfield 9, 3) := by decide +kernel
theorem dX3_trim_16 : decode cX3_trim 16 = .ok (.aload_n 0, 1) := by decide +kernel
theorem dX3_trim_17 : decode cX3_trim 17 = .ok (.getfield 13, 3) := by decide +kernel
theorem dX3_trim_20 : decode cX3_trim 20 = .ok (.iconst 1, 1) := by decide +kernel
theorem dX3_trim_21 : decode cX3_trim 21 = .ok (.isub, 1) := by decide +kernel
theorem dX3_trim_22 : decode cX3_trim 22 = .ok (.iaload, 1) := by decide +kernel
theorem dX3_trim_23 : decode cX3_trim 23 = .ok (.ifCond .ne 16, 3) := by decide +kernel
theorem dX3_trim_26 : decode cX3_trim 26 = .ok (.aload_n 0, 1) := by decide +kernel
theorem dX3_trim_27 : decode cX3_trim 27 = .ok (.dup, 1) := by decide +kernel
theorem dX3_trim_28 : decode cX3_trim 28 = .ok (.getfield 13, 3) := by decide +kernel
theorem dX3_trim_31 : decode cX3_trim 31 = .ok (.iconst 1, 1) := by decide +kernel
theorem dX3_trim_32 : decode cX3_trim 32 = .ok (.isub, 1) := by decide +kernel
theorem dX3_trim_33 : decode cX3_trim 33 = .ok (.putfield 13, 3) := by decide +kernel
theorem dX3_trim_36 : decode cX3_trim 36 = .ok (.goto (-31), 3) := by decide +kernel
theorem dX3_trim_39 : decode cX3_trim 39 = .ok (.aload_n 0, 1) := by decide +kernel
theorem dX3_trim_40 : decode cX3_trim 40 = .ok (.getfield 13, 3) := by decide +kernel
theorem dX3_trim_43 : decode cX3_trim 43 = .ok (.ifCond .ne 8, 3) := by decide +kernel
theorem dX3_trim_46 : decode cX3_trim 46 = .ok (.aload_n 0, 1) := by decide +kernel
theorem dX3_trim_47 : decode cX3_trim 47 = .ok (.iconst 0, 1) := by decide +kernel
theorem dX3_trim_48 : decode cX3_trim 48 = .ok (.putfield 17, 3) := by decide +kernel
theorem dX3_trim_51 : decode cX3_trim 51 = .ok (.return_, 1) := by decide +kernel
theorem dX3_add_0 : decode cX3_add 0 = .ok (.iload_n 2, 1) := by decide +kernel
theorem dX3_add_1 : decode cX3_add 1 = .ok (.ifCond .ge 11, 3) := by decide +kernel
theorem dX3_add_4 : decode cX3_add 4 = .ok (.aload_n 1, 1) := by decide +kernel
theorem dX3_add_5 : decode cX3_add 5 = .ok (.getfield 17, 3) := by decide +kernel
theorem dX3_add_8 : decode cX3_add 8 = .ok (.ineg, 1) := by decide +kernel
theorem dX3_add_9 : decode cX3_add 9 = .ok (.goto 7, 3) := by decide +kernel
theorem dX3_add_12 : decode cX3_add 12 = .ok (.aload_n 1, 1) := by decide +kernel
theorem dX3_add_13 : decode cX3_add 13 = .ok (.getfield 17, 3) := by decide +kernel
theorem dX3_add_16 : decode cX3_add 16 = .ok (.istore_n 3, 1) := by decide +kernel
theorem dX3_add_17 : decode cX3_add 17 = .ok (.iload_n 3, 1) := by decide +kernel
theorem dX3_add_18 : decode cX3_add 18 = .ok (.ifCond .ne 4, 3) := by decide +kernel
theorem dX3_add_21 : decode cX3_add 21 = .ok (.return_, 1) := by decide +kernel
theorem dX3_add_22 : decode cX3_add 22 = .ok (.aload_n 0, 1) := by decide +kernel
theorem dX3_add_23 : decode cX3_add 23 = .ok (.getfield 17, 3) := by decide +kernel
theorem dX3_add_26 : decode cX3_add 26 = .ok (.ifCond .ne 8, 3) := by decide +kernel
theorem dX3_add_29 : decode cX3_add 29 = .ok (.aload_n 0, 1) := by decide +kernel
theorem dX3_add_30 : decode cX3_add 30 = .ok (.iload_n 3, 1) := by decide +kernel
theorem dX3_add_31 : decode cX3_add 31 = .ok (.putfield 17, 3) := by decide +kernel
theorem dX3_add_34 : decode cX3_add 34 = .ok (.aload_n 0, 1) := by decide +kernel
theorem dX3_add_35 : decode cX3_add 35 = .ok (.getfield 13, 3) := by decide +kernel
theorem dX3_add_38 : decode cX3_add 38 = .ok (.aload_n 1, 1) := by decide +kernel
theorem dX3_add_39 : decode cX3_add 39 = .ok (.getfield 13, 3) := by decide +kernel
theorem dX3_add_42 : decode cX3_add 42 = .ok (.if_icmp .le 10, 3) := by decide +kernel
theorem dX3_add_45 : decode cX3_add 45 = .ok (.aload_n 0, 1) := by decide +kernel
theorem dX3_add_46 : decode cX3_add 46 = .ok (.getfield 13, 3) := by decide +kernel
theorem dX3_add_49 : decode cX3_add 49 = .ok (.goto 7, 3) := by decide +kernel
theorem dX3_add_52 : decode cX3_add 52 = .ok (.aload_n 1, 1) := by decide +kernel
theorem dX3_add_53 : decode cX3_add 53 = .ok (.getfield 13, 3) := by decide +kernel
theorem dX3_add_56 : decode cX3_add 56 = .ok (.istore 4, 2) := by decide +kernel
theorem dX3_add_58 : decode cX3_add 58 = .ok (.aload_n 0, 1) := by decide +kernel
theorem dX3_add_59 : decode cX3_add 59 = .ok (.iload 4, 2) := by decide +kernel
theorem dX3_add_61 : decode cX3_add 61 = .ok (.iconst 1, 1) := by decide +kernel
theorem dX3_add_62 : decode cX3_add 62 = .ok (.iadd, 1) := by decide +kernel
theorem dX3_add_63 : decode cX3_add 63 = .ok (.invokevirtual 22, 3) := by decide +kernel
theorem dX3_add_66 : decode cX3_add 66 = .ok (.aload_n 0, 1) := by decide +kernel
theorem dX3_add_67 : decode cX3_add 67 = .ok (.getfield 17, 3) := by decide +kernel
theorem dX3_add_70 : decode cX3_add 70 = .ok (.iload_n 3, 1) := by decide +kernel
theorem dX3_add_71 : decode cX3_add 71 = .ok (.if_icmp .ne 17, 3) := by decide +kernel
theorem dX3_add_74 : decode cX3_add 74 = .ok (.aload_n 0, 1) := by decide +kernel
theorem dX3_add_75 : decode cX3_add 75 = .ok (.aload_n 1, 1) := by decide +kernel
theorem dX3_add_76 : decode cX3_add 76 = .ok (.invokevirtual 32, 3) := by decide +kernel
theorem dX3_add_79 : decode cX3_add 79 = .ok (.aload_n 0, 1) := by decide +kernel
theorem dX3_add_80 : decode cX3_add 80 = .ok (.iload 4, 2) := by decide +kernel
theorem dX3_add_82 : decode cX3_add 82 = .ok (.iconst 1, 1) := by decide +kernel
theorem dX3_add_83 : decode cX3_add 83 = .ok (.iadd, 1) := by decide +kernel
theorem dX3_add_84 : decode cX3_add 84 = .ok (.invokevirtual 36, 3) := by decide +kernel
theorem dX3_add_87 : decode cX3_add 87 = .ok (.return_, 1) := by decide +kernel
theorem dX3_add_88 : decode cX3_add 88 = .ok (.aload_n 0, 1) := by decide +kernel
theorem dX3_add_89 : decode cX3_add 89 = .ok (.aload_n 1, 1) := by decide +kernel
theorem dX3_add_90 : decode cX3_add 90 = .ok (.invokevirtual 39, 3) := by decide +kernel
theorem dX3_add_93 : decode cX3_add 93 = .ok (.ifCond .eq 31, 3) := by decide +kernel
theorem dX3_add_96 : decode cX3_add 96 = .ok (.aload_n 0, 1) := by decide +kernel
theorem dX3_add_97 : decode cX3_add 97 = .ok (.aload_n 1, 1) := by decide +kernel
theorem dX3_add_98 : decode cX3_add 98 = .ok (.getfield 9, 3) := by decide +kernel
theorem dX3_add_101 : decode cX3_add 101 = .ok (.aload_n 1, 1) := by decide +kernel
theorem dX3_add_102 : decode cX3_add 102 = .ok (.getfield 13, 3) := by decide +kernel
theorem dX3_add_105 : decode cX3_add 105 = .ok (.aload_n 0, 1) := by decide +kernel
theorem dX3_add_106 : decode cX3_add 106 = .ok (.getfield 9, 3) := by decide +kernel
theorem dX3_add_109 : decode cX3_add 109 = .ok (.aload_n 0, 1) := by decide +kernel
theorem dX3_add_110 : decode cX3_add 110 = .ok (.getfield 13, 3) := by decide +kernel
theorem dX3_add_113 : decode cX3_add 113 = .ok (.invokevirtual 43, 3) := by decide +kernel
theorem dX3_add_116 : decode cX3_add 116 = .ok (.aload_n 0, 1) := by decide +kernel
theorem dX3_add_117 : decode cX3_add 117 = .ok (.iload_n 3, 1) := by decide +kernel
theorem dX3_add_118 : decode cX3_add 118 = .ok (.putfield 17, 3) := by decide +kernel
theorem dX3_add_121 : decode cX3_add 121 = .ok (.goto 23, 3) := by decide +kernel
theorem dX3_add_124 : decode cX3_add 124 = .ok (.aload_n 0, 1) := by decide +kernel
theorem dX3_add_125 : decode cX3_add 125 = .ok (.aload_n 0, 1) := by decide +kernel
theorem dX3_add_126 : decode cX3_add 126 = .ok (.getfield 9, 3) := by decide +kernel
theorem dX3_add_129 : decode cX3_add 129 = .ok (.aload_n 0, 1) := by decide +kernel
theorem dX3_add_130 : decode cX3_add 130 = .ok (.getfield 13, 3) := by decide +kernel
theorem dX3_add_133 : decode cX3_add 133 = .ok (.aload_n 1, 1) := by decide +kernel
theorem dX3_add_134 : decode cX3_add 134 = .ok (.getfield 9, 3) := by decide +kernel
theorem dX3_add_137 : decode cX3_add 137 = .ok (.aload_n 1, 1) := by decide +kernel
theorem dX3_add_138 : decode cX3_add 138 = .ok (.getfield 13, 3) := by decide +kernel
theorem dX3_add_141 : decode cX3_add 141 = .ok (.invokevirtual 43, 3) := by decide +kernel
theorem dX3_add_144 : decode cX3_add 144 = .ok (.aload_n 0, 1) := by decide +kernel
theorem dX3_add_145 : decode cX3_add 145 = .ok (.iload 4, 2) := by decide +kernel
theorem dX3_add_147 : decode cX3_add 147 = .ok (.invokevirtual 36, 3) := by decide +kernel
theorem dX3_add_150 : decode cX3_add 150 = .ok (.return_, 1) := by decide +kernel
theorem dX3_isSmaller_0 : decode cX3_isSmaller 0 = .ok (.aload_n 0, 1) := by decide +kernel
theorem dX3_isSmaller_1 : decode cX3_isSmaller 1 = .ok (.getfield 13, 3) := by decide +kernel
theorem dX3_isSmaller_4 : decode cX3_isSmaller 4 = .ok (.aload_n 1, 1) := by decide +kernel
theorem dX3_isSmaller_5 : decode cX3_isSmaller 5 = .ok (.getfield 13, 3) := by decide +kernel
theorem dX3_isSmaller_8 : decode cX3_isSmaller 8 = .ok (.if_icmp .eq 20, 3) := by decide +kernel
theorem dX3_isSmaller_11 : decode cX3_isSmaller 11 = .ok (.aload_n 0, 1) := by decide +kernel
theorem dX3_isSmaller_12 : decode cX3_isSmaller 12 = .ok (.getfield 13, 3) := by decide +kernel
theorem dX3_isSmaller_15 : decode cX3_isSmaller 15 = .ok (.aload_n 1, 1) := by decide +kernel
theorem dX3_isSmaller_16 : decode cX3_isSmaller 16 = .ok (.getfield 13, 3) := by decide +kernel
theorem dX3_isSmaller_19 : decode cX3_isSmaller 19 = .ok (.if_icmp .ge 7, 3) := by decide +kernel
theorem dX3_isSmaller_22 : decode cX3_isSmaller 22 = .ok (.iconst 1, 1) := by decide +kernel
theorem dX3_isSmaller_23 : decode cX3_isSmaller 23 = .ok (.goto 4, 3) := by decide +kernel
theorem dX3_isSmaller_26 : decode cX3_isSmaller 26 = .ok (.iconst 0, 1) := by decide +kernel
theorem dX3_isSmaller_27 : decode cX3_isSmaller 27 = .ok (.ireturn, 1) := by decide +kernel
theorem dX3_isSmaller_28 : decode cX3_isSmaller 28 = .ok (.aload_n 0, 1) := by decide +kernel
theorem dX3_isSmaller_29 : decode cX3_isSmaller 29 = .ok (.getfield 13, 3) := by decide +kernel
theorem dX3_isSmaller_32 : decode cX3_isSmaller 32 = .ok (.iconst 1, 1) := by decide +kernel
theorem dX3_isSmaller_33 : decode cX3_isSmaller 33 = .ok (.isub, 1) := by decide +kernel
theorem dX3_isSmaller_34 : decode cX3_isSmaller 34 = .ok (.istore_n 2, 1) := by decide +kernel
theorem dX3_isSmaller_35 : decode cX3_isSmaller 35 = .ok (.iload_n 2, 1) := by decide +kernel
theorem dX3_isSmaller_36 : decode cX3_isSmaller 36 = .ok (.ifCond .lt 45, 3) := by decide +kernel
theorem dX3_isSmaller_39 : decode cX3_isSmaller 39 = .ok (.aload_n 0, 1) := by decide +kernel
theorem dX3_isSmaller_40 : decode cX3_isSmaller 40 = .ok (.getfield 9, 3) := by decide +kernel
theorem dX3_isSmaller_43 : decode cX3_isSmaller 43 = .ok (.iload_n 2, 1) := by decide +kernel
theorem dX3_isSmaller_44 : decode cX3_isSmaller 44 = .ok (.iaload, 1) := by decide +kernel
theorem dX3_isSmaller_45 : decode cX3_isSmaller 45 = .ok (.aload_n 1, 1) := by decide +kernel
theorem dX3_isSmaller_46 : decode cX3_isSmaller 46 = .ok (.getfield 9, 3) := by decide +kernel
theorem dX3_isSmaller_49 : decode cX3_isSmaller 49 = .ok (.iload_n 2, 1) := by decide +kernel
theorem dX3_isSmaller_50 : decode cX3_isSmaller 50 = .ok (.iaload, 1) := by decide +kernel
theorem dX3_isSmaller_51 : decode cX3_isSmaller 51 = .ok (.if_icmp .eq 24, 3) := by decide +kernel
theorem dX3_isSmaller_54 : decode cX3_isSmaller 54 = .ok (.aload_n 0, 1) := by decide +kernel
theorem dX3_isSmaller_55 : decode cX3_isSmaller 55 = .ok (.getfield 9, 3) := by decide +kernel
theorem dX3_isSmaller_58 : decode cX3_isSmaller 58 = .ok (.iload_n 2, 1) := by decide +kernel
theorem dX3_isSmaller_59 : decode cX3_isSmaller 59 = .ok (.iaload, 1) := by decide +kernel
theorem dX3_isSmaller_60 : decode cX3_isSmaller 60 = .ok (.aload_n 1, 1) := by decide +kernel
theorem dX3_isSmaller_61 : decode cX3_isSmaller 61 = .ok (.getfield 9, 3) := by decide +kernel
theorem dX3_isSmaller_64 : decode cX3_isSmaller 64 = .ok (.iload_n 2, 1) := by decide +kernel
theorem dX3_isSmaller_65 : decode cX3_isSmaller 65 = .ok (.iaload, 1) := by decide +kernel
theorem dX3_isSmaller_66 : decode cX3_isSmaller 66 = .ok (.if_icmp .ge 7, 3) := by decide +kernel
theorem dX3_isSmaller_69 : decode cX3_isSmaller 69 = .ok (.iconst 1, 1) := by decide +kernel
theorem dX3_isSmaller_70 : decode cX3_isSmaller 70 = .ok (.goto 4, 3) := by decide +kernel
theorem dX3_isSmaller_73 : decode cX3_isSmaller 73 = .ok (.iconst 0, 1) := by decide +kernel
theorem dX3_isSmaller_74 : decode cX3_isSmaller 74 = .ok (.ireturn, 1) := by decide +kernel
theorem dX3_isSmaller_75 : decode cX3_isSmaller 75 = .ok (.iinc 2 (-1), 3) := by decide +kernel
theorem dX3_isSmaller_78 : decode cX3_isSmaller 78 = .ok (.goto (-43), 3) := by decide +kernel
theorem dX3_isSmaller_81 : decode cX3_isSmaller 81 = .ok (.iconst 0, 1) := by decide +kernel
theorem dX3_isSmaller_82 : decode cX3_isSmaller 82 = .ok (.ireturn, 1) := by decide +kernel
theorem dX3_addMagnitude_0 : decode cX3_addMagnitude 0 = .ok (.aload_n 0, 1) := by decide +kernel
theorem dX3_addMagnitude_1 : decode cX3_addMagnitude 1 = .ok (.getfield 13, 3) := by decide +kernel
theorem dX3_addMagnitude_4 : decode cX3_addMagnitude 4 = .ok (.aload_n 1, 1) := by decide +kernel
theorem dX3_addMagnitude_5 : decode cX3_addMagnitude 5 = .ok (.getfield 13, 3) := by decide +kernel
theorem dX3_addMagnitude_8 : decode cX3_addMagnitude 8 = .ok (.if_icmp .le 10, 3) := by decide +kernel
theorem dX3_addMagnitude_11 : decode cX3_addMagnitude 11 = .ok (.aload_n 0, 1) := by decide +kernel
theorem dX3_addMagnitude_12 : decode cX3_addMagnitude 12 = .ok (.getfield 13, 3) := by decide +kernel
theorem dX3_addMagnitude_15 : decode cX3_addMagnitude 15 = .ok (.goto 7, 3) := by decide +kernel
theorem dX3_addMagnitude_18 : decode cX3_addMagnitude 18 = .ok (.aload_n 1, 1) := by decide +kernel
theorem dX3_addMagnitude_19 : decode cX3_addMagnitude 19 = .ok (.getfield 13, 3) := by decide +kernel
theorem dX3_addMagnitude_22 : decode cX3_addMagnitude 22 = .ok (.istore_n 2, 1) := by decide +kernel
theorem dX3_addMagnitude_23 : decode cX3_addMagnitude 23 = .ok (.iconst 0, 1) := by decide +kernel
theorem dX3_addMagnitude_24 : decode cX3_addMagnitude 24 = .ok (.istore_n 3, 1) := by decide +kernel
theorem dX3_addMagnitude_25 : decode cX3_addMagnitude 25 = .ok (.iconst 0, 1) := by decide +kernel
theorem dX3_addMagnitude_26 : decode cX3_addMagnitude 26 = .ok (.istore 4, 2) := by decide +kernel
theorem dX3_addMagnitude_28 : decode cX3_addMagnitude 28 = .ok (.iload 4, 2) := by decide +kernel
theorem dX3_addMagnitude_30 : decode cX3_addMagnitude 30 = .ok (.iload_n 2, 1) := by decide +kernel
theorem dX3_addMagnitude_31 : decode cX3_addMagnitude 31 = .ok (.if_icmp .ge 72, 3) := by decide +kernel
theorem dX3_addMagnitude_34 : decode cX3_addMagnitude 34 = .ok (.iload 4, 2) := by decide +kernel
theorem dX3_addMagnitude_36 : decode cX3_addMagnitude 36 = .ok (.aload_n 0, 1) := by decide +kernel
theorem dX3_addMagnitude_37 : decode cX3_addMagnitude 37 = .ok (.getfield 13, 3) := by decide +kernel
theorem dX3_addMagnitude_40 : decode cX3_addMagnitude 40 = .ok (.if_icmp .ge 13, 3) := by decide +kernel
theorem dX3_addMagnitude_43 : decode cX3_addMagnitude 43 = .ok (.aload_n 0, 1) := by decide +kernel
theorem dX3_addMagnitude_44 : decode cX3_addMagnitude 44 = .ok (.getfield 9, 3) := by decide +kernel
theorem dX3_addMagnitude_47 : decode cX3_addMagnitude 47 = .ok (.iload 4, 2) := by decide +kernel
theorem dX3_addMagnitude_49 : decode cX3_addMagnitude 49 = .ok (.iaload, 1) := by decide +kernel
theorem dX3_addMagnitude_50 : decode cX3_addMagnitude 50 = .ok (.goto 4, 3) := by decide +kernel
theorem dX3_addMagnitude_53 : decode cX3_addMagnitude 53 = .ok (.iconst 0, 1) := by decide +kernel
theorem dX3_addMagnitude_54 : decode cX3_addMagnitude 54 = .ok (.iload 4, 2) := by decide +kernel
theorem dX3_addMagnitude_56 : decode cX3_addMagnitude 56 = .ok (.aload_n 1, 1) := by decide +kernel
theorem dX3_addMagnitude_57 : decode cX3_addMagnitude 57 = .ok (.getfield 13, 3) := by decide +kernel
theorem dX3_addMagnitude_60 : decode cX3_addMagnitude 60 = .ok (.if_icmp .ge 13, 3) := by decide +kernel
theorem dX3_addMagnitude_63 : decode cX3_addMagnitude 63 = .ok (.aload_n 1, 1) := by decide +kernel
theorem dX3_addMagnitude_64 : decode cX3_addMagnitude 64 = .ok (.getfield 9, 3) := by decide +kernel
theorem dX3_addMagnitude_67 : decode cX3_addMagnitude 67 = .ok (.iload 4, 2) := by decide +kernel
theorem dX3_addMagnitude_69 : decode cX3_addMagnitude 69 = .ok (.iaload, 1) := by decide +kernel
theorem dX3_addMagnitude_70 : decode cX3_addMagnitude 70 = .ok (.goto 4, 3) := by decide +kernel
theorem dX3_addMagnitude_73 : decode cX3_addMagnitude 73 = .ok (.iconst 0, 1) := by decide +kernel
theorem dX3_addMagnitude_74 : decode cX3_addMagnitude 74 = .ok (.iadd, 1) := by decide +kernel
theorem dX3_addMagnitude_75 : decode cX3_addMagnitude 75 = .ok (.iload_n 3, 1) := by decide +kernel
theorem dX3_addMagnitude_76 : decode cX3_addMagnitude 76 = .ok (.iadd, 1) := by decide +kernel
theorem dX3_addMagnitude_77 : decode cX3_addMagnitude 77 = .ok (.istore 5, 2) := by decide +kernel
theorem dX3_addMagnitude_79 : decode cX3_addMagnitude 79 = .ok (.aload_n 0, 1) := by decide +kernel
theorem dX3_addMagnitude_80 : decode cX3_addMagnitude 80 = .ok (.getfield 9, 3) := by decide +kernel
theorem dX3_addMagnitude_83 : decode cX3_addMagnitude 83 = .ok (.iload 4, 2) := by decide +kernel
theorem dX3_addMagnitude_85 : decode cX3_addMagnitude 85 = .ok (.iload 5, 2) := by decide +kernel
theorem dX3_addMagnitude_87 : decode cX3_addMagnitude 87 = .ok (.ldc 47, 2) := by decide +kernel
theorem dX3_addMagnitude_89 : decode cX3_addMagnitude 89 = .ok (.iand, 1) := by decide +kernel
theorem dX3_addMagnitude_90 : decode cX3_addMagnitude 90 = .ok (.iastore, 1) := by decide +kernel
theorem dX3_addMagnitude_91 : decode cX3_addMagnitude 91 = .ok (.iload 5, 2) := by decide +kernel
theorem dX3_addMagnitude_93 : decode cX3_addMagnitude 93 = .ok (.bipush 30, 2) := by decide +kernel
theorem dX3_addMagnitude_95 : decode cX3_addMagnitude 95 = .ok (.iushr, 1) := by decide +kernel
theorem dX3_addMagnitude_96 : decode cX3_addMagnitude 96 = .ok (.istore_n 3, 1) := by decide +kernel
theorem dX3_addMagnitude_97 : decode cX3_addMagnitude 97 = .ok (.iinc 4 1, 3) := by decide +kernel
theorem dX3_addMagnitude_100 : decode cX3_addMagnitude 100 = .ok (.goto (-72), 3) := by decide +kernel
theorem dX3_addMagnitude_103 : decode cX3_addMagnitude 103 = .ok (.aload_n 0, 1) := by decide +kernel
theorem dX3_addMagnitude_104 : decode cX3_addMagnitude 104 = .ok (.getfield 9, 3) := by decide +kernel
theorem dX3_addMagnitude_107 : decode cX3_addMagnitude 107 = .ok (.iload_n 2, 1) := by decide +kernel
theorem dX3_addMagnitude_108 : decode cX3_addMagnitude 108 = .ok (.iload_n 3, 1) := by decide +kernel
theorem dX3_addMagnitude_109 : decode cX3_addMagnitude 109 = .ok (.iastore, 1) := by decide +kernel
theorem dX3_addMagnitude_110 : decode cX3_addMagnitude 110 = .ok (.return_, 1) := by decide +kernel
theorem dX3_takeFrom_0 : decode cX3_takeFrom 0 = .ok (.iconst 0, 1) := by decide +kernel
theorem dX3_takeFrom_1 : decode cX3_takeFrom 1 = .ok (.istore 5, 2) := by decide +kernel
theorem dX3_takeFrom_3 : decode cX3_takeFrom 3 = .ok (.iconst 0, 1) := by decide +kernel
theorem dX3_takeFrom_4 : decode cX3_takeFrom 4 = .ok (.istore 6, 2) := by decide +kernel
theorem dX3_takeFrom_6 : decode cX3_takeFrom 6 = .ok (.iload 6, 2) := by decide +kernel
theorem dX3_takeFrom_8 : decode cX3_takeFrom 8 = .ok (.iload_n 2, 1) := by decide +kernel
theorem dX3_takeFrom_9 : decode cX3_takeFrom 9 = .ok (.if_icmp .ge 58, 3) := by decide +kernel
theorem dX3_takeFrom_12 : decode cX3_takeFrom 12 = .ok (.aload_n 1, 1) := by decide +kernel
theorem dX3_takeFrom_13 : decode cX3_takeFrom 13 = .ok (.iload 6, 2) := by decide +kernel
theorem dX3_takeFrom_15 : decode cX3_takeFrom 15 = .ok (.iaload, 1) := by decide +kernel
theorem dX3_takeFrom_16 : decode cX3_takeFrom 16 = .ok (.iload 6, 2) := by decide +kernel
theorem dX3_takeFrom_18 : decode cX3_takeFrom 18 = .ok (.iload 4, 2) := by decide +kernel
theorem dX3_takeFrom_20 : decode cX3_takeFrom 20 = .ok (.if_icmp .ge 10, 3) := by decide +kernel
theorem dX3_takeFrom_23 : decode cX3_takeFrom 23 = .ok (.aload_n 3, 1) := by decide +kernel
theorem dX3_takeFrom_24 : decode cX3_takeFrom 24 = .ok (.iload 6, 2) := by decide +kernel
theorem dX3_takeFrom_26 : decode cX3_takeFrom 26 = .ok (.iaload, 1) := by decide +kernel
theorem dX3_takeFrom_27 : decode cX3_takeFrom 27 = .ok (.goto 4, 3) := by decide +kernel
theorem dX3_takeFrom_30 : decode cX3_takeFrom 30 = .ok (.iconst 0, 1) := by decide +kernel
theorem dX3_takeFrom_31 : decode cX3_takeFrom 31 = .ok (.isub, 1) := by decide +kernel
theorem dX3_takeFrom_32 : decode cX3_takeFrom 32 = .ok (.iload 5, 2) := by decide +kernel
theorem dX3_takeFrom_34 : decode cX3_takeFrom 34 = .ok (.isub, 1) := by decide +kernel
theorem dX3_takeFrom_35 : decode cX3_takeFrom 35 = .ok (.istore 7, 2) := by decide +kernel
theorem dX3_takeFrom_37 : decode cX3_takeFrom 37 = .ok (.aload_n 0, 1) := by decide +kernel
theorem dX3_takeFrom_38 : decode cX3_takeFrom 38 = .ok (.getfield 9, 3) := by decide +kernel
theorem dX3_takeFrom_41 : decode cX3_takeFrom 41 = .ok (.iload 6, 2) := by decide +kernel
theorem dX3_takeFrom_43 : decode cX3_takeFrom 43 = .ok (.iload 7, 2) := by decide +kernel
theorem dX3_takeFrom_45 : decode cX3_takeFrom 45 = .ok (.ldc 47, 2) := by decide +kernel
theorem dX3_takeFrom_47 : decode cX3_takeFrom 47 = .ok (.iand, 1) := by decide +kernel
theorem dX3_takeFrom_48 : decode cX3_takeFrom 48 = .ok (.iastore, 1) := by decide +kernel
theorem dX3_takeFrom_49 : decode cX3_takeFrom 49 = .ok (.iload 7, 2) := by decide +kernel
theorem dX3_takeFrom_51 : decode cX3_takeFrom 51 = .ok (.ifCond .ge 7, 3) := by decide +kernel
theorem dX3_takeFrom_54 : decode cX3_takeFrom 54 = .ok (.iconst 1, 1) := by decide +kernel
theorem dX3_takeFrom_55 : decode cX3_takeFrom 55 = .ok (.goto 4, 3) := by decide +kernel
theorem dX3_takeFrom_58 : decode cX3_takeFrom 58 = .ok (.iconst 0, 1) := by decide +kernel
theorem dX3_takeFrom_59 : decode cX3_takeFrom 59 = .ok (.istore 5, 2) := by decide +kernel
theorem dX3_takeFrom_61 : decode cX3_takeFrom 61 = .ok (.iinc 6 1, 3) := by decide +kernel
theorem dX3_takeFrom_64 : decode cX3_takeFrom 64 = .ok (.goto (-58), 3) := by decide +kernel
theorem dX3_takeFrom_67 : decode cX3_takeFrom 67 = .ok (.return_, 1) := by decide +kernel
theorem dX3_multiply_0 : decode cX3_multiply 0 = .ok (.aload_n 0, 1) := by decide +kernel
theorem dX3_multiply_1 : decode cX3_multiply 1 = .ok (.getfield 17, 3) := by decide +kernel
theorem dX3_multiply_4 : decode cX3_multiply 4 = .ok (.ifCond .eq 10, 3) := by decide +kernel
theorem dX3_multiply_7 : decode cX3_multiply 7 = .ok (.aload_n 1, 1) := by decide +kernel
theorem dX3_multiply_8 : decode cX3_multiply 8 = .ok (.getfield 17, 3) := by decide +kernel
theorem dX3_multiply_11 : decode cX3_multiply 11 = .ok (.ifCond .ne 9, 3) := by decide +kernel
theorem dX3_multiply_14 : decode cX3_multiply 14 = .ok (.aload_n 0, 1) := by decide +kernel
theorem dX3_multiply_15 : decode cX3_multiply 15 = .ok (.iconst 0, 1) := by decide +kernel
theorem dX3_multiply_16 : decode cX3_multiply 16 = .ok (.invokevirtual 36, 3) := by decide +kernel
theorem dX3_multiply_19 : decode cX3_multiply 19 = .ok (.return_, 1) := by decide +kernel
theorem dX3_multiply_20 : decode cX3_multiply 20 = .ok (.aload_n 0, 1) := by decide +kernel
theorem dX3_multiply_21 : decode cX3_multiply 21 = .ok (.getfield 13, 3) := by decide +kernel
theorem dX3_multiply_24 : decode cX3_multiply 24 = .ok (.aload_n 1, 1) := by decide +kernel
theorem dX3_multiply_25 : decode cX3_multiply 25 = .ok (.getfield 13, 3) := by decide +kernel
theorem dX3_multiply_28 : decode cX3_multiply 28 = .ok (.iadd, 1) := by decide +kernel
theorem dX3_multiply_29 : decode cX3_multiply 29 = .ok (.istore_n 2, 1) := by decide +kernel
theorem dX3_multiply_30 : decode cX3_multiply 30 = .ok (.aload_n 0, 1) := by decide +kernel
theorem dX3_multiply_31 : decode cX3_multiply 31 = .ok (.iload_n 2, 1) := by decide +kernel
theorem dX3_multiply_32 : decode cX3_multiply 32 = .ok (.invokevirtual 22, 3) := by decide +kernel
theorem dX3_multiply_35 : decode cX3_multiply 35 = .ok (.aload_n 0, 1) := by decide +kernel
theorem dX3_multiply_36 : decode cX3_multiply 36 = .ok (.getfield 13, 3) := by decide +kernel
theorem dX3_multiply_39 : decode cX3_multiply 39 = .ok (.istore_n 3, 1) := by decide +kernel
theorem dX3_multiply_40 : decode cX3_multiply 40 = .ok (.iload_n 3, 1) := by decide +kernel
theorem dX3_multiply_41 : decode cX3_multiply 41 = .ok (.iload_n 2, 1) := by decide +kernel
theorem dX3_multiply_42 : decode cX3_multiply 42 = .ok (.if_icmp .ge 16, 3) := by decide +kernel
theorem dX3_multiply_45 : decode cX3_multiply 45 = .ok (.aload_n 0, 1) := by decide +kernel
theorem dX3_multiply_46 : decode cX3_multiply 46 = .ok (.getfield 9, 3) := by decide +kernel
theorem dX3_multiply_49 : decode cX3_multiply 49 = .ok (.iload_n 3, 1) := by decide +kernel
theorem dX3_multiply_50 : decode cX3_multiply 50 = .ok (.iconst 0, 1) := by decide +kernel
theorem dX3_multiply_51 : decode cX3_multiply 51 = .ok (.iastore, 1) := by decide +kernel
theorem dX3_multiply_52 : decode cX3_multiply 52 = .ok (.iinc 3 1, 3) := by decide +kernel
theorem dX3_multiply_55 : decode cX3_multiply 55 = .ok (.goto (-15), 3) := by decide +kernel
theorem dX3_multiply_58 : decode cX3_multiply 58 = .ok (.aload_n 0, 1) := by decide +kernel
theorem dX3_multiply_59 : decode cX3_multiply 59 = .ok (.getfield 13, 3) := by decide +kernel
theorem dX3_multiply_62 : decode cX3_multiply 62 = .ok (.iconst 1, 1) := by decide +kernel
theorem dX3_multiply_63 : decode cX3_multiply 63 = .ok (.isub, 1) := by decide +kernel
theorem dX3_multiply_64 : decode cX3_multiply 64 = .ok (.istore_n 3, 1) := by decide +kernel
theorem dX3_multiply_65 : decode cX3_multiply 65 = .ok (.iload_n 3, 1) := by decide +kernel
theorem dX3_multiply_66 : decode cX3_multiply 66 = .ok (.ifCond .lt 157, 3) := by decide +kernel
theorem dX3_multiply_69 : decode cX3_multiply 69 = .ok (.aload_n 0, 1) := by decide +kernel
theorem dX3_multiply_70 : decode cX3_multiply 70 = .ok (.getfield 9, 3) := by decide +kernel
theorem dX3_multiply_73 : decode cX3_multiply 73 = .ok (.iload_n 3, 1) := by decide +kernel
theorem dX3_multiply_74 : decode cX3_multiply 74 = .ok (.iaload, 1) := by decide +kernel
theorem dX3_multiply_75 : decode cX3_multiply 75 = .ok (.i2l, 1) := by decide +kernel
theorem dX3_multiply_76 : decode cX3_multiply 76 = .ok (.lstore 4, 2) := by decide +kernel
theorem dX3_multiply_78 : decode cX3_multiply 78 = .ok (.aload_n 0, 1) := by decide +kernel
theorem dX3_multiply_79 : decode cX3_multiply 79 = .ok (.getfield 9, 3) := by decide +kernel
theorem dX3_multiply_82 : decode cX3_multiply 82 = .ok (.iload_n 3, 1) := by decide +kernel
theorem dX3_multiply_83 : decode cX3_multiply 83 = .ok (.iconst 0, 1) := by decide +kernel
theorem dX3_multiply_84 : decode cX3_multiply 84 = .ok (.iastore, 1) := by decide +kernel
theorem dX3_multiply_85 : decode cX3_multiply 85 = .ok (.lconst 0, 1) := by decide +kernel
theorem dX3_multiply_86 : decode cX3_multiply 86 = .ok (.lstore 6, 2) := by decide +kernel
theorem dX3_multiply_88 : decode cX3_multiply 88 = .ok (.iconst 0, 1) := by decide +kernel
theorem dX3_multiply_89 : decode cX3_multiply 89 = .ok (.istore 8, 2) := by decide +kernel
theorem dX3_multiply_91 : decode cX3_multiply 91 = .ok (.iload 8, 2) := by decide +kernel
theorem dX3_multiply_93 : decode cX3_multiply 93 = .ok (.aload_n 1, 1) := by decide +kernel
theorem dX3_multiply_94 : decode cX3_multiply 94 = .ok (.getfield 13, 3) := by decide +kernel
theorem dX3_multiply_97 : decode cX3_multiply 97 = .ok (.if_icmp .ge 59, 3) := by decide +kernel
theorem dX3_multiply_100 : decode cX3_multiply 100 = .ok (.aload_n 0, 1) := by decide +kernel
theorem dX3_multiply_101 : decode cX3_multiply 101 = .ok (.getfield 9, 3) := by decide +kernel
theorem dX3_multiply_104 : decode cX3_multiply 104 = .ok (.iload_n 3, 1) := by decide +kernel
theorem dX3_multiply_105 : decode cX3_multiply 105 = .ok (.iload 8, 2) := by decide +kernel
theorem dX3_multiply_107 : decode cX3_multiply 107 = .ok (.iadd, 1) := by decide +kernel
theorem dX3_multiply_108 : decode cX3_multiply 108 = .ok (.iaload, 1) := by decide +kernel
theorem dX3_multiply_109 : decode cX3_multiply 109 = .ok (.i2l, 1) := by decide +kernel
theorem dX3_multiply_110 : decode cX3_multiply 110 = .ok (.lload 4, 2) := by decide +kernel
theorem dX3_multiply_112 : decode cX3_multiply 112 = .ok (.aload_n 1, 1) := by decide +kernel
theorem dX3_multiply_113 : decode cX3_multiply 113 = .ok (.getfield 9, 3) := by decide +kernel
theorem dX3_multiply_116 : decode cX3_multiply 116 = .ok (.iload 8, 2) := by decide +kernel
theorem dX3_multiply_118 : decode cX3_multiply 118 = .ok (.iaload, 1) := by decide +kernel
theorem dX3_multiply_119 : decode cX3_multiply 119 = .ok (.i2l, 1) := by decide +kernel
theorem dX3_multiply_120 : decode cX3_multiply 120 = .ok (.lmul, 1) := by decide +kernel
theorem dX3_multiply_121 : decode cX3_multiply 121 = .ok (.ladd, 1) := by decide +kernel
theorem dX3_multiply_122 : decode cX3_multiply 122 = .ok (.lload 6, 2) := by decide +kernel
theorem dX3_multiply_124 : decode cX3_multiply 124 = .ok (.ladd, 1) := by decide +kernel
theorem dX3_multiply_125 : decode cX3_multiply 125 = .ok (.lstore 9, 2) := by decide +kernel
theorem dX3_multiply_127 : decode cX3_multiply 127 = .ok (.aload_n 0, 1) := by decide +kernel
theorem dX3_multiply_128 : decode cX3_multiply 128 = .ok (.getfield 9, 3) := by decide +kernel
theorem dX3_multiply_131 : decode cX3_multiply 131 = .ok (.iload_n 3, 1) := by decide +kernel
theorem dX3_multiply_132 : decode cX3_multiply 132 = .ok (.iload 8, 2) := by decide +kernel
theorem dX3_multiply_134 : decode cX3_multiply 134 = .ok (.iadd, 1) := by decide +kernel
theorem dX3_multiply_135 : decode cX3_multiply 135 = .ok (.lload 9, 2) := by decide +kernel
theorem dX3_multiply_137 : decode cX3_multiply 137 = .ok (.ldc2_w 20, 3) := by decide +kernel
theorem dX3_multiply_140 : decode cX3_multiply 140 = .ok (.land, 1) := by decide +kernel
theorem dX3_multiply_141 : decode cX3_multiply 141 = .ok (.l2i, 1) := by decide +kernel
theorem dX3_multiply_142 : decode cX3_multiply 142 = .ok (.iastore, 1) := by decide +kernel
theorem dX3_multiply_143 : decode cX3_multiply 143 = .ok (.lload 9, 2) := by decide +kernel
theorem dX3_multiply_145 : decode cX3_multiply 145 = .ok (.bipush 30, 2) := by decide +kernel
theorem dX3_multiply_147 : decode cX3_multiply 147 = .ok (.lushr, 1) := by decide +kernel
theorem dX3_multiply_148 : decode cX3_multiply 148 = .ok (.lstore 6, 2) := by decide +kernel
theorem dX3_multiply_150 : decode cX3_multiply 150 = .ok (.iinc 8 1, 3) := by decide +kernel
theorem dX3_multiply_153 : decode cX3_multiply 153 = .ok (.goto (-62), 3) := by decide +kernel
theorem dX3_multiply_156 : decode cX3_multiply 156 = .ok (.iload_n 3, 1) := by decide +kernel
theorem dX3_multiply_157 : decode cX3_multiply 157 = .ok (.aload_n 1, 1) := by decide +kernel
theorem dX3_multiply_158 : decode cX3_multiply 158 = .ok (.getfield 13, 3) := by decide +kernel
theorem dX3_multiply_161 : decode cX3_multiply 161 = .ok (.iadd, 1) := by decide +kernel
theorem dX3_multiply_162 : decode cX3_multiply 162 = .ok (.istore 8, 2) := by decide +kernel
theorem dX3_multiply_164 : decode cX3_multiply 164 = .ok (.lload 6, 2) := by decide +kernel
theorem dX3_multiply_166 : decode cX3_multiply 166 = .ok (.lconst 0, 1) := by decide +kernel
theorem dX3_multiply_167 : decode cX3_multiply 167 = .ok (.lcmp, 1) := by decide +kernel
theorem dX3_multiply_168 : decode cX3_multiply 168 = .ok (.ifCond .eq 49, 3) := by decide +kernel
theorem dX3_multiply_171 : decode cX3_multiply 171 = .ok (.iload 8, 2) := by decide +kernel
theorem dX3_multiply_173 : decode cX3_multiply 173 = .ok (.iload_n 2, 1) := by decide +kernel
theorem dX3_multiply_174 : decode cX3_multiply 174 = .ok (.if_icmp .ge 43, 3) := by decide +kernel
theorem dX3_multiply_177 : decode cX3_multiply 177 = .ok (.aload_n 0, 1) := by decide +kernel
theorem dX3_multiply_178 : decode cX3_multiply 178 = .ok (.getfield 9, 3) := by decide +kernel
theorem dX3_multiply_181 : decode cX3_multiply 181 = .ok (.iload 8, 2) := by decide +kernel
theorem dX3_multiply_183 : decode cX3_multiply 183 = .ok (.iaload, 1) := by decide +kernel
theorem dX3_multiply_184 : decode cX3_multiply 184 = .ok (.i2l, 1) := by decide +kernel
theorem dX3_multiply_185 : decode cX3_multiply 185 = .ok (.lload 6, 2) := by decide +kernel
theorem dX3_multiply_187 : decode cX3_multiply 187 = .ok (.ladd, 1) := by decide +kernel
theorem dX3_multiply_188 : decode cX3_multiply 188 = .ok (.lstore 9, 2) := by decide +kernel
theorem dX3_multiply_190 : decode cX3_multiply 190 = .ok (.aload_n 0, 1) := by decide +kernel
theorem dX3_multiply_191 : decode cX3_multiply 191 = .ok (.getfield 9, 3) := by decide +kernel
theorem dX3_multiply_194 : decode cX3_multiply 194 = .ok (.iload 8, 2) := by decide +kernel
theorem dX3_multiply_196 : decode cX3_multiply 196 = .ok (.lload 9, 2) := by decide +kernel
theorem dX3_multiply_198 : decode cX3_multiply 198 = .ok (.ldc2_w 20, 3) := by decide +kernel
theorem dX3_multiply_201 : decode cX3_multiply 201 = .ok (.land, 1) := by decide +kernel
theorem dX3_multiply_202 : decode cX3_multiply 202 = .ok (.l2i, 1) := by decide +kernel
theorem dX3_multiply_203 : decode cX3_multiply 203 = .ok (.iastore, 1) := by decide +kernel
theorem dX3_multiply_204 : decode cX3_multiply 204 = .ok (.lload 9, 2) := by decide +kernel
theorem dX3_multiply_206 : decode cX3_multiply 206 = .ok (.bipush 30, 2) := by decide +kernel
theorem dX3_multiply_208 : decode cX3_multiply 208 = .ok (.lushr, 1) := by decide +kernel
theorem dX3_multiply_209 : decode cX3_multiply 209 = .ok (.lstore 6, 2) := by decide +kernel
theorem dX3_multiply_211 : decode cX3_multiply 211 = .ok (.iinc 8 1, 3) := by decide +kernel
theorem dX3_multiply_214 : decode cX3_multiply 214 = .ok (.goto (-50), 3) := by decide +kernel
theorem dX3_multiply_217 : decode cX3_multiply 217 = .ok (.iinc 3 (-1), 3) := by decide +kernel
theorem dX3_multiply_220 : decode cX3_multiply 220 = .ok (.goto (-155), 3) := by decide +kernel
theorem dX3_multiply_223 : decode cX3_multiply 223 = .ok (.aload_n 0, 1) := by decide +kernel
theorem dX3_multiply_224 : decode cX3_multiply 224 = .ok (.dup, 1) := by decide +kernel
theorem dX3_multiply_225 : decode cX3_multiply 225 = .ok (.getfield 17, 3) := by decide +kernel
theorem dX3_multiply_228 : decode cX3_multiply 228 = .ok (.aload_n 1, 1) := by decide +kernel
theorem dX3_multiply_229 : decode cX3_multiply 229 = .ok (.getfield 17, 3) := by decide +kernel
theorem dX3_multiply_232 : decode cX3_multiply 232 = .ok (.imul, 1) := by decide +kernel
theorem dX3_multiply_233 : decode cX3_multiply 233 = .ok (.putfield 17, 3) := by decide +kernel
theorem dX3_multiply_236 : decode cX3_multiply 236 = .ok (.aload_n 0, 1) := by decide +kernel
theorem dX3_multiply_237 : decode cX3_multiply 237 = .ok (.iload_n 2, 1) := by decide +kernel
theorem dX3_multiply_238 : decode cX3_multiply 238 = .ok (.invokevirtual 36, 3) := by decide +kernel
theorem dX3_multiply_241 : decode cX3_multiply 241 = .ok (.return_, 1) := by decide +kernel
theorem dX3_shiftUp_0 : decode cX3_shiftUp 0 = .ok (.aload_n 0, 1) := by decide +kernel
theorem dX3_shiftUp_1 : decode cX3_shiftUp 1 = .ok (.getfield 17, 3) := by decide +kernel
theorem dX3_shiftUp_4 : decode cX3_shiftUp 4 = .ok (.ifCond .eq 7, 3) := by decide +kernel
theorem dX3_shiftUp_7 : decode cX3_shiftUp 7 = .ok (.iload_n 1, 1) := by decide +kernel
theorem dX3_shiftUp_8 : decode cX3_shiftUp 8 = .ok (.ifCond .gt 4, 3) := by decide +kernel
theorem dX3_shiftUp_11 : decode cX3_shiftUp 11 = .ok (.return_, 1) := by decide +kernel
theorem dX3_shiftUp_12 : decode cX3_shiftUp 12 = .ok (.iload_n 1, 1) := by decide +kernel
theorem dX3_shiftUp_13 : decode cX3_shiftUp 13 = .ok (.bipush 30, 2) := by decide +kernel
theorem dX3_shiftUp_15 : decode cX3_shiftUp 15 = .ok (.idiv, 1) := by decide +kernel
theorem dX3_shiftUp_16 : decode cX3_shiftUp 16 = .ok (.istore_n 2, 1) := by decide +kernel
theorem dX3_shiftUp_17 : decode cX3_shiftUp 17 = .ok (.iload_n 1, 1) := by decide +kernel
theorem dX3_shiftUp_18 : decode cX3_shiftUp 18 = .ok (.bipush 30, 2) := by decide +kernel
theorem dX3_shiftUp_20 : decode cX3_shiftUp 20 = .ok (.irem, 1) := by decide +kernel
theorem dX3_shiftUp_21 : decode cX3_shiftUp 21 = .ok (.istore_n 3, 1) := by decide +kernel
theorem dX3_shiftUp_22 : decode cX3_shiftUp 22 = .ok (.aload_n 0, 1) := by decide +kernel
theorem dX3_shiftUp_23 : decode cX3_shiftUp 23 = .ok (.getfield 13, 3) := by decide +kernel
theorem dX3_shiftUp_26 : decode cX3_shiftUp 26 = .ok (.iload_n 2, 1) := by decide +kernel
theorem dX3_shiftUp_27 : decode cX3_shiftUp 27 = .ok (.iadd, 1) := by decide +kernel
theorem dX3_shiftUp_28 : decode cX3_shiftUp 28 = .ok (.iconst 1, 1) := by decide +kernel
theorem dX3_shiftUp_29 : decode cX3_shiftUp 29 = .ok (.iadd, 1) := by decide +kernel
theorem dX3_shiftUp_30 : decode cX3_shiftUp 30 = .ok (.istore 4, 2) := by decide +kernel
theorem dX3_shiftUp_32 : decode cX3_shiftUp 32 = .ok (.aload_n 0, 1) := by decide +kernel
theorem dX3_shiftUp_33 : decode cX3_shiftUp 33 = .ok (.iload 4, 2) := by decide +kernel
theorem dX3_shiftUp_35 : decode cX3_shiftUp 35 = .ok (.invokevirtual 22, 3) := by decide +kernel
theorem dX3_shiftUp_38 : decode cX3_shiftUp 38 = .ok (.iload 4, 2) := by decide +kernel
theorem dX3_shiftUp_40 : decode cX3_shiftUp 40 = .ok (.iconst 1, 1) := by decide +kernel
theorem dX3_shiftUp_41 : decode cX3_shiftUp 41 = .ok (.isub, 1) := by decide +kernel
theorem dX3_shiftUp_42 : decode cX3_shiftUp 42 = .ok (.istore 5, 2) := by decide +kernel
theorem dX3_shiftUp_44 : decode cX3_shiftUp 44 = .ok (.iload 5, 2) := by decide +kernel
theorem dX3_shiftUp_46 : decode cX3_shiftUp 46 = .ok (.ifCond .lt 94, 3) := by decide +kernel
theorem dX3_shiftUp_49 : decode cX3_shiftUp 49 = .ok (.iload 5, 2) := by decide +kernel
theorem dX3_shiftUp_51 : decode cX3_shiftUp 51 = .ok (.iload_n 2, 1) := by decide +kernel
theorem dX3_shiftUp_52 : decode cX3_shiftUp 52 = .ok (.isub, 1) := by decide +kernel
theorem dX3_shiftUp_53 : decode cX3_shiftUp 53 = .ok (.istore 6, 2) := by decide +kernel
theorem dX3_shiftUp_55 : decode cX3_shiftUp 55 = .ok (.iload 6, 2) := by decide +kernel
theorem dX3_shiftUp_57 : decode cX3_shiftUp 57 = .ok (.ifCond .lt 22, 3) := by decide +kernel
theorem dX3_shiftUp_60 : decode cX3_shiftUp 60 = .ok (.iload 6, 2) := by decide +kernel
theorem dX3_shiftUp_62 : decode cX3_shiftUp 62 = .ok (.aload_n 0, 1) := by decide +kernel
theorem dX3_shiftUp_63 : decode cX3_shiftUp 63 = .ok (.getfield 13, 3) := by decide +kernel
theorem dX3_shiftUp_66 : decode cX3_shiftUp 66 = .ok (.if_icmp .ge 13, 3) := by decide +kernel
theorem dX3_shiftUp_69 : decode cX3_shiftUp 69 = .ok (.aload_n 0, 1) := by decide +kernel
theorem dX3_shiftUp_70 : decode cX3_shiftUp 70 = .ok (.getfield 9, 3) := by decide +kernel
theorem dX3_shiftUp_73 : decode cX3_shiftUp 73 = .ok (.iload 6, 2) := by decide +kernel
theorem dX3_shiftUp_75 : decode cX3_shiftUp 75 = .ok (.iaload, 1) := by decide +kernel
theorem dX3_shiftUp_76 : decode cX3_shiftUp 76 = .ok (.goto 4, 3) := by decide +kernel
theorem dX3_shiftUp_79 : decode cX3_shiftUp 79 = .ok (.iconst 0, 1) := by decide +kernel
theorem dX3_shiftUp_80 : decode cX3_shiftUp 80 = .ok (.istore 7, 2) := by decide +kernel
theorem dX3_shiftUp_82 : decode cX3_shiftUp 82 = .ok (.iload 6, 2) := by decide +kernel
theorem dX3_shiftUp_84 : decode cX3_shiftUp 84 = .ok (.iconst 1, 1) := by decide +kernel
theorem dX3_shiftUp_85 : decode cX3_shiftUp 85 = .ok (.if_icmp .lt 24, 3) := by decide +kernel
theorem dX3_shiftUp_88 : decode cX3_shiftUp 88 = .ok (.iload 6, 2) := by decide +kernel
theorem dX3_shiftUp_90 : decode cX3_shiftUp 90 = .ok (.aload_n 0, 1) := by decide +kernel
theorem dX3_shiftUp_91 : decode cX3_shiftUp 91 = .ok (.getfield 13, 3) := by decide +kernel
theorem dX3_shiftUp_94 : decode cX3_shiftUp 94 = .ok (.if_icmp .gt 15, 3) := by decide +kernel
theorem dX3_shiftUp_97 : decode cX3_shiftUp 97 = .ok (.aload_n 0, 1) := by decide +kernel
theorem dX3_shiftUp_98 : decode cX3_shiftUp 98 = .ok (.getfield 9, 3) := by decide +kernel
theorem dX3_shiftUp_101 : decode cX3_shiftUp 101 = .ok (.iload 6, 2) := by decide +kernel
theorem dX3_shiftUp_103 : decode cX3_shiftUp 103 = .ok (.iconst 1, 1) := by decide +kernel
theorem dX3_shiftUp_104 : decode cX3_shiftUp 104 = .ok (.isub, 1) := by decide +kernel
theorem dX3_shiftUp_105 : decode cX3_shiftUp 105 = .ok (.iaload, 1) := by decide +kernel
theorem dX3_shiftUp_106 : decode cX3_shiftUp 106 = .ok (.goto 4, 3) := by decide +kernel
theorem dX3_shiftUp_109 : decode cX3_shiftUp 109 = .ok (.iconst 0, 1) := by decide +kernel
theorem dX3_shiftUp_110 : decode cX3_shiftUp 110 = .ok (.istore 8, 2) := by decide +kernel
theorem dX3_shiftUp_112 : decode cX3_shiftUp 112 = .ok (.aload_n 0, 1) := by decide +kernel
theorem dX3_shiftUp_113 : decode cX3_shiftUp 113 = .ok (.getfield 9, 3) := by decide +kernel
theorem dX3_shiftUp_116 : decode cX3_shiftUp 116 = .ok (.iload 5, 2) := by decide +kernel
theorem dX3_shiftUp_118 : decode cX3_shiftUp 118 = .ok (.iload 7, 2) := by decide +kernel
theorem dX3_shiftUp_120 : decode cX3_shiftUp 120 = .ok (.iload_n 3, 1) := by decide +kernel
theorem dX3_shiftUp_121 : decode cX3_shiftUp 121 = .ok (.ishl, 1) := by decide +kernel
theorem dX3_shiftUp_122 : decode cX3_shiftUp 122 = .ok (.iload 8, 2) := by decide +kernel
theorem dX3_shiftUp_124 : decode cX3_shiftUp 124 = .ok (.bipush 30, 2) := by decide +kernel
theorem dX3_shiftUp_126 : decode cX3_shiftUp 126 = .ok (.iload_n 3, 1) := by decide +kernel
theorem dX3_shiftUp_127 : decode cX3_shiftUp 127 = .ok (.isub, 1) := by decide +kernel
theorem dX3_shiftUp_128 : decode cX3_shiftUp 128 = .ok (.iushr, 1) := by decide +kernel
theorem dX3_shiftUp_129 : decode cX3_shiftUp 129 = .ok (.ior, 1) := by decide +kernel
theorem dX3_shiftUp_130 : decode cX3_shiftUp 130 = .ok (.ldc 47, 2) := by decide +kernel
theorem dX3_shiftUp_132 : decode cX3_shiftUp 132 = .ok (.iand, 1) := by decide +kernel
theorem dX3_shiftUp_133 : decode cX3_shiftUp 133 = .ok (.iastore, 1) := by decide +kernel
theorem dX3_shiftUp_134 : decode cX3_shiftUp 134 = .ok (.iinc 5 (-1), 3) := by decide +kernel
theorem dX3_shiftUp_137 : decode cX3_shiftUp 137 = .ok (.goto (-93), 3) := by decide +kernel
theorem dX3_shiftUp_140 : decode cX3_shiftUp 140 = .ok (.aload_n 0, 1) := by decide +kernel
theorem dX3_shiftUp_141 : decode cX3_shiftUp 141 = .ok (.iload 4, 2) := by decide +kernel
theorem dX3_shiftUp_143 : decode cX3_shiftUp 143 = .ok (.invokevirtual 36, 3) := by decide +kernel
theorem dX3_shiftUp_146 : decode cX3_shiftUp 146 = .ok (.return_, 1) := by decide +kernel
theorem dX3_shiftDown_0 : decode cX3_shiftDown 0 = .ok (.aload_n 0, 1) := by decide +kernel
theorem dX3_shiftDown_1 : decode cX3_shiftDown 1 = .ok (.getfield 17, 3) := by decide +kernel
theorem dX3_shiftDown_4 : decode cX3_shiftDown 4 = .ok (.ifCond .eq 7, 3) := by decide +kernel
theorem dX3_shiftDown_7 : decode cX3_shiftDown 7 = .ok (.iload_n 1, 1) := by decide +kernel
theorem dX3_shiftDown_8 : decode cX3_shiftDown 8 = .ok (.ifCond .gt 4, 3) := by decide +kernel
theorem dX3_shiftDown_11 : decode cX3_shiftDown 11 = .ok (.return_, 1) := by decide +kernel
theorem dX3_shiftDown_12 : decode cX3_shiftDown 12 = .ok (.iload_n 1, 1) := by decide +kernel
theorem dX3_shiftDown_13 : decode cX3_shiftDown 13 = .ok (.bipush 30, 2) := by decide +kernel
theorem dX3_shiftDown_15 : decode cX3_shiftDown 15 = .ok (.idiv, 1) := by decide +kernel
theorem dX3_shiftDown_16 : decode cX3_shiftDown 16 = .ok (.istore_n 2, 1) := by decide +kernel
theorem dX3_shiftDown_17 : decode cX3_shiftDown 17 = .ok (.iload_n 1, 1) := by decide +kernel
theorem dX3_shiftDown_18 : decode cX3_shiftDown 18 = .ok (.bipush 30, 2) := by decide +kernel
theorem dX3_shiftDown_20 : decode cX3_shiftDown 20 = .ok (.irem, 1) := by decide +kernel
theorem dX3_shiftDown_21 : decode cX3_shiftDown 21 = .ok (.istore_n 3, 1) := by decide +kernel
theorem dX3_shiftDown_22 : decode cX3_shiftDown 22 = .ok (.iconst 0, 1) := by decide +kernel
theorem dX3_shiftDown_23 : decode cX3_shiftDown 23 = .ok (.istore 4, 2) := by decide +kernel
theorem dX3_shiftDown_25 : decode cX3_shiftDown 25 = .ok (.iload 4, 2) := by decide +kernel
theorem dX3_shiftDown_27 : decode cX3_shiftDown 27 = .ok (.aload_n 0, 1) := by decide +kernel
theorem dX3_shiftDown_28 : decode cX3_shiftDown 28 = .ok (.getfield 13, 3) := by decide +kernel
theorem dX3_shiftDown_31 : decode cX3_shiftDown 31 = .ok (.if_icmp .ge 85, 3) := by decide +kernel
theorem dX3_shiftDown_34 : decode cX3_shiftDown 34 = .ok (.iload 4, 2) := by decide +kernel
theorem dX3_shiftDown_36 : decode cX3_shiftDown 36 = .ok (.iload_n 2, 1) := by decide +kernel
theorem dX3_shiftDown_37 : decode cX3_shiftDown 37 = .ok (.iadd, 1) := by decide +kernel
theorem dX3_shiftDown_38 : decode cX3_shiftDown 38 = .ok (.istore 5, 2) := by decide +kernel
theorem dX3_shiftDown_40 : decode cX3_shiftDown 40 = .ok (.iload 5, 2) := by decide +kernel
theorem dX3_shiftDown_42 : decode cX3_shiftDown 42 = .ok (.aload_n 0, 1) := by decide +kernel
theorem dX3_shiftDown_43 : decode cX3_shiftDown 43 = .ok (.getfield 13, 3) := by decide +kernel
theorem dX3_shiftDown_46 : decode cX3_shiftDown 46 = .ok (.if_icmp .ge 13, 3) := by decide +kernel
theorem dX3_shiftDown_49 : decode cX3_shiftDown 49 = .ok (.aload_n 0, 1) := by decide +kernel
theorem dX3_shiftDown_50 : decode cX3_shiftDown 50 = .ok (.getfield 9, 3) := by decide +kernel
theorem dX3_shiftDown_53 : decode cX3_shiftDown 53 = .ok (.iload 5, 2) := by decide +kernel
theorem dX3_shiftDown_55 : decode cX3_shiftDown 55 = .ok (.iaload, 1) := by decide +kernel
theorem dX3_shiftDown_56 : decode cX3_shiftDown 56 = .ok (.goto 4, 3) := by decide +kernel
theorem dX3_shiftDown_59 : decode cX3_shiftDown 59 = .ok (.iconst 0, 1) := by decide +kernel
theorem dX3_shiftDown_60 : decode cX3_shiftDown 60 = .ok (.istore 6, 2) := by decide +kernel
theorem dX3_shiftDown_62 : decode cX3_shiftDown 62 = .ok (.iload 5, 2) := by decide +kernel
theorem dX3_shiftDown_64 : decode cX3_shiftDown 64 = .ok (.iconst 1, 1) := by decide +kernel
theorem dX3_shiftDown_65 : decode cX3_shiftDown 65 = .ok (.iadd, 1) := by decide +kernel
theorem dX3_shiftDown_66 : decode cX3_shiftDown 66 = .ok (.aload_n 0, 1) := by decide +kernel
theorem dX3_shiftDown_67 : decode cX3_shiftDown 67 = .ok (.getfield 13, 3) := by decide +kernel
theorem dX3_shiftDown_70 : decode cX3_shiftDown 70 = .ok (.if_icmp .ge 15, 3) := by decide +kernel
theorem dX3_shiftDown_73 : decode cX3_shiftDown 73 = .ok (.aload_n 0, 1) := by decide +kernel
theorem dX3_shiftDown_74 : decode cX3_shiftDown 74 = .ok (.getfield 9, 3) := by decide +kernel
theorem dX3_shiftDown_77 : decode cX3_shiftDown 77 = .ok (.iload 5, 2) := by decide +kernel
theorem dX3_shiftDown_79 : decode cX3_shiftDown 79 = .ok (.iconst 1, 1) := by decide +kernel
theorem dX3_shiftDown_80 : decode cX3_shiftDown 80 = .ok (.iadd, 1) := by decide +kernel
theorem dX3_shiftDown_81 : decode cX3_shiftDown 81 = .ok (.iaload, 1) := by decide +kernel
theorem dX3_shiftDown_82 : decode cX3_shiftDown 82 = .ok (.goto 4, 3) := by decide +kernel
theorem dX3_shiftDown_85 : decode cX3_shiftDown 85 = .ok (.iconst 0, 1) := by decide +kernel
theorem dX3_shiftDown_86 : decode cX3_shiftDown 86 = .ok (.istore 7, 2) := by decide +kernel
theorem dX3_shiftDown_88 : decode cX3_shiftDown 88 = .ok (.aload_n 0, 1) := by decide +kernel
theorem dX3_shiftDown_89 : decode cX3_shiftDown 89 = .ok (.getfield 9, 3) := by decide +kernel
theorem dX3_shiftDown_92 : decode cX3_shiftDown 92 = .ok (.iload 4, 2) := by decide +kernel
theorem dX3_shiftDown_94 : decode cX3_shiftDown 94 = .ok (.iload 6, 2) := by decide +kernel
theorem dX3_shiftDown_96 : decode cX3_shiftDown 96 = .ok (.iload_n 3, 1) := by decide +kernel
theorem dX3_shiftDown_97 : decode cX3_shiftDown 97 = .ok (.iushr, 1) := by decide +kernel
theorem dX3_shiftDown_98 : decode cX3_shiftDown 98 = .ok (.iload 7, 2) := by decide +kernel
theorem dX3_shiftDown_100 : decode cX3_shiftDown 100 = .ok (.bipush 30, 2) := by decide +kernel
theorem dX3_shiftDown_102 : decode cX3_shiftDown 102 = .ok (.iload_n 3, 1) := by decide +kernel
theorem dX3_shiftDown_103 : decode cX3_shiftDown 103 = .ok (.isub, 1) := by decide +kernel
theorem dX3_shiftDown_104 : decode cX3_shiftDown 104 = .ok (.ishl, 1) := by decide +kernel
theorem dX3_shiftDown_105 : decode cX3_shiftDown 105 = .ok (.ior, 1) := by decide +kernel
theorem dX3_shiftDown_106 : decode cX3_shiftDown 106 = .ok (.ldc 47, 2) := by decide +kernel
theorem dX3_shiftDown_108 : decode cX3_shiftDown 108 = .ok (.iand, 1) := by decide +kernel
theorem dX3_shiftDown_109 : decode cX3_shiftDown 109 = .ok (.iastore, 1) := by decide +kernel
theorem dX3_shiftDown_110 : decode cX3_shiftDown 110 = .ok (.iinc 4 1, 3) := by decide +kernel
theorem dX3_shiftDown_113 : decode cX3_shiftDown 113 = .ok (.goto (-88), 3) := by decide +kernel
theorem dX3_shiftDown_116 : decode cX3_shiftDown 116 = .ok (.aload_n 0, 1) := by decide +kernel
theorem dX3_shiftDown_117 : decode cX3_shiftDown 117 = .ok (.aload_n 0, 1) := by decide +kernel
theorem dX3_shiftDown_118 : decode cX3_shiftDown 118 = .ok (.getfield 13, 3) := by decide +kernel
theorem dX3_shiftDown_121 : decode cX3_shiftDown 121 = .ok (.invokevirtual 36, 3) := by decide +kernel
theorem dX3_shiftDown_124 : decode cX3_shiftDown 124 = .ok (.return_, 1) := by decide +kernel
theorem dX3_makeOdd_0 : decode cX3_makeOdd 0 = .ok (.iconst 0, 1) := by decide +kernel
theorem dX3_makeOdd_1 : decode cX3_makeOdd 1 = .ok (.istore_n 1, 1) := by decide +kernel
theorem dX3_makeOdd_2 : decode cX3_makeOdd 2 = .ok (.iload_n 1, 1) := by decide +kernel
theorem dX3_makeOdd_3 : decode cX3_makeOdd 3 = .ok (.aload_n 0, 1) := by decide +kernel
theorem dX3_makeOdd_4 : decode cX3_makeOdd 4 = .ok (.getfield 13, 3) := by decide +kernel
theorem dX3_makeOdd_7 : decode cX3_makeOdd 7 = .ok (.bipush 30, 2) := by decide +kernel
theorem dX3_makeOdd_9 : decode cX3_makeOdd 9 = .ok (.imul, 1) := by decide +kernel
theorem dX3_makeOdd_10 : decode cX3_makeOdd 10 = .ok (.if_icmp .ge 28, 3) := by decide +kernel
theorem dX3_makeOdd_13 : decode cX3_makeOdd 13 = .ok (.aload_n 0, 1) := by decide +kernel
theorem dX3_makeOdd_14 : decode cX3_makeOdd 14 = .ok (.getfield 9, 3) := by decide +kernel
theorem dX3_makeOdd_17 : decode cX3_makeOdd 17 = .ok (.iload_n 1, 1) := by decide +kernel
theorem dX3_makeOdd_18 : decode cX3_makeOdd 18 = .ok (.bipush 30, 2) := by decide +kernel
theorem dX3_makeOdd_20 : decode cX3_makeOdd 20 = .ok (.idiv, 1) := by decide +kernel
theorem dX3_makeOdd_21 : decode cX3_makeOdd 21 = .ok (.iaload, 1) := by decide +kernel
theorem dX3_makeOdd_22 : decode cX3_makeOdd 22 = .ok (.iload_n 1, 1) := by decide +kernel
theorem dX3_makeOdd_23 : decode cX3_makeOdd 23 = .ok (.bipush 30, 2) := by decide +kernel
theorem dX3_makeOdd_25 : decode cX3_makeOdd 25 = .ok (.irem, 1) := by decide +kernel
theorem dX3_makeOdd_26 : decode cX3_makeOdd 26 = .ok (.ishr, 1) := by decide +kernel
theorem dX3_makeOdd_27 : decode cX3_makeOdd 27 = .ok (.iconst 1, 1) := by decide +kernel
theorem dX3_makeOdd_28 : decode cX3_makeOdd 28 = .ok (.iand, 1) := by decide +kernel
theorem dX3_makeOdd_29 : decode cX3_makeOdd 29 = .ok (.ifCond .ne 9, 3) := by decide +kernel
theorem dX3_makeOdd_32 : decode cX3_makeOdd 32 = .ok (.iinc 1 1, 3) := by decide +kernel
theorem dX3_makeOdd_35 : decode cX3_makeOdd 35 = .ok (.goto (-33), 3) := by decide +kernel
theorem dX3_makeOdd_38 : decode cX3_makeOdd 38 = .ok (.aload_n 0, 1) := by decide +kernel
theorem dX3_makeOdd_39 : decode cX3_makeOdd 39 = .ok (.iload_n 1, 1) := by decide +kernel
theorem dX3_makeOdd_40 : decode cX3_makeOdd 40 = .ok (.invokevirtual 48, 3) := by decide +kernel
theorem dX3_makeOdd_43 : decode cX3_makeOdd 43 = .ok (.iload_n 1, 1) := by decide +kernel
theorem dX3_makeOdd_44 : decode cX3_makeOdd 44 = .ok (.ireturn, 1) := by decide +kernel
theorem dX3_divideByOdd_0 : decode cX3_divideByOdd 0 = .ok (.aload_n 0, 1) := by decide +kernel
theorem dX3_divideByOdd_1 : decode cX3_divideByOdd 1 = .ok (.getfield 13, 3) := by decide +kernel
theorem dX3_divideByOdd_4 : decode cX3_divideByOdd 4 = .ok (.aload_n 1, 1) := by decide +kernel
theorem dX3_divideByOdd_5 : decode cX3_divideByOdd 5 = .ok (.getfield 13, 3) := by decide +kernel
theorem dX3_divideByOdd_8 : decode cX3_divideByOdd 8 = .ok (.isub, 1) := by decide +kernel
theorem dX3_divideByOdd_9 : decode cX3_divideByOdd 9 = .ok (.iconst 1, 1) := by decide +kernel
theorem dX3_divideByOdd_10 : decode cX3_divideByOdd 10 = .ok (.iadd, 1) := by decide +kernel
theorem dX3_divideByOdd_11 : decode cX3_divideByOdd 11 = .ok (.istore_n 2, 1) := by decide +kernel
theorem dX3_divideByOdd_12 : decode cX3_divideByOdd 12 = .ok (.aload_n 0, 1) := by decide +kernel
theorem dX3_divideByOdd_13 : decode cX3_divideByOdd 13 = .ok (.getfield 17, 3) := by decide +kernel
theorem dX3_divideByOdd_16 : decode cX3_divideByOdd 16 = .ok (.ifCond .eq 14, 3) := by decide +kernel
theorem dX3_divideByOdd_19 : decode cX3_divideByOdd 19 = .ok (.aload_n 1, 1) := by decide +kernel
theorem dX3_divideByOdd_20 : decode cX3_divideByOdd 20 = .ok (.getfield 17, 3) := by decide +kernel
theorem dX3_divideByOdd_23 : decode cX3_divideByOdd 23 = .ok (.ifCond .eq 7, 3) := by decide +kernel
theorem dX3_divideByOdd_26 : decode cX3_divideByOdd 26 = .ok (.iload_n 2, 1) := by decide +kernel
theorem dX3_divideByOdd_27 : decode cX3_divideByOdd 27 = .ok (.ifCond .gt 9, 3) := by decide +kernel
theorem dX3_divideByOdd_30 : decode cX3_divideByOdd 30 = .ok (.aload_n 0, 1) := by decide +kernel
theorem dX3_divideByOdd_31 : decode cX3_divideByOdd 31 = .ok (.iconst 0, 1) := by decide +kernel
theorem dX3_divideByOdd_32 : decode cX3_divideByOdd 32 = .ok (.invokevirtual 36, 3) := by decide +kernel
theorem dX3_divideByOdd_35 : decode cX3_divideByOdd 35 = .ok (.return_, 1) := by decide +kernel
theorem dX3_divideByOdd_36 : decode cX3_divideByOdd 36 = .ok (.aload_n 1, 1) := by decide +kernel
theorem dX3_divideByOdd_37 : decode cX3_divideByOdd 37 = .ok (.getfield 9, 3) := by decide +kernel
theorem dX3_divideByOdd_40 : decode cX3_divideByOdd 40 = .ok (.iconst 0, 1) := by decide +kernel
theorem dX3_divideByOdd_41 : decode cX3_divideByOdd 41 = .ok (.iaload, 1) := by decide +kernel
theorem dX3_divideByOdd_42 : decode cX3_divideByOdd 42 = .ok (.invokestatic 51, 3) := by decide +kernel
theorem dX3_divideByOdd_45 : decode cX3_divideByOdd 45 = .ok (.istore_n 3, 1) := by decide +kernel
theorem dX3_divideByOdd_46 : decode cX3_divideByOdd 46 = .ok (.iconst 0, 1) := by decide +kernel
theorem dX3_divideByOdd_47 : decode cX3_divideByOdd 47 = .ok (.istore 4, 2) := by decide +kernel
theorem dX3_divideByOdd_49 : decode cX3_divideByOdd 49 = .ok (.iload 4, 2) := by decide +kernel
theorem dX3_divideByOdd_51 : decode cX3_divideByOdd 51 = .ok (.iload_n 2, 1) := by decide +kernel
theorem dX3_divideByOdd_52 : decode cX3_divideByOdd 52 = .ok (.if_icmp .ge 179, 3) := by decide +kernel
theorem dX3_divideByOdd_55 : decode cX3_divideByOdd 55 = .ok (.aload_n 0, 1) := by decide +kernel
theorem dX3_divideByOdd_56 : decode cX3_divideByOdd 56 = .ok (.getfield 9, 3) := by decide +kernel
theorem dX3_divideByOdd_59 : decode cX3_divideByOdd 59 = .ok (.iload 4, 2) := by decide +kernel
theorem dX3_divideByOdd_61 : decode cX3_divideByOdd 61 = .ok (.iaload, 1) := by decide +kernel
theorem dX3_divideByOdd_62 : decode cX3_divideByOdd 62 = .ok (.iload_n 3, 1) := by decide +kernel
theorem dX3_divideByOdd_63 : decode cX3_divideByOdd 63 = .ok (.imul, 1) := by decide +kernel
theorem dX3_divideByOdd_64 : decode cX3_divideByOdd 64 = .ok (.ldc 47, 2) := by decide +kernel
theorem dX3_divideByOdd_66 : decode cX3_divideByOdd 66 = .ok (.iand, 1) := by decide +kernel
theorem dX3_divideByOdd_67 : decode cX3_divideByOdd 67 = .ok (.istore 5, 2) := by decide +kernel
theorem dX3_divideByOdd_69 : decode cX3_divideByOdd 69 = .ok (.lconst 0, 1) := by decide +kernel
theorem dX3_divideByOdd_70 : decode cX3_divideByOdd 70 = .ok (.lstore 6, 2) := by decide +kernel
theorem dX3_divideByOdd_72 : decode cX3_divideByOdd 72 = .ok (.iconst 0, 1) := by decide +kernel
theorem dX3_divideByOdd_73 : decode cX3_divideByOdd 73 = .ok (.istore 8, 2) := by decide +kernel
theorem dX3_divideByOdd_75 : decode cX3_divideByOdd 75 = .ok (.iload 8, 2) := by decide +kernel
theorem dX3_divideByOdd_77 : decode cX3_divideByOdd 77 = .ok (.aload_n 1, 1) := by decide +kernel
theorem dX3_divideByOdd_78 : decode cX3_divideByOdd 78 = .ok (.getfield 13, 3) := by decide +kernel
theorem dX3_divideByOdd_81 : decode cX3_divideByOdd 81 = .ok (.if_icmp .ge 72, 3) := by decide +kernel
theorem dX3_divideByOdd_84 : decode cX3_divideByOdd 84 = .ok (.iload 4, 2) := by decide +kernel
theorem dX3_divideByOdd_86 : decode cX3_divideByOdd 86 = .ok (.iload 8, 2) := by decide +kernel
theorem dX3_divideByOdd_88 : decode cX3_divideByOdd 88 = .ok (.iadd, 1) := by decide +kernel
theorem dX3_divideByOdd_89 : decode cX3_divideByOdd 89 = .ok (.iload_n 2, 1) := by decide +kernel
theorem dX3_divideByOdd_90 : decode cX3_divideByOdd 90 = .ok (.if_icmp .ge 63, 3) := by decide +kernel
theorem dX3_divideByOdd_93 : decode cX3_divideByOdd 93 = .ok (.aload_n 0, 1) := by decide +kernel
theorem dX3_divideByOdd_94 : decode cX3_divideByOdd 94 = .ok (.getfield 9, 3) := by decide +kernel
theorem dX3_divideByOdd_97 : decode cX3_divideByOdd 97 = .ok (.iload 4, 2) := by decide +kernel
theorem dX3_divideByOdd_99 : decode cX3_divideByOdd 99 = .ok (.iload 8, 2) := by decide +kernel
theorem dX3_divideByOdd_101 : decode cX3_divideByOdd 101 = .ok (.iadd, 1) := by decide +kernel
theorem dX3_divideByOdd_102 : decode cX3_divideByOdd 102 = .ok (.iaload, 1) := by decide +kernel
theorem dX3_divideByOdd_103 : decode cX3_divideByOdd 103 = .ok (.i2l, 1) := by decide +kernel
theorem dX3_divideByOdd_104 : decode cX3_divideByOdd 104 = .ok (.iload 5, 2) := by decide +kernel
theorem dX3_divideByOdd_106 : decode cX3_divideByOdd 106 = .ok (.i2l, 1) := by decide +kernel
theorem dX3_divideByOdd_107 : decode cX3_divideByOdd 107 = .ok (.aload_n 1, 1) := by decide +kernel
theorem dX3_divideByOdd_108 : decode cX3_divideByOdd 108 = .ok (.getfield 9, 3) := by decide +kernel
theorem dX3_divideByOdd_111 : decode cX3_divideByOdd 111 = .ok (.iload 8, 2) := by decide +kernel
theorem dX3_divideByOdd_113 : decode cX3_divideByOdd 113 = .ok (.iaload, 1) := by decide +kernel
theorem dX3_divideByOdd_114 : decode cX3_divideByOdd 114 = .ok (.i2l, 1) := by decide +kernel
theorem dX3_divideByOdd_115 : decode cX3_divideByOdd 115 = .ok (.lmul, 1) := by decide +kernel
theorem dX3_divideByOdd_116 : decode cX3_divideByOdd 116 = .ok (.lsub, 1) := by decide +kernel
theorem dX3_divideByOdd_117 : decode cX3_divideByOdd 117 = .ok (.lload 6, 2) := by decide +kernel
theorem dX3_divideByOdd_119 : decode cX3_divideByOdd 119 = .ok (.lsub, 1) := by decide +kernel
theorem dX3_divideByOdd_120 : decode cX3_divideByOdd 120 = .ok (.lstore 9, 2) := by decide +kernel
theorem dX3_divideByOdd_122 : decode cX3_divideByOdd 122 = .ok (.aload_n 0, 1) := by decide +kernel
theorem dX3_divideByOdd_123 : decode cX3_divideByOdd 123 = .ok (.getfield 9, 3) := by decide +kernel
theorem dX3_divideByOdd_126 : decode cX3_divideByOdd 126 = .ok (.iload 4, 2) := by decide +kernel
theorem dX3_divideByOdd_128 : decode cX3_divideByOdd 128 = .ok (.iload 8, 2) := by decide +kernel
theorem dX3_divideByOdd_130 : decode cX3_divideByOdd 130 = .ok (.iadd, 1) := by decide +kernel
theorem dX3_divideByOdd_131 : decode cX3_divideByOdd 131 = .ok (.lload 9, 2) := by decide +kernel
theorem dX3_divideByOdd_133 : decode cX3_divideByOdd 133 = .ok (.ldc2_w 20, 3) := by decide +kernel
theorem dX3_divideByOdd_136 : decode cX3_divideByOdd 136 = .ok (.land, 1) := by decide +kernel
theorem dX3_divideByOdd_137 : decode cX3_divideByOdd 137 = .ok (.l2i, 1) := by decide +kernel
theorem dX3_divideByOdd_138 : decode cX3_divideByOdd 138 = .ok (.iastore, 1) := by decide +kernel
theorem dX3_divideByOdd_139 : decode cX3_divideByOdd 139 = .ok (.lload 9, 2) := by decide +kernel
theorem dX3_divideByOdd_141 : decode cX3_divideByOdd 141 = .ok (.bipush 30, 2) := by decide +kernel
theorem dX3_divideByOdd_143 : decode cX3_divideByOdd 143 = .ok (.lshr, 1) := by decide +kernel
theorem dX3_divideByOdd_144 : decode cX3_divideByOdd 144 = .ok (.lneg, 1) := by decide +kernel
theorem dX3_divideByOdd_145 : decode cX3_divideByOdd 145 = .ok (.lstore 6, 2) := by decide +kernel
theorem dX3_divideByOdd_147 : decode cX3_divideByOdd 147 = .ok (.iinc 8 1, 3) := by decide +kernel
theorem dX3_divideByOdd_150 : decode cX3_divideByOdd 150 = .ok (.goto (-75), 3) := by decide +kernel
theorem dX3_divideByOdd_153 : decode cX3_divideByOdd 153 = .ok (.iload 4, 2) := by decide +kernel
theorem dX3_divideByOdd_155 : decode cX3_divideByOdd 155 = .ok (.aload_n 1, 1) := by decide +kernel
theorem dX3_divideByOdd_156 : decode cX3_divideByOdd 156 = .ok (.getfield 13, 3) := by decide +kernel
theorem dX3_divideByOdd_159 : decode cX3_divideByOdd 159 = .ok (.iadd, 1) := by decide +kernel
theorem dX3_divideByOdd_160 : decode cX3_divideByOdd 160 = .ok (.istore 8, 2) := by decide +kernel
theorem dX3_divideByOdd_162 : decode cX3_divideByOdd 162 = .ok (.lload 6, 2) := by decide +kernel
theorem dX3_divideByOdd_164 : decode cX3_divideByOdd 164 = .ok (.lconst 0, 1) := by decide +kernel
theorem dX3_divideByOdd_165 : decode cX3_divideByOdd 165 = .ok (.lcmp, 1) := by decide +kernel
theorem dX3_divideByOdd_166 : decode cX3_divideByOdd 166 = .ok (.ifCond .eq 50, 3) := by decide +kernel
theorem dX3_divideByOdd_169 : decode cX3_divideByOdd 169 = .ok (.iload 8, 2) := by decide +kernel
theorem dX3_divideByOdd_171 : decode cX3_divideByOdd 171 = .ok (.iload_n 2, 1) := by decide +kernel
theorem dX3_divideByOdd_172 : decode cX3_divideByOdd 172 = .ok (.if_icmp .ge 44, 3) := by decide +kernel
theorem dX3_divideByOdd_175 : decode cX3_divideByOdd 175 = .ok (.aload_n 0, 1) := by decide +kernel
theorem dX3_divideByOdd_176 : decode cX3_divideByOdd 176 = .ok (.getfield 9, 3) := by decide +kernel
theorem dX3_divideByOdd_179 : decode cX3_divideByOdd 179 = .ok (.iload 8, 2) := by decide +kernel
theorem dX3_divideByOdd_181 : decode cX3_divideByOdd 181 = .ok (.iaload, 1) := by decide +kernel
theorem dX3_divideByOdd_182 : decode cX3_divideByOdd 182 = .ok (.i2l, 1) := by decide +kernel
theorem dX3_divideByOdd_183 : decode cX3_divideByOdd 183 = .ok (.lload 6, 2) := by decide +kernel
theorem dX3_divideByOdd_185 : decode cX3_divideByOdd 185 = .ok (.lsub, 1) := by decide +kernel
theorem dX3_divideByOdd_186 : decode cX3_divideByOdd 186 = .ok (.lstore 9, 2) := by decide +kernel
theorem dX3_divideByOdd_188 : decode cX3_divideByOdd 188 = .ok (.aload_n 0, 1) := by decide +kernel
theorem dX3_divideByOdd_189 : decode cX3_divideByOdd 189 = .ok (.getfield 9, 3) := by decide +kernel
theorem dX3_divideByOdd_192 : decode cX3_divideByOdd 192 = .ok (.iload 8, 2) := by decide +kernel
theorem dX3_divideByOdd_194 : decode cX3_divideByOdd 194 = .ok (.lload 9, 2) := by decide +kernel
theorem dX3_divideByOdd_196 : decode cX3_divideByOdd 196 = .ok (.ldc2_w 20, 3) := by decide +kernel
theorem dX3_divideByOdd_199 : decode cX3_divideByOdd 199 = .ok (.land, 1) := by decide +kernel
theorem dX3_divideByOdd_200 : decode cX3_divideByOdd 200 = .ok (.l2i, 1) := by decide +kernel
theorem dX3_divideByOdd_201 : decode cX3_divideByOdd 201 = .ok (.iastore, 1) := by decide +kernel
theorem dX3_divideByOdd_202 : decode cX3_divideByOdd 202 = .ok (.lload 9, 2) := by decide +kernel
theorem dX3_divideByOdd_204 : decode cX3_divideByOdd 204 = .ok (.bipush 30, 2) := by decide +kernel
theorem dX3_divideByOdd_206 : decode cX3_divideByOdd 206 = .ok (.lshr, 1) := by decide +kernel
theorem dX3_divideByOdd_207 : decode cX3_divideByOdd 207 = .ok (.lneg, 1) := by decide +kernel
theorem dX3_divideByOdd_208 : decode cX3_divideByOdd 208 = .ok (.lstore 6, 2) := by decide +kernel
theorem dX3_divideByOdd_210 : decode cX3_divideByOdd 210 = .ok (.iinc 8 1, 3) := by decide +kernel
theorem dX3_divideByOdd_213 : decode cX3_divideByOdd 213 = .ok (.goto (-51), 3) := by decide +kernel
theorem dX3_divideByOdd_216 : decode cX3_divideByOdd 216 = .ok (.aload_n 0, 1) := by decide +kernel
theorem dX3_divideByOdd_217 : decode cX3_divideByOdd 217 = .ok (.getfield 9, 3) := by decide +kernel
theorem dX3_divideByOdd_220 : decode cX3_divideByOdd 220 = .ok (.iload 4, 2) := by decide +kernel
theorem dX3_divideByOdd_222 : decode cX3_divideByOdd 222 = .ok (.iload 5, 2) := by decide +kernel
theorem dX3_divideByOdd_224 : decode cX3_divideByOdd 224 = .ok (.iastore, 1) := by decide +kernel
theorem dX3_divideByOdd_225 : decode cX3_divideByOdd 225 = .ok (.iinc 4 1, 3) := by decide +kernel
theorem dX3_divideByOdd_228 : decode cX3_divideByOdd 228 = .ok (.goto (-179), 3) := by decide +kernel
theorem dX3_divideByOdd_231 : decode cX3_divideByOdd 231 = .ok (.aload_n 0, 1) := by decide +kernel
theorem dX3_divideByOdd_232 : decode cX3_divideByOdd 232 = .ok (.dup, 1) := by decide +kernel
theorem dX3_divideByOdd_233 : decode cX3_divideByOdd 233 = .ok (.getfield 17, 3) := by decide +kernel
theorem dX3_divideByOdd_236 : decode cX3_divideByOdd 236 = .ok (.aload_n 1, 1) := by decide +kernel
theorem dX3_divideByOdd_237 : decode cX3_divideByOdd 237 = .ok (.getfield 17, 3) := by decide +kernel
theorem dX3_divideByOdd_240 : decode cX3_divideByOdd 240 = .ok (.imul, 1) := by decide +kernel
theorem dX3_divideByOdd_241 : decode cX3_divideByOdd 241 = .ok (.putfield 17, 3) := by decide +kernel
theorem dX3_divideByOdd_244 : decode cX3_divideByOdd 244 = .ok (.aload_n 0, 1) := by decide +kernel
theorem dX3_divideByOdd_245 : decode cX3_divideByOdd 245 = .ok (.iload_n 2, 1) := by decide +kernel
theorem dX3_divideByOdd_246 : decode cX3_divideByOdd 246 = .ok (.invokevirtual 36, 3) := by decide +kernel
theorem dX3_divideByOdd_249 : decode cX3_divideByOdd 249 = .ok (.return_, 1) := by decide +kernel
theorem dX3_inverseOf_0 : decode cX3_inverseOf 0 = .ok (.iload_n 0, 1) := by decide +kernel
theorem dX3_inverseOf_1 : decode cX3_inverseOf 1 = .ok (.istore_n 1, 1) := by decide +kernel
theorem dX3_inverseOf_2 : decode cX3_inverseOf 2 = .ok (.iconst 0, 1) := by decide +kernel
theorem dX3_inverseOf_3 : decode cX3_inverseOf 3 = .ok (.istore_n 2, 1) := by decide +kernel
theorem dX3_inverseOf_4 : decode cX3_inverseOf 4 = .ok (.iload_n 2, 1) := by decide +kernel
theorem dX3_inverseOf_5 : decode cX3_inverseOf 5 = .ok (.iconst 4, 1) := by decide +kernel
theorem dX3_inverseOf_6 : decode cX3_inverseOf 6 = .ok (.if_icmp .ge 17, 3) := by decide +kernel
theorem dX3_inverseOf_9 : decode cX3_inverseOf 9 = .ok (.iload_n 1, 1) := by decide +kernel
theorem dX3_inverseOf_10 : decode cX3_inverseOf 10 = .ok (.iconst 2, 1) := by decide +kernel
theorem dX3_inverseOf_11 : decode cX3_inverseOf 11 = .ok (.iload_n 0, 1) := by decide +kernel
theorem dX3_inverseOf_12 : decode cX3_inverseOf 12 = .ok (.iload_n 1, 1) := by decide +kernel
theorem dX3_inverseOf_13 : decode cX3_inverseOf 13 = .ok (.imul, 1) := by decide +kernel
theorem dX3_inverseOf_14 : decode cX3_inverseOf 14 = .ok (.isub, 1) := by decide +kernel
theorem dX3_inverseOf_15 : decode cX3_inverseOf 15 = .ok (.imul, 1) := by decide +kernel
theorem dX3_inverseOf_16 : decode cX3_inverseOf 16 = .ok (.istore_n 1, 1) := by decide +kernel
theorem dX3_inverseOf_17 : decode cX3_inverseOf 17 = .ok (.iinc 2 1, 3) := by decide +kernel
theorem dX3_inverseOf_20 : decode cX3_inverseOf 20 = .ok (.goto (-16), 3) := by decide +kernel
theorem dX3_inverseOf_23 : decode cX3_inverseOf 23 = .ok (.iload_n 1, 1) := by decide +kernel
theorem dX3_inverseOf_24 : decode cX3_inverseOf 24 = .ok (.ireturn, 1) := by decide +kernel
