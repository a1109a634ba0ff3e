theorem dX5_init_0 : decode cX5_init 0 = .ok (.aload_n 0, 1) := by decide +kernel
theorem dX5_init_1 : decode cX5_init 1 = .ok (.invokespecial 1, 3) := by decide +kernel
theorem dX5_init_4 : decode cX5_init 4 = .ok (.aload_n 0, 1) := by decide +kernel
theorem dX5_init_5 : decode cX5_init 5 = .ok (.iconst 2, 1) := by decide +kernel
theorem dX5_init_6 : decode cX5_init 6 = .ok (.bipush 9, 2) := by decide +kernel
theorem dX5_init_8 : decode cX5_init 8 = .ok (.multianewarray 7 2, 4) := by decide +kernel
theorem dX5_init_12 : decode cX5_init 12 = .ok (.putfield 9, 3) := by decide +kernel
theorem dX5_init_15 : decode cX5_init 15 = .ok (.aload_n 0, 1) := by decide +kernel
theorem dX5_init_16 : decode cX5_init 16 = .ok (.ldc 14, 2) := by decide +kernel
theorem dX5_init_18 : decode cX5_init 18 = .ok (.newarray .int, 2) := by decide +kernel
theorem dX5_init_20 : decode cX5_init 20 = .ok (.putfield 15, 3) := by decide +kernel
theorem dX5_init_23 : decode cX5_init 23 = .ok (.aload_n 0, 1) := by decide +kernel
theorem dX5_init_24 : decode cX5_init 24 = .ok (.sipush 141, 3) := by decide +kernel
theorem dX5_init_27 : decode cX5_init 27 = .ok (.newarray .int, 2) := by decide +kernel
theorem dX5_init_29 : decode cX5_init 29 = .ok (.putfield 19, 3) := by decide +kernel
theorem dX5_init_32 : decode cX5_init 32 = .ok (.aload_n 0, 1) := by decide +kernel
theorem dX5_init_33 : decode cX5_init 33 = .ok (.sipush 141, 3) := by decide +kernel
theorem dX5_init_36 : decode cX5_init 36 = .ok (.newarray .int, 2) := by decide +kernel
theorem dX5_init_38 : decode cX5_init 38 = .ok (.putfield 22, 3) := by decide +kernel
theorem dX5_init_41 : decode cX5_init 41 = .ok (.aload_n 0, 1) := by decide +kernel
theorem dX5_init_42 : decode cX5_init 42 = .ok (.bipush 15, 2) := by decide +kernel
theorem dX5_init_44 : decode cX5_init 44 = .ok (.newarray .int, 2) := by decide +kernel
theorem dX5_init_46 : decode cX5_init 46 = .ok (.putfield 25, 3) := by decide +kernel
theorem dX5_init_49 : decode cX5_init 49 = .ok (.aload_n 0, 1) := by decide +kernel
theorem dX5_init_50 : decode cX5_init 50 = .ok (.bipush 8, 2) := by decide +kernel
theorem dX5_init_52 : decode cX5_init 52 = .ok (.newarray .int, 2) := by decide +kernel
theorem dX5_init_54 : decode cX5_init 54 = .ok (.putfield 28, 3) := by decide +kernel
theorem dX5_init_57 : decode cX5_init 57 = .ok (.aload_n 0, 1) := by decide +kernel
theorem dX5_init_58 : decode cX5_init 58 = .ok (.bipush 8, 2) := by decide +kernel
theorem dX5_init_60 : decode cX5_init 60 = .ok (.newarray .long, 2) := by decide +kernel
theorem dX5_init_62 : decode cX5_init 62 = .ok (.putfield 31, 3) := by decide +kernel
theorem dX5_init_65 : decode cX5_init 65 = .ok (.aload_n 0, 1) := by decide +kernel
theorem dX5_init_66 : decode cX5_init 66 = .ok (.sipush 4000, 3) := by decide +kernel
theorem dX5_init_69 : decode cX5_init 69 = .ok (.newarray .boolean, 2) := by decide +kernel
theorem dX5_init_71 : decode cX5_init 71 = .ok (.putfield 35, 3) := by decide +kernel
theorem dX5_init_74 : decode cX5_init 74 = .ok (.aload_n 0, 1) := by decide +kernel
theorem dX5_init_75 : decode cX5_init 75 = .ok (.iconst 0, 1) := by decide +kernel
theorem dX5_init_76 : decode cX5_init 76 = .ok (.putfield 39, 3) := by decide +kernel
theorem dX5_init_79 : decode cX5_init 79 = .ok (.return_, 1) := by decide +kernel
theorem dX5_in_0 : decode cX5_in 0 = .ok (.lload_n 0, 1) := by decide +kernel
theorem dX5_in_1 : decode cX5_in 1 = .ok (.lload_n 2, 1) := by decide +kernel
theorem dX5_in_2 : decode cX5_in 2 = .ok (.lcmp, 1) := by decide +kernel
theorem dX5_in_3 : decode cX5_in 3 = .ok (.ifCond .lt 14, 3) := by decide +kernel
theorem dX5_in_6 : decode cX5_in 6 = .ok (.lload_n 0, 1) := by decide +kernel
theorem dX5_in_7 : decode cX5_in 7 = .ok (.lload 4, 2) := by decide +kernel
theorem dX5_in_9 : decode cX5_in 9 = .ok (.lcmp, 1) := by decide +kernel
theorem dX5_in_10 : decode cX5_in 10 = .ok (.ifCond .gt 7, 3) := by decide +kernel
theorem dX5_in_13 : decode cX5_in 13 = .ok (.iconst 1, 1) := by decide +kernel
theorem dX5_in_14 : decode cX5_in 14 = .ok (.goto 4, 3) := by decide +kernel
theorem dX5_in_17 : decode cX5_in 17 = .ok (.iconst 0, 1) := by decide +kernel
theorem dX5_in_18 : decode cX5_in 18 = .ok (.ireturn, 1) := by decide +kernel
theorem dX5_setLong_0 : decode cX5_setLong 0 = .ok (.lload_n 2, 1) := by decide +kernel
theorem dX5_setLong_1 : decode cX5_setLong 1 = .ok (.lstore 4, 2) := by decide +kernel
theorem dX5_setLong_3 : decode cX5_setLong 3 = .ok (.aload_n 0, 1) := by decide +kernel
theorem dX5_setLong_4 : decode cX5_setLong 4 = .ok (.getfield 22, 3) := by decide +kernel
theorem dX5_setLong_7 : decode cX5_setLong 7 = .ok (.iload_n 1, 1) := by decide +kernel
theorem dX5_setLong_8 : decode cX5_setLong 8 = .ok (.lload_n 2, 1) := by decide +kernel
theorem dX5_setLong_9 : decode cX5_setLong 9 = .ok (.lconst 0, 1) := by decide +kernel
theorem dX5_setLong_10 : decode cX5_setLong 10 = .ok (.lcmp, 1) := by decide +kernel
theorem dX5_setLong_11 : decode cX5_setLong 11 = .ok (.ifCond .ge 7, 3) := by decide +kernel
theorem dX5_setLong_14 : decode cX5_setLong 14 = .ok (.iconst (-1), 1) := by decide +kernel
theorem dX5_setLong_15 : decode cX5_setLong 15 = .ok (.goto 14, 3) := by decide +kernel
theorem dX5_setLong_18 : decode cX5_setLong 18 = .ok (.lload_n 2, 1) := by decide +kernel
theorem dX5_setLong_19 : decode cX5_setLong 19 = .ok (.lconst 0, 1) := by decide +kernel
theorem dX5_setLong_20 : decode cX5_setLong 20 = .ok (.lcmp, 1) := by decide +kernel
theorem dX5_setLong_21 : decode cX5_setLong 21 = .ok (.ifCond .le 7, 3) := by decide +kernel
theorem dX5_setLong_24 : decode cX5_setLong 24 = .ok (.iconst 1, 1) := by decide +kernel
theorem dX5_setLong_25 : decode cX5_setLong 25 = .ok (.goto 4, 3) := by decide +kernel
theorem dX5_setLong_28 : decode cX5_setLong 28 = .ok (.iconst 0, 1) := by decide +kernel
theorem dX5_setLong_29 : decode cX5_setLong 29 = .ok (.iastore, 1) := by decide +kernel
theorem dX5_setLong_30 : decode cX5_setLong 30 = .ok (.iconst 0, 1) := by decide +kernel
theorem dX5_setLong_31 : decode cX5_setLong 31 = .ok (.istore 6, 2) := by decide +kernel
theorem dX5_setLong_33 : decode cX5_setLong 33 = .ok (.iconst 0, 1) := by decide +kernel
theorem dX5_setLong_34 : decode cX5_setLong 34 = .ok (.istore 7, 2) := by decide +kernel
theorem dX5_setLong_36 : decode cX5_setLong 36 = .ok (.iload 7, 2) := by decide +kernel
theorem dX5_setLong_38 : decode cX5_setLong 38 = .ok (.iconst 3, 1) := by decide +kernel
theorem dX5_setLong_39 : decode cX5_setLong 39 = .ok (.if_icmp .ge 40, 3) := by decide +kernel
theorem dX5_setLong_42 : decode cX5_setLong 42 = .ok (.lload 4, 2) := by decide +kernel
theorem dX5_setLong_44 : decode cX5_setLong 44 = .ok (.ldc2_w 43, 3) := by decide +kernel
theorem dX5_setLong_47 : decode cX5_setLong 47 = .ok (.land, 1) := by decide +kernel
theorem dX5_setLong_48 : decode cX5_setLong 48 = .ok (.lstore 8, 2) := by decide +kernel
theorem dX5_setLong_50 : decode cX5_setLong 50 = .ok (.aload_n 0, 1) := by decide +kernel
theorem dX5_setLong_51 : decode cX5_setLong 51 = .ok (.getfield 15, 3) := by decide +kernel
theorem dX5_setLong_54 : decode cX5_setLong 54 = .ok (.sipush 640, 3) := by decide +kernel
theorem dX5_setLong_57 : decode cX5_setLong 57 = .ok (.iload_n 1, 1) := by decide +kernel
theorem dX5_setLong_58 : decode cX5_setLong 58 = .ok (.imul, 1) := by decide +kernel
theorem dX5_setLong_59 : decode cX5_setLong 59 = .ok (.iload 7, 2) := by decide +kernel
theorem dX5_setLong_61 : decode cX5_setLong 61 = .ok (.iadd, 1) := by decide +kernel
theorem dX5_setLong_62 : decode cX5_setLong 62 = .ok (.lload 8, 2) := by decide +kernel
theorem dX5_setLong_64 : decode cX5_setLong 64 = .ok (.l2i, 1) := by decide +kernel
theorem dX5_setLong_65 : decode cX5_setLong 65 = .ok (.iastore, 1) := by decide +kernel
theorem dX5_setLong_66 : decode cX5_setLong 66 = .ok (.lload 4, 2) := by decide +kernel
theorem dX5_setLong_68 : decode cX5_setLong 68 = .ok (.bipush 31, 2) := by decide +kernel
theorem dX5_setLong_70 : decode cX5_setLong 70 = .ok (.lshr, 1) := by decide +kernel
theorem dX5_setLong_71 : decode cX5_setLong 71 = .ok (.lstore 4, 2) := by decide +kernel
theorem dX5_setLong_73 : decode cX5_setLong 73 = .ok (.iinc 7 1, 3) := by decide +kernel
theorem dX5_setLong_76 : decode cX5_setLong 76 = .ok (.goto (-40), 3) := by decide +kernel
theorem dX5_setLong_79 : decode cX5_setLong 79 = .ok (.lload_n 2, 1) := by decide +kernel
theorem dX5_setLong_80 : decode cX5_setLong 80 = .ok (.lconst 0, 1) := by decide +kernel
theorem dX5_setLong_81 : decode cX5_setLong 81 = .ok (.lcmp, 1) := by decide +kernel
theorem dX5_setLong_82 : decode cX5_setLong 82 = .ok (.ifCond .ge 73, 3) := by decide +kernel
theorem dX5_setLong_85 : decode cX5_setLong 85 = .ok (.lconst 1, 1) := by decide +kernel
theorem dX5_setLong_86 : decode cX5_setLong 86 = .ok (.lstore 7, 2) := by decide +kernel
theorem dX5_setLong_88 : decode cX5_setLong 88 = .ok (.iconst 0, 1) := by decide +kernel
theorem dX5_setLong_89 : decode cX5_setLong 89 = .ok (.istore 9, 2) := by decide +kernel
theorem dX5_setLong_91 : decode cX5_setLong 91 = .ok (.iload 9, 2) := by decide +kernel
theorem dX5_setLong_93 : decode cX5_setLong 93 = .ok (.iconst 3, 1) := by decide +kernel
theorem dX5_setLong_94 : decode cX5_setLong 94 = .ok (.if_icmp .ge 61, 3) := by decide +kernel
theorem dX5_setLong_97 : decode cX5_setLong 97 = .ok (.aload_n 0, 1) := by decide +kernel
theorem dX5_setLong_98 : decode cX5_setLong 98 = .ok (.getfield 15, 3) := by decide +kernel
theorem dX5_setLong_101 : decode cX5_setLong 101 = .ok (.sipush 640, 3) := by decide +kernel
theorem dX5_setLong_104 : decode cX5_setLong 104 = .ok (.iload_n 1, 1) := by decide +kernel
theorem dX5_setLong_105 : decode cX5_setLong 105 = .ok (.imul, 1) := by decide +kernel
theorem dX5_setLong_106 : decode cX5_setLong 106 = .ok (.iload 9, 2) := by decide +kernel
theorem dX5_setLong_108 : decode cX5_setLong 108 = .ok (.iadd, 1) := by decide +kernel
theorem dX5_setLong_109 : decode cX5_setLong 109 = .ok (.iaload, 1) := by decide +kernel
theorem dX5_setLong_110 : decode cX5_setLong 110 = .ok (.iconst (-1), 1) := by decide +kernel
theorem dX5_setLong_111 : decode cX5_setLong 111 = .ok (.ixor, 1) := by decide +kernel
theorem dX5_setLong_112 : decode cX5_setLong 112 = .ok (.i2l, 1) := by decide +kernel
theorem dX5_setLong_113 : decode cX5_setLong 113 = .ok (.ldc2_w 43, 3) := by decide +kernel
theorem dX5_setLong_116 : decode cX5_setLong 116 = .ok (.land, 1) := by decide +kernel
theorem dX5_setLong_117 : decode cX5_setLong 117 = .ok (.lload 7, 2) := by decide +kernel
theorem dX5_setLong_119 : decode cX5_setLong 119 = .ok (.ladd, 1) := by decide +kernel
theorem dX5_setLong_120 : decode cX5_setLong 120 = .ok (.lstore 10, 2) := by decide +kernel
theorem dX5_setLong_122 : decode cX5_setLong 122 = .ok (.aload_n 0, 1) := by decide +kernel
theorem dX5_setLong_123 : decode cX5_setLong 123 = .ok (.getfield 15, 3) := by decide +kernel
theorem dX5_setLong_126 : decode cX5_setLong 126 = .ok (.sipush 640, 3) := by decide +kernel
theorem dX5_setLong_129 : decode cX5_setLong 129 = .ok (.iload_n 1, 1) := by decide +kernel
theorem dX5_setLong_130 : decode cX5_setLong 130 = .ok (.imul, 1) := by decide +kernel
theorem dX5_setLong_131 : decode cX5_setLong 131 = .ok (.iload 9, 2) := by decide +kernel
theorem dX5_setLong_133 : decode cX5_setLong 133 = .ok (.iadd, 1) := by decide +kernel
theorem dX5_setLong_134 : decode cX5_setLong 134 = .ok (.lload 10, 2) := by decide +kernel
theorem dX5_setLong_136 : decode cX5_setLong 136 = .ok (.ldc2_w 43, 3) := by decide +kernel
theorem dX5_setLong_139 : decode cX5_setLong 139 = .ok (.land, 1) := by decide +kernel
theorem dX5_setLong_140 : decode cX5_setLong 140 = .ok (.l2i, 1) := by decide +kernel
theorem dX5_setLong_141 : decode cX5_setLong 141 = .ok (.iastore, 1) := by decide +kernel
theorem dX5_setLong_142 : decode cX5_setLong 142 = .ok (.lload 10, 2) := by decide +kernel
theorem dX5_setLong_144 : decode cX5_setLong 144 = .ok (.bipush 31, 2) := by decide +kernel
theorem dX5_setLong_146 : decode cX5_setLong 146 = .ok (.lshr, 1) := by decide +kernel
theorem dX5_setLong_147 : decode cX5_setLong 147 = .ok (.lstore 7, 2) := by decide +kernel
theorem dX5_setLong_149 : decode cX5_setLong 149 = .ok (.iinc 9 1, 3) := by decide +kernel
theorem dX5_setLong_152 : decode cX5_setLong 152 = .ok (.goto (-61), 3) := by decide +kernel
theorem dX5_setLong_155 : decode cX5_setLong 155 = .ok (.iconst 3, 1) := by decide +kernel
theorem dX5_setLong_156 : decode cX5_setLong 156 = .ok (.istore 6, 2) := by decide +kernel
theorem dX5_setLong_158 : decode cX5_setLong 158 = .ok (.iload 6, 2) := by decide +kernel
theorem dX5_setLong_160 : decode cX5_setLong 160 = .ok (.ifCond .le 27, 3) := by decide +kernel
theorem dX5_setLong_163 : decode cX5_setLong 163 = .ok (.aload_n 0, 1) := by decide +kernel
theorem dX5_setLong_164 : decode cX5_setLong 164 = .ok (.getfield 15, 3) := by decide +kernel
theorem dX5_setLong_167 : decode cX5_setLong 167 = .ok (.sipush 640, 3) := by decide +kernel
theorem dX5_setLong_170 : decode cX5_setLong 170 = .ok (.iload_n 1, 1) := by decide +kernel
theorem dX5_setLong_171 : decode cX5_setLong 171 = .ok (.imul, 1) := by decide +kernel
theorem dX5_setLong_172 : decode cX5_setLong 172 = .ok (.iload 6, 2) := by decide +kernel
theorem dX5_setLong_174 : decode cX5_setLong 174 = .ok (.iadd, 1) := by decide +kernel
theorem dX5_setLong_175 : decode cX5_setLong 175 = .ok (.iconst 1, 1) := by decide +kernel
theorem dX5_setLong_176 : decode cX5_setLong 176 = .ok (.isub, 1) := by decide +kernel
theorem dX5_setLong_177 : decode cX5_setLong 177 = .ok (.iaload, 1) := by decide +kernel
theorem dX5_setLong_178 : decode cX5_setLong 178 = .ok (.ifCond .ne 9, 3) := by decide +kernel
theorem dX5_setLong_181 : decode cX5_setLong 181 = .ok (.iinc 6 (-1), 3) := by decide +kernel
theorem dX5_setLong_184 : decode cX5_setLong 184 = .ok (.goto (-26), 3) := by decide +kernel
theorem dX5_setLong_187 : decode cX5_setLong 187 = .ok (.aload_n 0, 1) := by decide +kernel
theorem dX5_setLong_188 : decode cX5_setLong 188 = .ok (.getfield 19, 3) := by decide +kernel
theorem dX5_setLong_191 : decode cX5_setLong 191 = .ok (.iload_n 1, 1) := by decide +kernel
theorem dX5_setLong_192 : decode cX5_setLong 192 = .ok (.iload 6, 2) := by decide +kernel
theorem dX5_setLong_194 : decode cX5_setLong 194 = .ok (.iastore, 1) := by decide +kernel
theorem dX5_setLong_195 : decode cX5_setLong 195 = .ok (.return_, 1) := by decide +kernel
theorem dX5_copy_0 : decode cX5_copy 0 = .ok (.iconst 0, 1) := by decide +kernel
theorem dX5_copy_1 : decode cX5_copy 1 = .ok (.istore_n 3, 1) := by decide +kernel
theorem dX5_copy_2 : decode cX5_copy 2 = .ok (.iload_n 3, 1) := by decide +kernel
theorem dX5_copy_3 : decode cX5_copy 3 = .ok (.aload_n 0, 1) := by decide +kernel
theorem dX5_copy_4 : decode cX5_copy 4 = .ok (.getfield 19, 3) := by decide +kernel
theorem dX5_copy_7 : decode cX5_copy 7 = .ok (.iload_n 2, 1) := by decide +kernel
theorem dX5_copy_8 : decode cX5_copy 8 = .ok (.iaload, 1) := by decide +kernel
theorem dX5_copy_9 : decode cX5_copy 9 = .ok (.if_icmp .ge 33, 3) := by decide +kernel
theorem dX5_copy_12 : decode cX5_copy 12 = .ok (.aload_n 0, 1) := by decide +kernel
theorem dX5_copy_13 : decode cX5_copy 13 = .ok (.getfield 15, 3) := by decide +kernel
theorem dX5_copy_16 : decode cX5_copy 16 = .ok (.sipush 640, 3) := by decide +kernel
theorem dX5_copy_19 : decode cX5_copy 19 = .ok (.iload_n 1, 1) := by decide +kernel
theorem dX5_copy_20 : decode cX5_copy 20 = .ok (.imul, 1) := by decide +kernel
theorem dX5_copy_21 : decode cX5_copy 21 = .ok (.iload_n 3, 1) := by decide +kernel
theorem dX5_copy_22 : decode cX5_copy 22 = .ok (.iadd, 1) := by decide +kernel
theorem dX5_copy_23 : decode cX5_copy 23 = .ok (.aload_n 0, 1) := by decide +kernel
theorem dX5_copy_24 : decode cX5_copy 24 = .ok (.getfield 15, 3) := by decide +kernel
theorem dX5_copy_27 : decode cX5_copy 27 = .ok (.sipush 640, 3) := by decide +kernel
theorem dX5_copy_30 : decode cX5_copy 30 = .ok (.iload_n 2, 1) := by decide +kernel
theorem dX5_copy_31 : decode cX5_copy 31 = .ok (.imul, 1) := by decide +kernel
theorem dX5_copy_32 : decode cX5_copy 32 = .ok (.iload_n 3, 1) := by decide +kernel
theorem dX5_copy_33 : decode cX5_copy 33 = .ok (.iadd, 1) := by decide +kernel
theorem dX5_copy_34 : decode cX5_copy 34 = .ok (.iaload, 1) := by decide +kernel
theorem dX5_copy_35 : decode cX5_copy 35 = .ok (.iastore, 1) := by decide +kernel
theorem dX5_copy_36 : decode cX5_copy 36 = .ok (.iinc 3 1, 3) := by decide +kernel
theorem dX5_copy_39 : decode cX5_copy 39 = .ok (.goto (-37), 3) := by decide +kernel
theorem dX5_copy_42 : decode cX5_copy 42 = .ok (.aload_n 0, 1) := by decide +kernel
theorem dX5_copy_43 : decode cX5_copy 43 = .ok (.getfield 19, 3) := by decide +kernel
theorem dX5_copy_46 : decode cX5_copy 46 = .ok (.iload_n 1, 1) := by decide +kernel
theorem dX5_copy_47 : decode cX5_copy 47 = .ok (.aload_n 0, 1) := by decide +kernel
theorem dX5_copy_48 : decode cX5_copy 48 = .ok (.getfield 19, 3) := by decide +kernel
theorem dX5_copy_51 : decode cX5_copy 51 = .ok (.iload_n 2, 1) := by decide +kernel
theorem dX5_copy_52 : decode cX5_copy 52 = .ok (.iaload, 1) := by decide +kernel
theorem dX5_copy_53 : decode cX5_copy 53 = .ok (.iastore, 1) := by decide +kernel
theorem dX5_copy_54 : decode cX5_copy 54 = .ok (.aload_n 0, 1) := by decide +kernel
theorem dX5_copy_55 : decode cX5_copy 55 = .ok (.getfield 22, 3) := by decide +kernel
theorem dX5_copy_58 : decode cX5_copy 58 = .ok (.iload_n 1, 1) := by decide +kernel
theorem dX5_copy_59 : decode cX5_copy 59 = .ok (.aload_n 0, 1) := by decide +kernel
theorem dX5_copy_60 : decode cX5_copy 60 = .ok (.getfield 22, 3) := by decide +kernel
theorem dX5_copy_63 : decode cX5_copy 63 = .ok (.iload_n 2, 1) := by decide +kernel
theorem dX5_copy_64 : decode cX5_copy 64 = .ok (.iaload, 1) := by decide +kernel
theorem dX5_copy_65 : decode cX5_copy 65 = .ok (.iastore, 1) := by decide +kernel
theorem dX5_copy_66 : decode cX5_copy 66 = .ok (.return_, 1) := by decide +kernel
theorem dX5_trim_0 : decode cX5_trim 0 = .ok (.iload_n 2, 1) := by decide +kernel
theorem dX5_trim_1 : decode cX5_trim 1 = .ok (.istore 4, 2) := by decide +kernel
theorem dX5_trim_3 : decode cX5_trim 3 = .ok (.iload 4, 2) := by decide +kernel
theorem dX5_trim_5 : decode cX5_trim 5 = .ok (.ifCond .le 27, 3) := by decide +kernel
theorem dX5_trim_8 : decode cX5_trim 8 = .ok (.aload_n 0, 1) := by decide +kernel
theorem dX5_trim_9 : decode cX5_trim 9 = .ok (.getfield 15, 3) := by decide +kernel
theorem dX5_trim_12 : decode cX5_trim 12 = .ok (.sipush 640, 3) := by decide +kernel
theorem dX5_trim_15 : decode cX5_trim 15 = .ok (.iload_n 1, 1) := by decide +kernel
theorem dX5_trim_16 : decode cX5_trim 16 = .ok (.imul, 1) := by decide +kernel
theorem dX5_trim_17 : decode cX5_trim 17 = .ok (.iload 4, 2) := by decide +kernel
theorem dX5_trim_19 : decode cX5_trim 19 = .ok (.iadd, 1) := by decide +kernel
theorem dX5_trim_20 : decode cX5_trim 20 = .ok (.iconst 1, 1) := by decide +kernel
theorem dX5_trim_21 : decode cX5_trim 21 = .ok (.isub, 1) := by decide +kernel
theorem dX5_trim_22 : decode cX5_trim 22 = .ok (.iaload, 1) := by decide +kernel
theorem dX5_trim_23 : decode cX5_trim 23 = .ok (.ifCond .ne 9, 3) := by decide +kernel
theorem dX5_trim_26 : decode cX5_trim 26 = .ok (.iinc 4 (-1), 3) := by decide +kernel
theorem dX5_trim_29 : decode cX5_trim 29 = .ok (.goto (-26), 3) := by decide +kernel
theorem dX5_trim_32 : decode cX5_trim 32 = .ok (.aload_n 0, 1) := by decide +kernel
theorem dX5_trim_33 : decode cX5_trim 33 = .ok (.getfield 19, 3) := by decide +kernel
theorem dX5_trim_36 : decode cX5_trim 36 = .ok (.iload_n 1, 1) := by decide +kernel
theorem dX5_trim_37 : decode cX5_trim 37 = .ok (.iload 4, 2) := by decide +kernel
theorem dX5_trim_39 : decode cX5_trim 39 = .ok (.iastore, 1) := by decide +kernel
theorem dX5_trim_40 : decode cX5_trim 40 = .ok (.aload_n 0, 1) := by decide +kernel
theorem dX5_trim_41 : decode cX5_trim 41 = .ok (.getfield 22, 3) := by decide +kernel
theorem dX5_trim_44 : decode cX5_trim 44 = .ok (.iload_n 1, 1) := by decide +kernel
theorem dX5_trim_45 : decode cX5_trim 45 = .ok (.iload 4, 2) := by decide +kernel
theorem dX5_trim_47 : decode cX5_trim 47 = .ok (.ifCond .ne 7, 3) := by decide +kernel
theorem dX5_trim_50 : decode cX5_trim 50 = .ok (.iconst 0, 1) := by decide +kernel
theorem dX5_trim_51 : decode cX5_trim 51 = .ok (.goto 4, 3) := by decide +kernel
theorem dX5_trim_54 : decode cX5_trim 54 = .ok (.iload_n 3, 1) := by decide +kernel
theorem dX5_trim_55 : decode cX5_trim 55 = .ok (.iastore, 1) := by decide +kernel
theorem dX5_trim_56 : decode cX5_trim 56 = .ok (.return_, 1) := by decide +kernel
theorem dX5_compareSizes_0 : decode cX5_compareSizes 0 = .ok (.aload_n 0, 1) := by decide +kernel
theorem dX5_compareSizes_1 : decode cX5_compareSizes 1 = .ok (.getfield 19, 3) := by decide +kernel
theorem dX5_compareSizes_4 : decode cX5_compareSizes 4 = .ok (.iload_n 1, 1) := by decide +kernel
theorem dX5_compareSizes_5 : decode cX5_compareSizes 5 = .ok (.iaload, 1) := by decide +kernel
theorem dX5_compareSizes_6 : decode cX5_compareSizes 6 = .ok (.aload_n 0, 1) := by decide +kernel
theorem dX5_compareSizes_7 : decode cX5_compareSizes 7 = .ok (.getfield 19, 3) := by decide +kernel
theorem dX5_compareSizes_10 : decode cX5_compareSizes 10 = .ok (.iload_n 2, 1) := by decide +kernel
theorem dX5_compareSizes_11 : decode cX5_compareSizes 11 = .ok (.iaload, 1) := by decide +kernel
theorem dX5_compareSizes_12 : decode cX5_compareSizes 12 = .ok (.if_icmp .eq 24, 3) := by decide +kernel
theorem dX5_compareSizes_15 : decode cX5_compareSizes 15 = .ok (.aload_n 0, 1) := by decide +kernel
theorem dX5_compareSizes_16 : decode cX5_compareSizes 16 = .ok (.getfield 19, 3) := by decide +kernel
theorem dX5_compareSizes_19 : decode cX5_compareSizes 19 = .ok (.iload_n 1, 1) := by decide +kernel
theorem dX5_compareSizes_20 : decode cX5_compareSizes 20 = .ok (.iaload, 1) := by decide +kernel
theorem dX5_compareSizes_21 : decode cX5_compareSizes 21 = .ok (.aload_n 0, 1) := by decide +kernel
theorem dX5_compareSizes_22 : decode cX5_compareSizes 22 = .ok (.getfield 19, 3) := by decide +kernel
theorem dX5_compareSizes_25 : decode cX5_compareSizes 25 = .ok (.iload_n 2, 1) := by decide +kernel
theorem dX5_compareSizes_26 : decode cX5_compareSizes 26 = .ok (.iaload, 1) := by decide +kernel
theorem dX5_compareSizes_27 : decode cX5_compareSizes 27 = .ok (.if_icmp .ge 7, 3) := by decide +kernel
theorem dX5_compareSizes_30 : decode cX5_compareSizes 30 = .ok (.iconst (-1), 1) := by decide +kernel
theorem dX5_compareSizes_31 : decode cX5_compareSizes 31 = .ok (.goto 4, 3) := by decide +kernel
theorem dX5_compareSizes_34 : decode cX5_compareSizes 34 = .ok (.iconst 1, 1) := by decide +kernel
theorem dX5_compareSizes_35 : decode cX5_compareSizes 35 = .ok (.ireturn, 1) := by decide +kernel
theorem dX5_compareSizes_36 : decode cX5_compareSizes 36 = .ok (.aload_n 0, 1) := by decide +kernel
theorem dX5_compareSizes_37 : decode cX5_compareSizes 37 = .ok (.getfield 19, 3) := by decide +kernel
theorem dX5_compareSizes_40 : decode cX5_compareSizes 40 = .ok (.iload_n 1, 1) := by decide +kernel
theorem dX5_compareSizes_41 : decode cX5_compareSizes 41 = .ok (.iaload, 1) := by decide +kernel
theorem dX5_compareSizes_42 : decode cX5_compareSizes 42 = .ok (.iconst 1, 1) := by decide +kernel
theorem dX5_compareSizes_43 : decode cX5_compareSizes 43 = .ok (.isub, 1) := by decide +kernel
theorem dX5_compareSizes_44 : decode cX5_compareSizes 44 = .ok (.istore_n 3, 1) := by decide +kernel
theorem dX5_compareSizes_45 : decode cX5_compareSizes 45 = .ok (.iload_n 3, 1) := by decide +kernel
theorem dX5_compareSizes_46 : decode cX5_compareSizes 46 = .ok (.ifCond .lt 57, 3) := by decide +kernel
theorem dX5_compareSizes_49 : decode cX5_compareSizes 49 = .ok (.aload_n 0, 1) := by decide +kernel
theorem dX5_compareSizes_50 : decode cX5_compareSizes 50 = .ok (.getfield 15, 3) := by decide +kernel
theorem dX5_compareSizes_53 : decode cX5_compareSizes 53 = .ok (.sipush 640, 3) := by decide +kernel
theorem dX5_compareSizes_56 : decode cX5_compareSizes 56 = .ok (.iload_n 1, 1) := by decide +kernel
theorem dX5_compareSizes_57 : decode cX5_compareSizes 57 = .ok (.imul, 1) := by decide +kernel
theorem dX5_compareSizes_58 : decode cX5_compareSizes 58 = .ok (.iload_n 3, 1) := by decide +kernel
theorem dX5_compareSizes_59 : decode cX5_compareSizes 59 = .ok (.iadd, 1) := by decide +kernel
theorem dX5_compareSizes_60 : decode cX5_compareSizes 60 = .ok (.iaload, 1) := by decide +kernel
theorem dX5_compareSizes_61 : decode cX5_compareSizes 61 = .ok (.istore 4, 2) := by decide +kernel
theorem dX5_compareSizes_63 : decode cX5_compareSizes 63 = .ok (.aload_n 0, 1) := by decide +kernel
theorem dX5_compareSizes_64 : decode cX5_compareSizes 64 = .ok (.getfield 15, 3) := by decide +kernel
theorem dX5_compareSizes_67 : decode cX5_compareSizes 67 = .ok (.sipush 640, 3) := by decide +kernel
theorem dX5_compareSizes_70 : decode cX5_compareSizes 70 = .ok (.iload_n 2, 1) := by decide +kernel
theorem dX5_compareSizes_71 : decode cX5_compareSizes 71 = .ok (.imul, 1) := by decide +kernel
theorem dX5_compareSizes_72 : decode cX5_compareSizes 72 = .ok (.iload_n 3, 1) := by decide +kernel
theorem dX5_compareSizes_73 : decode cX5_compareSizes 73 = .ok (.iadd, 1) := by decide +kernel
theorem dX5_compareSizes_74 : decode cX5_compareSizes 74 = .ok (.iaload, 1) := by decide +kernel
theorem dX5_compareSizes_75 : decode cX5_compareSizes 75 = .ok (.istore 5, 2) := by decide +kernel
theorem dX5_compareSizes_77 : decode cX5_compareSizes 77 = .ok (.iload 4, 2) := by decide +kernel
theorem dX5_compareSizes_79 : decode cX5_compareSizes 79 = .ok (.iload 5, 2) := by decide +kernel
theorem dX5_compareSizes_81 : decode cX5_compareSizes 81 = .ok (.if_icmp .eq 16, 3) := by decide +kernel
theorem dX5_compareSizes_84 : decode cX5_compareSizes 84 = .ok (.iload 4, 2) := by decide +kernel
theorem dX5_compareSizes_86 : decode cX5_compareSizes 86 = .ok (.iload 5, 2) := by decide +kernel
theorem dX5_compareSizes_88 : decode cX5_compareSizes 88 = .ok (.if_icmp .ge 7, 3) := by decide +kernel
theorem dX5_compareSizes_91 : decode cX5_compareSizes 91 = .ok (.iconst (-1), 1) := by decide +kernel
theorem dX5_compareSizes_92 : decode cX5_compareSizes 92 = .ok (.goto 4, 3) := by decide +kernel
theorem dX5_compareSizes_95 : decode cX5_compareSizes 95 = .ok (.iconst 1, 1) := by decide +kernel
theorem dX5_compareSizes_96 : decode cX5_compareSizes 96 = .ok (.ireturn, 1) := by decide +kernel
theorem dX5_compareSizes_97 : decode cX5_compareSizes 97 = .ok (.iinc 3 (-1), 3) := by decide +kernel
theorem dX5_compareSizes_100 : decode cX5_compareSizes 100 = .ok (.goto (-55), 3) := by decide +kernel
theorem dX5_compareSizes_103 : decode cX5_compareSizes 103 = .ok (.iconst 0, 1) := by decide +kernel
theorem dX5_compareSizes_104 : decode cX5_compareSizes 104 = .ok (.ireturn, 1) := by decide +kernel
theorem dX5_addSizes_0 : decode cX5_addSizes 0 = .ok (.aload_n 0, 1) := by decide +kernel
theorem dX5_addSizes_1 : decode cX5_addSizes 1 = .ok (.getfield 19, 3) := by decide +kernel
theorem dX5_addSizes_4 : decode cX5_addSizes 4 = .ok (.iload_n 2, 1) := by decide +kernel
theorem dX5_addSizes_5 : decode cX5_addSizes 5 = .ok (.iaload, 1) := by decide +kernel
theorem dX5_addSizes_6 : decode cX5_addSizes 6 = .ok (.istore 5, 2) := by decide +kernel
theorem dX5_addSizes_8 : decode cX5_addSizes 8 = .ok (.aload_n 0, 1) := by decide +kernel
theorem dX5_addSizes_9 : decode cX5_addSizes 9 = .ok (.getfield 19, 3) := by decide +kernel
theorem dX5_addSizes_12 : decode cX5_addSizes 12 = .ok (.iload_n 3, 1) := by decide +kernel
theorem dX5_addSizes_13 : decode cX5_addSizes 13 = .ok (.iaload, 1) := by decide +kernel
theorem dX5_addSizes_14 : decode cX5_addSizes 14 = .ok (.istore 6, 2) := by decide +kernel
theorem dX5_addSizes_16 : decode cX5_addSizes 16 = .ok (.iload 5, 2) := by decide +kernel
theorem dX5_addSizes_18 : decode cX5_addSizes 18 = .ok (.iload 6, 2) := by decide +kernel
theorem dX5_addSizes_20 : decode cX5_addSizes 20 = .ok (.if_icmp .le 8, 3) := by decide +kernel
theorem dX5_addSizes_23 : decode cX5_addSizes 23 = .ok (.iload 5, 2) := by decide +kernel
theorem dX5_addSizes_25 : decode cX5_addSizes 25 = .ok (.goto 5, 3) := by decide +kernel
theorem dX5_addSizes_28 : decode cX5_addSizes 28 = .ok (.iload 6, 2) := by decide +kernel
theorem dX5_addSizes_30 : decode cX5_addSizes 30 = .ok (.istore 7, 2) := by decide +kernel
theorem dX5_addSizes_32 : decode cX5_addSizes 32 = .ok (.lconst 0, 1) := by decide +kernel
theorem dX5_addSizes_33 : decode cX5_addSizes 33 = .ok (.lstore 8, 2) := by decide +kernel
theorem dX5_addSizes_35 : decode cX5_addSizes 35 = .ok (.iconst 0, 1) := by decide +kernel
theorem dX5_addSizes_36 : decode cX5_addSizes 36 = .ok (.istore 10, 2) := by decide +kernel
theorem dX5_addSizes_38 : decode cX5_addSizes 38 = .ok (.iload 10, 2) := by decide +kernel
theorem dX5_addSizes_40 : decode cX5_addSizes 40 = .ok (.iload 7, 2) := by decide +kernel
theorem dX5_addSizes_42 : decode cX5_addSizes 42 = .ok (.if_icmp .ge 92, 3) := by decide +kernel
theorem dX5_addSizes_45 : decode cX5_addSizes 45 = .ok (.lload 8, 2) := by decide +kernel
theorem dX5_addSizes_47 : decode cX5_addSizes 47 = .ok (.iload 10, 2) := by decide +kernel
theorem dX5_addSizes_49 : decode cX5_addSizes 49 = .ok (.iload 5, 2) := by decide +kernel
theorem dX5_addSizes_51 : decode cX5_addSizes 51 = .ok (.if_icmp .ge 20, 3) := by decide +kernel
theorem dX5_addSizes_54 : decode cX5_addSizes 54 = .ok (.aload_n 0, 1) := by decide +kernel
theorem dX5_addSizes_55 : decode cX5_addSizes 55 = .ok (.getfield 15, 3) := by decide +kernel
theorem dX5_addSizes_58 : decode cX5_addSizes 58 = .ok (.sipush 640, 3) := by decide +kernel
theorem dX5_addSizes_61 : decode cX5_addSizes 61 = .ok (.iload_n 2, 1) := by decide +kernel
theorem dX5_addSizes_62 : decode cX5_addSizes 62 = .ok (.imul, 1) := by decide +kernel
theorem dX5_addSizes_63 : decode cX5_addSizes 63 = .ok (.iload 10, 2) := by decide +kernel
theorem dX5_addSizes_65 : decode cX5_addSizes 65 = .ok (.iadd, 1) := by decide +kernel
theorem dX5_addSizes_66 : decode cX5_addSizes 66 = .ok (.iaload, 1) := by decide +kernel
theorem dX5_addSizes_67 : decode cX5_addSizes 67 = .ok (.i2l, 1) := by decide +kernel
theorem dX5_addSizes_68 : decode cX5_addSizes 68 = .ok (.goto 4, 3) := by decide +kernel
theorem dX5_addSizes_71 : decode cX5_addSizes 71 = .ok (.lconst 0, 1) := by decide +kernel
theorem dX5_addSizes_72 : decode cX5_addSizes 72 = .ok (.iload 10, 2) := by decide +kernel
theorem dX5_addSizes_74 : decode cX5_addSizes 74 = .ok (.iload 6, 2) := by decide +kernel
theorem dX5_addSizes_76 : decode cX5_addSizes 76 = .ok (.if_icmp .ge 20, 3) := by decide +kernel
theorem dX5_addSizes_79 : decode cX5_addSizes 79 = .ok (.aload_n 0, 1) := by decide +kernel
theorem dX5_addSizes_80 : decode cX5_addSizes 80 = .ok (.getfield 15, 3) := by decide +kernel
theorem dX5_addSizes_83 : decode cX5_addSizes 83 = .ok (.sipush 640, 3) := by decide +kernel
theorem dX5_addSizes_86 : decode cX5_addSizes 86 = .ok (.iload_n 3, 1) := by decide +kernel
theorem dX5_addSizes_87 : decode cX5_addSizes 87 = .ok (.imul, 1) := by decide +kernel
theorem dX5_addSizes_88 : decode cX5_addSizes 88 = .ok (.iload 10, 2) := by decide +kernel
theorem dX5_addSizes_90 : decode cX5_addSizes 90 = .ok (.iadd, 1) := by decide +kernel
theorem dX5_addSizes_91 : decode cX5_addSizes 91 = .ok (.iaload, 1) := by decide +kernel
theorem dX5_addSizes_92 : decode cX5_addSizes 92 = .ok (.i2l, 1) := by decide +kernel
theorem dX5_addSizes_93 : decode cX5_addSizes 93 = .ok (.goto 4, 3) := by decide +kernel
theorem dX5_addSizes_96 : decode cX5_addSizes 96 = .ok (.lconst 0, 1) := by decide +kernel
theorem dX5_addSizes_97 : decode cX5_addSizes 97 = .ok (.ladd, 1) := by decide +kernel
theorem dX5_addSizes_98 : decode cX5_addSizes 98 = .ok (.ladd, 1) := by decide +kernel
theorem dX5_addSizes_99 : decode cX5_addSizes 99 = .ok (.lstore 8, 2) := by decide +kernel
theorem dX5_addSizes_101 : decode cX5_addSizes 101 = .ok (.aload_n 0, 1) := by decide +kernel
theorem dX5_addSizes_102 : decode cX5_addSizes 102 = .ok (.getfield 15, 3) := by decide +kernel
theorem dX5_addSizes_105 : decode cX5_addSizes 105 = .ok (.sipush 640, 3) := by decide +kernel
theorem dX5_addSizes_108 : decode cX5_addSizes 108 = .ok (.iload_n 1, 1) := by decide +kernel
theorem dX5_addSizes_109 : decode cX5_addSizes 109 = .ok (.imul, 1) := by decide +kernel
theorem dX5_addSizes_110 : decode cX5_addSizes 110 = .ok (.iload 10, 2) := by decide +kernel
theorem dX5_addSizes_112 : decode cX5_addSizes 112 = .ok (.iadd, 1) := by decide +kernel
theorem dX5_addSizes_113 : decode cX5_addSizes 113 = .ok (.lload 8, 2) := by decide +kernel
theorem dX5_addSizes_115 : decode cX5_addSizes 115 = .ok (.ldc2_w 43, 3) := by decide +kernel
theorem dX5_addSizes_118 : decode cX5_addSizes 118 = .ok (.land, 1) := by decide +kernel
theorem dX5_addSizes_119 : decode cX5_addSizes 119 = .ok (.l2i, 1) := by decide +kernel
theorem dX5_addSizes_120 : decode cX5_addSizes 120 = .ok (.iastore, 1) := by decide +kernel
theorem dX5_addSizes_121 : decode cX5_addSizes 121 = .ok (.lload 8, 2) := by decide +kernel
theorem dX5_addSizes_123 : decode cX5_addSizes 123 = .ok (.bipush 31, 2) := by decide +kernel
theorem dX5_addSizes_125 : decode cX5_addSizes 125 = .ok (.lshr, 1) := by decide +kernel
theorem dX5_addSizes_126 : decode cX5_addSizes 126 = .ok (.lstore 8, 2) := by decide +kernel
theorem dX5_addSizes_128 : decode cX5_addSizes 128 = .ok (.iinc 10 1, 3) := by decide +kernel
theorem dX5_addSizes_131 : decode cX5_addSizes 131 = .ok (.goto (-93), 3) := by decide +kernel
theorem dX5_addSizes_134 : decode cX5_addSizes 134 = .ok (.aload_n 0, 1) := by decide +kernel
theorem dX5_addSizes_135 : decode cX5_addSizes 135 = .ok (.getfield 15, 3) := by decide +kernel
theorem dX5_addSizes_138 : decode cX5_addSizes 138 = .ok (.sipush 640, 3) := by decide +kernel
theorem dX5_addSizes_141 : decode cX5_addSizes 141 = .ok (.iload_n 1, 1) := by decide +kernel
theorem dX5_addSizes_142 : decode cX5_addSizes 142 = .ok (.imul, 1) := by decide +kernel
theorem dX5_addSizes_143 : decode cX5_addSizes 143 = .ok (.iload 7, 2) := by decide +kernel
theorem dX5_addSizes_145 : decode cX5_addSizes 145 = .ok (.iadd, 1) := by decide +kernel
theorem dX5_addSizes_146 : decode cX5_addSizes 146 = .ok (.lload 8, 2) := by decide +kernel
theorem dX5_addSizes_148 : decode cX5_addSizes 148 = .ok (.l2i, 1) := by decide +kernel
theorem dX5_addSizes_149 : decode cX5_addSizes 149 = .ok (.iastore, 1) := by decide +kernel
theorem dX5_addSizes_150 : decode cX5_addSizes 150 = .ok (.aload_n 0, 1) := by decide +kernel
theorem dX5_addSizes_151 : decode cX5_addSizes 151 = .ok (.iload_n 1, 1) := by decide +kernel
theorem dX5_addSizes_152 : decode cX5_addSizes 152 = .ok (.iload 7, 2) := by decide +kernel
theorem dX5_addSizes_154 : decode cX5_addSizes 154 = .ok (.iconst 1, 1) := by decide +kernel
theorem dX5_addSizes_155 : decode cX5_addSizes 155 = .ok (.iadd, 1) := by decide +kernel
theorem dX5_addSizes_156 : decode cX5_addSizes 156 = .ok (.iload 4, 2) := by decide +kernel
theorem dX5_addSizes_158 : decode cX5_addSizes 158 = .ok (.invokevirtual 45, 3) := by decide +kernel
theorem dX5_addSizes_161 : decode cX5_addSizes 161 = .ok (.return_, 1) := by decide +kernel
theorem dX5_lessSizes_0 : decode cX5_lessSizes 0 = .ok (.aload_n 0, 1) := by decide +kernel
theorem dX5_lessSizes_1 : decode cX5_lessSizes 1 = .ok (.getfield 19, 3) := by decide +kernel
theorem dX5_lessSizes_4 : decode cX5_lessSizes 4 = .ok (.iload_n 2, 1) := by decide +kernel
theorem dX5_lessSizes_5 : decode cX5_lessSizes 5 = .ok (.iaload, 1) := by decide +kernel
theorem dX5_lessSizes_6 : decode cX5_lessSizes 6 = .ok (.istore 5, 2) := by decide +kernel
theorem dX5_lessSizes_8 : decode cX5_lessSizes 8 = .ok (.aload_n 0, 1) := by decide +kernel
theorem dX5_lessSizes_9 : decode cX5_lessSizes 9 = .ok (.getfield 19, 3) := by decide +kernel
theorem dX5_lessSizes_12 : decode cX5_lessSizes 12 = .ok (.iload_n 3, 1) := by decide +kernel
theorem dX5_lessSizes_13 : decode cX5_lessSizes 13 = .ok (.iaload, 1) := by decide +kernel
theorem dX5_lessSizes_14 : decode cX5_lessSizes 14 = .ok (.istore 6, 2) := by decide +kernel
theorem dX5_lessSizes_16 : decode cX5_lessSizes 16 = .ok (.lconst 0, 1) := by decide +kernel
theorem dX5_lessSizes_17 : decode cX5_lessSizes 17 = .ok (.lstore 7, 2) := by decide +kernel
theorem dX5_lessSizes_19 : decode cX5_lessSizes 19 = .ok (.iconst 0, 1) := by decide +kernel
theorem dX5_lessSizes_20 : decode cX5_lessSizes 20 = .ok (.istore 9, 2) := by decide +kernel
theorem dX5_lessSizes_22 : decode cX5_lessSizes 22 = .ok (.iload 9, 2) := by decide +kernel
theorem dX5_lessSizes_24 : decode cX5_lessSizes 24 = .ok (.iload 5, 2) := by decide +kernel
theorem dX5_lessSizes_26 : decode cX5_lessSizes 26 = .ok (.if_icmp .ge 88, 3) := by decide +kernel
theorem dX5_lessSizes_29 : decode cX5_lessSizes 29 = .ok (.aload_n 0, 1) := by decide +kernel
theorem dX5_lessSizes_30 : decode cX5_lessSizes 30 = .ok (.getfield 15, 3) := by decide +kernel
theorem dX5_lessSizes_33 : decode cX5_lessSizes 33 = .ok (.sipush 640, 3) := by decide +kernel
theorem dX5_lessSizes_36 : decode cX5_lessSizes 36 = .ok (.iload_n 2, 1) := by decide +kernel
theorem dX5_lessSizes_37 : decode cX5_lessSizes 37 = .ok (.imul, 1) := by decide +kernel
theorem dX5_lessSizes_38 : decode cX5_lessSizes 38 = .ok (.iload 9, 2) := by decide +kernel
theorem dX5_lessSizes_40 : decode cX5_lessSizes 40 = .ok (.iadd, 1) := by decide +kernel
theorem dX5_lessSizes_41 : decode cX5_lessSizes 41 = .ok (.iaload, 1) := by decide +kernel
theorem dX5_lessSizes_42 : decode cX5_lessSizes 42 = .ok (.i2l, 1) := by decide +kernel
theorem dX5_lessSizes_43 : decode cX5_lessSizes 43 = .ok (.iload 9, 2) := by decide +kernel
theorem dX5_lessSizes_45 : decode cX5_lessSizes 45 = .ok (.iload 6, 2) := by decide +kernel
theorem dX5_lessSizes_47 : decode cX5_lessSizes 47 = .ok (.if_icmp .ge 20, 3) := by decide +kernel
theorem dX5_lessSizes_50 : decode cX5_lessSizes 50 = .ok (.aload_n 0, 1) := by decide +kernel
theorem dX5_lessSizes_51 : decode cX5_lessSizes 51 = .ok (.getfield 15, 3) := by decide +kernel
theorem dX5_lessSizes_54 : decode cX5_lessSizes 54 = .ok (.sipush 640, 3) := by decide +kernel
theorem dX5_lessSizes_57 : decode cX5_lessSizes 57 = .ok (.iload_n 3, 1) := by decide +kernel
theorem dX5_lessSizes_58 : decode cX5_lessSizes 58 = .ok (.imul, 1) := by decide +kernel
theorem dX5_lessSizes_59 : decode cX5_lessSizes 59 = .ok (.iload 9, 2) := by decide +kernel
theorem dX5_lessSizes_61 : decode cX5_lessSizes 61 = .ok (.iadd, 1) := by decide +kernel
theorem dX5_lessSizes_62 : decode cX5_lessSizes 62 = .ok (.iaload, 1) := by decide +kernel
theorem dX5_lessSizes_63 : decode cX5_lessSizes 63 = .ok (.i2l, 1) := by decide +kernel
theorem dX5_lessSizes_64 : decode cX5_lessSizes 64 = .ok (.goto 4, 3) := by decide +kernel
theorem dX5_lessSizes_67 : decode cX5_lessSizes 67 = .ok (.lconst 0, 1) := by decide +kernel
theorem dX5_lessSizes_68 : decode cX5_lessSizes 68 = .ok (.lsub, 1) := by decide +kernel
theorem dX5_lessSizes_69 : decode cX5_lessSizes 69 = .ok (.lload 7, 2) := by decide +kernel
theorem dX5_lessSizes_71 : decode cX5_lessSizes 71 = .ok (.lsub, 1) := by decide +kernel
theorem dX5_lessSizes_72 : decode cX5_lessSizes 72 = .ok (.lstore 10, 2) := by decide +kernel
theorem dX5_lessSizes_74 : decode cX5_lessSizes 74 = .ok (.aload_n 0, 1) := by decide +kernel
theorem dX5_lessSizes_75 : decode cX5_lessSizes 75 = .ok (.getfield 15, 3) := by decide +kernel
theorem dX5_lessSizes_78 : decode cX5_lessSizes 78 = .ok (.sipush 640, 3) := by decide +kernel
theorem dX5_lessSizes_81 : decode cX5_lessSizes 81 = .ok (.iload_n 1, 1) := by decide +kernel
theorem dX5_lessSizes_82 : decode cX5_lessSizes 82 = .ok (.imul, 1) := by decide +kernel
theorem dX5_lessSizes_83 : decode cX5_lessSizes 83 = .ok (.iload 9, 2) := by decide +kernel
theorem dX5_lessSizes_85 : decode cX5_lessSizes 85 = .ok (.iadd, 1) := by decide +kernel
theorem dX5_lessSizes_86 : decode cX5_lessSizes 86 = .ok (.lload 10, 2) := by decide +kernel
theorem dX5_lessSizes_88 : decode cX5_lessSizes 88 = .ok (.ldc2_w 43, 3) := by decide +kernel
theorem dX5_lessSizes_91 : decode cX5_lessSizes 91 = .ok (.land, 1) := by decide +kernel
theorem dX5_lessSizes_92 : decode cX5_lessSizes 92 = .ok (.l2i, 1) := by decide +kernel
theorem dX5_lessSizes_93 : decode cX5_lessSizes 93 = .ok (.iastore, 1) := by decide +kernel
theorem dX5_lessSizes_94 : decode cX5_lessSizes 94 = .ok (.lload 10, 2) := by decide +kernel
theorem dX5_lessSizes_96 : decode cX5_lessSizes 96 = .ok (.lconst 0, 1) := by decide +kernel
theorem dX5_lessSizes_97 : decode cX5_lessSizes 97 = .ok (.lcmp, 1) := by decide +kernel
theorem dX5_lessSizes_98 : decode cX5_lessSizes 98 = .ok (.ifCond .ge 7, 3) := by decide +kernel
theorem dX5_lessSizes_101 : decode cX5_lessSizes 101 = .ok (.lconst 1, 1) := by decide +kernel
theorem dX5_lessSizes_102 : decode cX5_lessSizes 102 = .ok (.goto 4, 3) := by decide +kernel
theorem dX5_lessSizes_105 : decode cX5_lessSizes 105 = .ok (.lconst 0, 1) := by decide +kernel
theorem dX5_lessSizes_106 : decode cX5_lessSizes 106 = .ok (.lstore 7, 2) := by decide +kernel
theorem dX5_lessSizes_108 : decode cX5_lessSizes 108 = .ok (.iinc 9 1, 3) := by decide +kernel
theorem dX5_lessSizes_111 : decode cX5_lessSizes 111 = .ok (.goto (-89), 3) := by decide +kernel
theorem dX5_lessSizes_114 : decode cX5_lessSizes 114 = .ok (.aload_n 0, 1) := by decide +kernel
theorem dX5_lessSizes_115 : decode cX5_lessSizes 115 = .ok (.iload_n 1, 1) := by decide +kernel
theorem dX5_lessSizes_116 : decode cX5_lessSizes 116 = .ok (.iload 5, 2) := by decide +kernel
theorem dX5_lessSizes_118 : decode cX5_lessSizes 118 = .ok (.iload 4, 2) := by decide +kernel
theorem dX5_lessSizes_120 : decode cX5_lessSizes 120 = .ok (.invokevirtual 45, 3) := by decide +kernel
theorem dX5_lessSizes_123 : decode cX5_lessSizes 123 = .ok (.return_, 1) := by decide +kernel
theorem dX5_add_0 : decode cX5_add 0 = .ok (.iload 4, 2) := by decide +kernel
theorem dX5_add_2 : decode cX5_add 2 = .ok (.aload_n 0, 1) := by decide +kernel
theorem dX5_add_3 : decode cX5_add 3 = .ok (.getfield 22, 3) := by decide +kernel
theorem dX5_add_6 : decode cX5_add 6 = .ok (.iload_n 3, 1) := by decide +kernel
theorem dX5_add_7 : decode cX5_add 7 = .ok (.iaload, 1) := by decide +kernel
theorem dX5_add_8 : decode cX5_add 8 = .ok (.imul, 1) := by decide +kernel
theorem dX5_add_9 : decode cX5_add 9 = .ok (.istore 5, 2) := by decide +kernel
theorem dX5_add_11 : decode cX5_add 11 = .ok (.iload 5, 2) := by decide +kernel
theorem dX5_add_13 : decode cX5_add 13 = .ok (.ifCond .ne 12, 3) := by decide +kernel
theorem dX5_add_16 : decode cX5_add 16 = .ok (.aload_n 0, 1) := by decide +kernel
theorem dX5_add_17 : decode cX5_add 17 = .ok (.iload_n 1, 1) := by decide +kernel
theorem dX5_add_18 : decode cX5_add 18 = .ok (.iload_n 2, 1) := by decide +kernel
theorem dX5_add_19 : decode cX5_add 19 = .ok (.invokevirtual 49, 3) := by decide +kernel
theorem dX5_add_22 : decode cX5_add 22 = .ok (.goto 86, 3) := by decide +kernel
theorem dX5_add_25 : decode cX5_add 25 = .ok (.aload_n 0, 1) := by decide +kernel
theorem dX5_add_26 : decode cX5_add 26 = .ok (.getfield 22, 3) := by decide +kernel
theorem dX5_add_29 : decode cX5_add 29 = .ok (.iload_n 2, 1) := by decide +kernel
theorem dX5_add_30 : decode cX5_add 30 = .ok (.iaload, 1) := by decide +kernel
theorem dX5_add_31 : decode cX5_add 31 = .ok (.ifCond .ne 20, 3) := by decide +kernel
theorem dX5_add_34 : decode cX5_add 34 = .ok (.aload_n 0, 1) := by decide +kernel
theorem dX5_add_35 : decode cX5_add 35 = .ok (.iload_n 1, 1) := by decide +kernel
theorem dX5_add_36 : decode cX5_add 36 = .ok (.iload_n 3, 1) := by decide +kernel
theorem dX5_add_37 : decode cX5_add 37 = .ok (.invokevirtual 49, 3) := by decide +kernel
theorem dX5_add_40 : decode cX5_add 40 = .ok (.aload_n 0, 1) := by decide +kernel
theorem dX5_add_41 : decode cX5_add 41 = .ok (.getfield 22, 3) := by decide +kernel
theorem dX5_add_44 : decode cX5_add 44 = .ok (.iload_n 1, 1) := by decide +kernel
theorem dX5_add_45 : decode cX5_add 45 = .ok (.iload 5, 2) := by decide +kernel
theorem dX5_add_47 : decode cX5_add 47 = .ok (.iastore, 1) := by decide +kernel
theorem dX5_add_48 : decode cX5_add 48 = .ok (.goto 60, 3) := by decide +kernel
theorem dX5_add_51 : decode cX5_add 51 = .ok (.aload_n 0, 1) := by decide +kernel
theorem dX5_add_52 : decode cX5_add 52 = .ok (.getfield 22, 3) := by decide +kernel
theorem dX5_add_55 : decode cX5_add 55 = .ok (.iload_n 2, 1) := by decide +kernel
theorem dX5_add_56 : decode cX5_add 56 = .ok (.iaload, 1) := by decide +kernel
theorem dX5_add_57 : decode cX5_add 57 = .ok (.iload 5, 2) := by decide +kernel
theorem dX5_add_59 : decode cX5_add 59 = .ok (.if_icmp .ne 15, 3) := by decide +kernel
theorem dX5_add_62 : decode cX5_add 62 = .ok (.aload_n 0, 1) := by decide +kernel
theorem dX5_add_63 : decode cX5_add 63 = .ok (.iload_n 1, 1) := by decide +kernel
theorem dX5_add_64 : decode cX5_add 64 = .ok (.iload_n 2, 1) := by decide +kernel
theorem dX5_add_65 : decode cX5_add 65 = .ok (.iload_n 3, 1) := by decide +kernel
theorem dX5_add_66 : decode cX5_add 66 = .ok (.iload 5, 2) := by decide +kernel
theorem dX5_add_68 : decode cX5_add 68 = .ok (.invokevirtual 53, 3) := by decide +kernel
theorem dX5_add_71 : decode cX5_add 71 = .ok (.goto 37, 3) := by decide +kernel
theorem dX5_add_74 : decode cX5_add 74 = .ok (.aload_n 0, 1) := by decide +kernel
theorem dX5_add_75 : decode cX5_add 75 = .ok (.iload_n 2, 1) := by decide +kernel
theorem dX5_add_76 : decode cX5_add 76 = .ok (.iload_n 3, 1) := by decide +kernel
theorem dX5_add_77 : decode cX5_add 77 = .ok (.invokevirtual 57, 3) := by decide +kernel
theorem dX5_add_80 : decode cX5_add 80 = .ok (.ifCond .lt 19, 3) := by decide +kernel
theorem dX5_add_83 : decode cX5_add 83 = .ok (.aload_n 0, 1) := by decide +kernel
theorem dX5_add_84 : decode cX5_add 84 = .ok (.iload_n 1, 1) := by decide +kernel
theorem dX5_add_85 : decode cX5_add 85 = .ok (.iload_n 2, 1) := by decide +kernel
theorem dX5_add_86 : decode cX5_add 86 = .ok (.iload_n 3, 1) := by decide +kernel
theorem dX5_add_87 : decode cX5_add 87 = .ok (.aload_n 0, 1) := by decide +kernel
theorem dX5_add_88 : decode cX5_add 88 = .ok (.getfield 22, 3) := by decide +kernel
theorem dX5_add_91 : decode cX5_add 91 = .ok (.iload_n 2, 1) := by decide +kernel
theorem dX5_add_92 : decode cX5_add 92 = .ok (.iaload, 1) := by decide +kernel
theorem dX5_add_93 : decode cX5_add 93 = .ok (.invokevirtual 61, 3) := by decide +kernel
theorem dX5_add_96 : decode cX5_add 96 = .ok (.goto 12, 3) := by decide +kernel
theorem dX5_add_99 : decode cX5_add 99 = .ok (.aload_n 0, 1) := by decide +kernel
theorem dX5_add_100 : decode cX5_add 100 = .ok (.iload_n 1, 1) := by decide +kernel
theorem dX5_add_101 : decode cX5_add 101 = .ok (.iload_n 3, 1) := by decide +kernel
theorem dX5_add_102 : decode cX5_add 102 = .ok (.iload_n 2, 1) := by decide +kernel
theorem dX5_add_103 : decode cX5_add 103 = .ok (.iload 5, 2) := by decide +kernel
theorem dX5_add_105 : decode cX5_add 105 = .ok (.invokevirtual 61, 3) := by decide +kernel
theorem dX5_add_108 : decode cX5_add 108 = .ok (.return_, 1) := by decide +kernel
theorem dX5_multiply_0 : decode cX5_multiply 0 = .ok (.aload_n 0, 1) := by decide +kernel
theorem dX5_multiply_1 : decode cX5_multiply 1 = .ok (.getfield 19, 3) := by decide +kernel
theorem dX5_multiply_4 : decode cX5_multiply 4 = .ok (.iload_n 2, 1) := by decide +kernel
theorem dX5_multiply_5 : decode cX5_multiply 5 = .ok (.iaload, 1) := by decide +kernel
theorem dX5_multiply_6 : decode cX5_multiply 6 = .ok (.istore 4, 2) := by decide +kernel
theorem dX5_multiply_8 : decode cX5_multiply 8 = .ok (.aload_n 0, 1) := by decide +kernel
theorem dX5_multiply_9 : decode cX5_multiply 9 = .ok (.getfield 19, 3) := by decide +kernel
theorem dX5_multiply_12 : decode cX5_multiply 12 = .ok (.iload_n 3, 1) := by decide +kernel
theorem dX5_multiply_13 : decode cX5_multiply 13 = .ok (.iaload, 1) := by decide +kernel
theorem dX5_multiply_14 : decode cX5_multiply 14 = .ok (.istore 5, 2) := by decide +kernel
theorem dX5_multiply_16 : decode cX5_multiply 16 = .ok (.iconst 0, 1) := by decide +kernel
theorem dX5_multiply_17 : decode cX5_multiply 17 = .ok (.istore 6, 2) := by decide +kernel
theorem dX5_multiply_19 : decode cX5_multiply 19 = .ok (.iload 6, 2) := by decide +kernel
theorem dX5_multiply_21 : decode cX5_multiply 21 = .ok (.iload 4, 2) := by decide +kernel
theorem dX5_multiply_23 : decode cX5_multiply 23 = .ok (.iload 5, 2) := by decide +kernel
theorem dX5_multiply_25 : decode cX5_multiply 25 = .ok (.iadd, 1) := by decide +kernel
theorem dX5_multiply_26 : decode cX5_multiply 26 = .ok (.if_icmp .ge 23, 3) := by decide +kernel
theorem dX5_multiply_29 : decode cX5_multiply 29 = .ok (.aload_n 0, 1) := by decide +kernel
theorem dX5_multiply_30 : decode cX5_multiply 30 = .ok (.getfield 15, 3) := by decide +kernel
theorem dX5_multiply_33 : decode cX5_multiply 33 = .ok (.sipush 640, 3) := by decide +kernel
theorem dX5_multiply_36 : decode cX5_multiply 36 = .ok (.iload_n 1, 1) := by decide +kernel
theorem dX5_multiply_37 : decode cX5_multiply 37 = .ok (.imul, 1) := by decide +kernel
theorem dX5_multiply_38 : decode cX5_multiply 38 = .ok (.iload 6, 2) := by decide +kernel
theorem dX5_multiply_40 : decode cX5_multiply 40 = .ok (.iadd, 1) := by decide +kernel
theorem dX5_multiply_41 : decode cX5_multiply 41 = .ok (.iconst 0, 1) := by decide +kernel
theorem dX5_multiply_42 : decode cX5_multiply 42 = .ok (.iastore, 1) := by decide +kernel
theorem dX5_multiply_43 : decode cX5_multiply 43 = .ok (.iinc 6 1, 3) := by decide +kernel
theorem dX5_multiply_46 : decode cX5_multiply 46 = .ok (.goto (-27), 3) := by decide +kernel
theorem dX5_multiply_49 : decode cX5_multiply 49 = .ok (.iconst 0, 1) := by decide +kernel
theorem dX5_multiply_50 : decode cX5_multiply 50 = .ok (.istore 6, 2) := by decide +kernel
theorem dX5_multiply_52 : decode cX5_multiply 52 = .ok (.iload 6, 2) := by decide +kernel
theorem dX5_multiply_54 : decode cX5_multiply 54 = .ok (.iload 4, 2) := by decide +kernel
theorem dX5_multiply_56 : decode cX5_multiply 56 = .ok (.if_icmp .ge 129, 3) := by decide +kernel
theorem dX5_multiply_59 : decode cX5_multiply 59 = .ok (.lconst 0, 1) := by decide +kernel
theorem dX5_multiply_60 : decode cX5_multiply 60 = .ok (.lstore 7, 2) := by decide +kernel
theorem dX5_multiply_62 : decode cX5_multiply 62 = .ok (.iconst 0, 1) := by decide +kernel
theorem dX5_multiply_63 : decode cX5_multiply 63 = .ok (.istore 9, 2) := by decide +kernel
theorem dX5_multiply_65 : decode cX5_multiply 65 = .ok (.iload 9, 2) := by decide +kernel
theorem dX5_multiply_67 : decode cX5_multiply 67 = .ok (.iload 5, 2) := by decide +kernel
theorem dX5_multiply_69 : decode cX5_multiply 69 = .ok (.if_icmp .ge 91, 3) := by decide +kernel
theorem dX5_multiply_72 : decode cX5_multiply 72 = .ok (.lload 7, 2) := by decide +kernel
theorem dX5_multiply_74 : decode cX5_multiply 74 = .ok (.aload_n 0, 1) := by decide +kernel
theorem dX5_multiply_75 : decode cX5_multiply 75 = .ok (.getfield 15, 3) := by decide +kernel
theorem dX5_multiply_78 : decode cX5_multiply 78 = .ok (.sipush 640, 3) := by decide +kernel
theorem dX5_multiply_81 : decode cX5_multiply 81 = .ok (.iload_n 2, 1) := by decide +kernel
theorem dX5_multiply_82 : decode cX5_multiply 82 = .ok (.imul, 1) := by decide +kernel
theorem dX5_multiply_83 : decode cX5_multiply 83 = .ok (.iload 6, 2) := by decide +kernel
theorem dX5_multiply_85 : decode cX5_multiply 85 = .ok (.iadd, 1) := by decide +kernel
theorem dX5_multiply_86 : decode cX5_multiply 86 = .ok (.iaload, 1) := by decide +kernel
theorem dX5_multiply_87 : decode cX5_multiply 87 = .ok (.i2l, 1) := by decide +kernel
theorem dX5_multiply_88 : decode cX5_multiply 88 = .ok (.aload_n 0, 1) := by decide +kernel
theorem dX5_multiply_89 : decode cX5_multiply 89 = .ok (.getfield 15, 3) := by decide +kernel
theorem dX5_multiply_92 : decode cX5_multiply 92 = .ok (.sipush 640, 3) := by decide +kernel
theorem dX5_multiply_95 : decode cX5_multiply 95 = .ok (.iload_n 3, 1) := by decide +kernel
theorem dX5_multiply_96 : decode cX5_multiply 96 = .ok (.imul, 1) := by decide +kernel
theorem dX5_multiply_97 : decode cX5_multiply 97 = .ok (.iload 9, 2) := by decide +kernel
theorem dX5_multiply_99 : decode cX5_multiply 99 = .ok (.iadd, 1) := by decide +kernel
theorem dX5_multiply_100 : decode cX5_multiply 100 = .ok (.iaload, 1) := by decide +kernel
theorem dX5_multiply_101 : decode cX5_multiply 101 = .ok (.i2l, 1) := by decide +kernel
theorem dX5_multiply_102 : decode cX5_multiply 102 = .ok (.lmul, 1) := by decide +kernel
theorem dX5_multiply_103 : decode cX5_multiply 103 = .ok (.aload_n 0, 1) := by decide +kernel
theorem dX5_multiply_104 : decode cX5_multiply 104 = .ok (.getfield 15, 3) := by decide +kernel
theorem dX5_multiply_107 : decode cX5_multiply 107 = .ok (.sipush 640, 3) := by decide +kernel
theorem dX5_multiply_110 : decode cX5_multiply 110 = .ok (.iload_n 1, 1) := by decide +kernel
theorem dX5_multiply_111 : decode cX5_multiply 111 = .ok (.imul, 1) := by decide +kernel
theorem dX5_multiply_112 : decode cX5_multiply 112 = .ok (.iload 6, 2) := by decide +kernel
theorem dX5_multiply_114 : decode cX5_multiply 114 = .ok (.iadd, 1) := by decide +kernel
theorem dX5_multiply_115 : decode cX5_multiply 115 = .ok (.iload 9, 2) := by decide +kernel
theorem dX5_multiply_117 : decode cX5_multiply 117 = .ok (.iadd, 1) := by decide +kernel
theorem dX5_multiply_118 : decode cX5_multiply 118 = .ok (.iaload, 1) := by decide +kernel
theorem dX5_multiply_119 : decode cX5_multiply 119 = .ok (.i2l, 1) := by decide +kernel
theorem dX5_multiply_120 : decode cX5_multiply 120 = .ok (.ladd, 1) := by decide +kernel
theorem dX5_multiply_121 : decode cX5_multiply 121 = .ok (.ladd, 1) := by decide +kernel
theorem dX5_multiply_122 : decode cX5_multiply 122 = .ok (.lstore 7, 2) := by decide +kernel
theorem dX5_multiply_124 : decode cX5_multiply 124 = .ok (.aload_n 0, 1) := by decide +kernel
theorem dX5_multiply_125 : decode cX5_multiply 125 = .ok (.getfield 15, 3) := by decide +kernel
theorem dX5_multiply_128 : decode cX5_multiply 128 = .ok (.sipush 640, 3) := by decide +kernel
theorem dX5_multiply_131 : decode cX5_multiply 131 = .ok (.iload_n 1, 1) := by decide +kernel
theorem dX5_multiply_132 : decode cX5_multiply 132 = .ok (.imul, 1) := by decide +kernel
theorem dX5_multiply_133 : decode cX5_multiply 133 = .ok (.iload 6, 2) := by decide +kernel
theorem dX5_multiply_135 : decode cX5_multiply 135 = .ok (.iadd, 1) := by decide +kernel
theorem dX5_multiply_136 : decode cX5_multiply 136 = .ok (.iload 9, 2) := by decide +kernel
theorem dX5_multiply_138 : decode cX5_multiply 138 = .ok (.iadd, 1) := by decide +kernel
theorem dX5_multiply_139 : decode cX5_multiply 139 = .ok (.lload 7, 2) := by decide +kernel
theorem dX5_multiply_141 : decode cX5_multiply 141 = .ok (.ldc2_w 43, 3) := by decide +kernel
theorem dX5_multiply_144 : decode cX5_multiply 144 = .ok (.land, 1) := by decide +kernel
theorem dX5_multiply_145 : decode cX5_multiply 145 = .ok (.l2i, 1) := by decide +kernel
theorem dX5_multiply_146 : decode cX5_multiply 146 = .ok (.iastore, 1) := by decide +kernel
theorem dX5_multiply_147 : decode cX5_multiply 147 = .ok (.lload 7, 2) := by decide +kernel
theorem dX5_multiply_149 : decode cX5_multiply 149 = .ok (.bipush 31, 2) := by decide +kernel
theorem dX5_multiply_151 : decode cX5_multiply 151 = .ok (.lshr, 1) := by decide +kernel
theorem dX5_multiply_152 : decode cX5_multiply 152 = .ok (.lstore 7, 2) := by decide +kernel
theorem dX5_multiply_154 : decode cX5_multiply 154 = .ok (.iinc 9 1, 3) := by decide +kernel
theorem dX5_multiply_157 : decode cX5_multiply 157 = .ok (.goto (-92), 3) := by decide +kernel
theorem dX5_multiply_160 : decode cX5_multiply 160 = .ok (.aload_n 0, 1) := by decide +kernel
theorem dX5_multiply_161 : decode cX5_multiply 161 = .ok (.getfield 15, 3) := by decide +kernel
theorem dX5_multiply_164 : decode cX5_multiply 164 = .ok (.sipush 640, 3) := by decide +kernel
theorem dX5_multiply_167 : decode cX5_multiply 167 = .ok (.iload_n 1, 1) := by decide +kernel
theorem dX5_multiply_168 : decode cX5_multiply 168 = .ok (.imul, 1) := by decide +kernel
theorem dX5_multiply_169 : decode cX5_multiply 169 = .ok (.iload 6, 2) := by decide +kernel
theorem dX5_multiply_171 : decode cX5_multiply 171 = .ok (.iadd, 1) := by decide +kernel
theorem dX5_multiply_172 : decode cX5_multiply 172 = .ok (.iload 5, 2) := by decide +kernel
theorem dX5_multiply_174 : decode cX5_multiply 174 = .ok (.iadd, 1) := by decide +kernel
theorem dX5_multiply_175 : decode cX5_multiply 175 = .ok (.lload 7, 2) := by decide +kernel
theorem dX5_multiply_177 : decode cX5_multiply 177 = .ok (.l2i, 1) := by decide +kernel
theorem dX5_multiply_178 : decode cX5_multiply 178 = .ok (.iastore, 1) := by decide +kernel
theorem dX5_multiply_179 : decode cX5_multiply 179 = .ok (.iinc 6 1, 3) := by decide +kernel
theorem dX5_multiply_182 : decode cX5_multiply 182 = .ok (.goto (-130), 3) := by decide +kernel
theorem dX5_multiply_185 : decode cX5_multiply 185 = .ok (.aload_n 0, 1) := by decide +kernel
theorem dX5_multiply_186 : decode cX5_multiply 186 = .ok (.iload_n 1, 1) := by decide +kernel
theorem dX5_multiply_187 : decode cX5_multiply 187 = .ok (.iload 4, 2) := by decide +kernel
theorem dX5_multiply_189 : decode cX5_multiply 189 = .ok (.iload 5, 2) := by decide +kernel
theorem dX5_multiply_191 : decode cX5_multiply 191 = .ok (.iadd, 1) := by decide +kernel
theorem dX5_multiply_192 : decode cX5_multiply 192 = .ok (.aload_n 0, 1) := by decide +kernel
theorem dX5_multiply_193 : decode cX5_multiply 193 = .ok (.getfield 22, 3) := by decide +kernel
theorem dX5_multiply_196 : decode cX5_multiply 196 = .ok (.iload_n 2, 1) := by decide +kernel
theorem dX5_multiply_197 : decode cX5_multiply 197 = .ok (.iaload, 1) := by decide +kernel
theorem dX5_multiply_198 : decode cX5_multiply 198 = .ok (.aload_n 0, 1) := by decide +kernel
theorem dX5_multiply_199 : decode cX5_multiply 199 = .ok (.getfield 22, 3) := by decide +kernel
theorem dX5_multiply_202 : decode cX5_multiply 202 = .ok (.iload_n 3, 1) := by decide +kernel
theorem dX5_multiply_203 : decode cX5_multiply 203 = .ok (.iaload, 1) := by decide +kernel
theorem dX5_multiply_204 : decode cX5_multiply 204 = .ok (.imul, 1) := by decide +kernel
theorem dX5_multiply_205 : decode cX5_multiply 205 = .ok (.invokevirtual 45, 3) := by decide +kernel
theorem dX5_multiply_208 : decode cX5_multiply 208 = .ok (.return_, 1) := by decide +kernel
theorem dX5_up_0 : decode cX5_up 0 = .ok (.iload_n 2, 1) := by decide +kernel
theorem dX5_up_1 : decode cX5_up 1 = .ok (.bipush 31, 2) := by decide +kernel
theorem dX5_up_3 : decode cX5_up 3 = .ok (.idiv, 1) := by decide +kernel
theorem dX5_up_4 : decode cX5_up 4 = .ok (.istore_n 3, 1) := by decide +kernel
theorem dX5_up_5 : decode cX5_up 5 = .ok (.iload_n 2, 1) := by decide +kernel
theorem dX5_up_6 : decode cX5_up 6 = .ok (.bipush 31, 2) := by decide +kernel
theorem dX5_up_8 : decode cX5_up 8 = .ok (.irem, 1) := by decide +kernel
theorem dX5_up_9 : decode cX5_up 9 = .ok (.istore 4, 2) := by decide +kernel
theorem dX5_up_11 : decode cX5_up 11 = .ok (.aload_n 0, 1) := by decide +kernel
theorem dX5_up_12 : decode cX5_up 12 = .ok (.getfield 19, 3) := by decide +kernel
theorem dX5_up_15 : decode cX5_up 15 = .ok (.iload_n 1, 1) := by decide +kernel
theorem dX5_up_16 : decode cX5_up 16 = .ok (.iaload, 1) := by decide +kernel
theorem dX5_up_17 : decode cX5_up 17 = .ok (.istore 5, 2) := by decide +kernel
theorem dX5_up_19 : decode cX5_up 19 = .ok (.iload 5, 2) := by decide +kernel
theorem dX5_up_21 : decode cX5_up 21 = .ok (.ifCond .ne 4, 3) := by decide +kernel
theorem dX5_up_24 : decode cX5_up 24 = .ok (.return_, 1) := by decide +kernel
theorem dX5_up_25 : decode cX5_up 25 = .ok (.aload_n 0, 1) := by decide +kernel
theorem dX5_up_26 : decode cX5_up 26 = .ok (.getfield 15, 3) := by decide +kernel
theorem dX5_up_29 : decode cX5_up 29 = .ok (.sipush 640, 3) := by decide +kernel
theorem dX5_up_32 : decode cX5_up 32 = .ok (.iload_n 1, 1) := by decide +kernel
theorem dX5_up_33 : decode cX5_up 33 = .ok (.imul, 1) := by decide +kernel
theorem dX5_up_34 : decode cX5_up 34 = .ok (.iload 5, 2) := by decide +kernel
theorem dX5_up_36 : decode cX5_up 36 = .ok (.iadd, 1) := by decide +kernel
theorem dX5_up_37 : decode cX5_up 37 = .ok (.iload_n 3, 1) := by decide +kernel
theorem dX5_up_38 : decode cX5_up 38 = .ok (.iadd, 1) := by decide +kernel
theorem dX5_up_39 : decode cX5_up 39 = .ok (.iconst 0, 1) := by decide +kernel
theorem dX5_up_40 : decode cX5_up 40 = .ok (.iastore, 1) := by decide +kernel
theorem dX5_up_41 : decode cX5_up 41 = .ok (.iload 5, 2) := by decide +kernel
theorem dX5_up_43 : decode cX5_up 43 = .ok (.iconst 1, 1) := by decide +kernel
theorem dX5_up_44 : decode cX5_up 44 = .ok (.isub, 1) := by decide +kernel
theorem dX5_up_45 : decode cX5_up 45 = .ok (.istore 6, 2) := by decide +kernel
theorem dX5_up_47 : decode cX5_up 47 = .ok (.iload 6, 2) := by decide +kernel
theorem dX5_up_49 : decode cX5_up 49 = .ok (.ifCond .lt 76, 3) := by decide +kernel
theorem dX5_up_52 : decode cX5_up 52 = .ok (.aload_n 0, 1) := by decide +kernel
theorem dX5_up_53 : decode cX5_up 53 = .ok (.getfield 15, 3) := by decide +kernel
theorem dX5_up_56 : decode cX5_up 56 = .ok (.sipush 640, 3) := by decide +kernel
theorem dX5_up_59 : decode cX5_up 59 = .ok (.iload_n 1, 1) := by decide +kernel
theorem dX5_up_60 : decode cX5_up 60 = .ok (.imul, 1) := by decide +kernel
theorem dX5_up_61 : decode cX5_up 61 = .ok (.iload 6, 2) := by decide +kernel
theorem dX5_up_63 : decode cX5_up 63 = .ok (.iadd, 1) := by decide +kernel
theorem dX5_up_64 : decode cX5_up 64 = .ok (.iaload, 1) := by decide +kernel
theorem dX5_up_65 : decode cX5_up 65 = .ok (.i2l, 1) := by decide +kernel
theorem dX5_up_66 : decode cX5_up 66 = .ok (.iload 4, 2) := by decide +kernel
theorem dX5_up_68 : decode cX5_up 68 = .ok (.lshl, 1) := by decide +kernel
theorem dX5_up_69 : decode cX5_up 69 = .ok (.lstore 7, 2) := by decide +kernel
theorem dX5_up_71 : decode cX5_up 71 = .ok (.aload_n 0, 1) := by decide +kernel
theorem dX5_up_72 : decode cX5_up 72 = .ok (.getfield 15, 3) := by decide +kernel
theorem dX5_up_75 : decode cX5_up 75 = .ok (.sipush 640, 3) := by decide +kernel
theorem dX5_up_78 : decode cX5_up 78 = .ok (.iload_n 1, 1) := by decide +kernel
theorem dX5_up_79 : decode cX5_up 79 = .ok (.imul, 1) := by decide +kernel
theorem dX5_up_80 : decode cX5_up 80 = .ok (.iload 6, 2) := by decide +kernel
theorem dX5_up_82 : decode cX5_up 82 = .ok (.iadd, 1) := by decide +kernel
theorem dX5_up_83 : decode cX5_up 83 = .ok (.iload_n 3, 1) := by decide +kernel
theorem dX5_up_84 : decode cX5_up 84 = .ok (.iadd, 1) := by decide +kernel
theorem dX5_up_85 : decode cX5_up 85 = .ok (.iconst 1, 1) := by decide +kernel
theorem dX5_up_86 : decode cX5_up 86 = .ok (.iadd, 1) := by decide +kernel
theorem dX5_up_87 : decode cX5_up 87 = .ok (.dup2, 1) := by decide +kernel
theorem dX5_up_88 : decode cX5_up 88 = .ok (.iaload, 1) := by decide +kernel
theorem dX5_up_89 : decode cX5_up 89 = .ok (.lload 7, 2) := by decide +kernel
theorem dX5_up_91 : decode cX5_up 91 = .ok (.bipush 31, 2) := by decide +kernel
theorem dX5_up_93 : decode cX5_up 93 = .ok (.lshr, 1) := by decide +kernel
theorem dX5_up_94 : decode cX5_up 94 = .ok (.l2i, 1) := by decide +kernel
theorem dX5_up_95 : decode cX5_up 95 = .ok (.ior, 1) := by decide +kernel
theorem dX5_up_96 : decode cX5_up 96 = .ok (.iastore, 1) := by decide +kernel
theorem dX5_up_97 : decode cX5_up 97 = .ok (.aload_n 0, 1) := by decide +kernel
theorem dX5_up_98 : decode cX5_up 98 = .ok (.getfield 15, 3) := by decide +kernel
theorem dX5_up_101 : decode cX5_up 101 = .ok (.sipush 640, 3) := by decide +kernel
theorem dX5_up_104 : decode cX5_up 104 = .ok (.iload_n 1, 1) := by decide +kernel
theorem dX5_up_105 : decode cX5_up 105 = .ok (.imul, 1) := by decide +kernel
theorem dX5_up_106 : decode cX5_up 106 = .ok (.iload 6, 2) := by decide +kernel
theorem dX5_up_108 : decode cX5_up 108 = .ok (.iadd, 1) := by decide +kernel
theorem dX5_up_109 : decode cX5_up 109 = .ok (.iload_n 3, 1) := by decide +kernel
theorem dX5_up_110 : decode cX5_up 110 = .ok (.iadd, 1) := by decide +kernel
theorem dX5_up_111 : decode cX5_up 111 = .ok (.lload 7, 2) := by decide +kernel
theorem dX5_up_113 : decode cX5_up 113 = .ok (.ldc2_w 43, 3) := by decide +kernel
theorem dX5_up_116 : decode cX5_up 116 = .ok (.land, 1) := by decide +kernel
theorem dX5_up_117 : decode cX5_up 117 = .ok (.l2i, 1) := by decide +kernel
theorem dX5_up_118 : decode cX5_up 118 = .ok (.iastore, 1) := by decide +kernel
theorem dX5_up_119 : decode cX5_up 119 = .ok (.iinc 6 (-1), 3) := by decide +kernel
theorem dX5_up_122 : decode cX5_up 122 = .ok (.goto (-75), 3) := by decide +kernel
theorem dX5_up_125 : decode cX5_up 125 = .ok (.iconst 0, 1) := by decide +kernel
theorem dX5_up_126 : decode cX5_up 126 = .ok (.istore 6, 2) := by decide +kernel
theorem dX5_up_128 : decode cX5_up 128 = .ok (.iload 6, 2) := by decide +kernel
theorem dX5_up_130 : decode cX5_up 130 = .ok (.iload_n 3, 1) := by decide +kernel
theorem dX5_up_131 : decode cX5_up 131 = .ok (.if_icmp .ge 23, 3) := by decide +kernel
theorem dX5_up_134 : decode cX5_up 134 = .ok (.aload_n 0, 1) := by decide +kernel
theorem dX5_up_135 : decode cX5_up 135 = .ok (.getfield 15, 3) := by decide +kernel
theorem dX5_up_138 : decode cX5_up 138 = .ok (.sipush 640, 3) := by decide +kernel
theorem dX5_up_141 : decode cX5_up 141 = .ok (.iload_n 1, 1) := by decide +kernel
theorem dX5_up_142 : decode cX5_up 142 = .ok (.imul, 1) := by decide +kernel
theorem dX5_up_143 : decode cX5_up 143 = .ok (.iload 6, 2) := by decide +kernel
theorem dX5_up_145 : decode cX5_up 145 = .ok (.iadd, 1) := by decide +kernel
theorem dX5_up_146 : decode cX5_up 146 = .ok (.iconst 0, 1) := by decide +kernel
theorem dX5_up_147 : decode cX5_up 147 = .ok (.iastore, 1) := by decide +kernel
theorem dX5_up_148 : decode cX5_up 148 = .ok (.iinc 6 1, 3) := by decide +kernel
theorem dX5_up_151 : decode cX5_up 151 = .ok (.goto (-23), 3) := by decide +kernel
theorem dX5_up_154 : decode cX5_up 154 = .ok (.aload_n 0, 1) := by decide +kernel
theorem dX5_up_155 : decode cX5_up 155 = .ok (.iload_n 1, 1) := by decide +kernel
theorem dX5_up_156 : decode cX5_up 156 = .ok (.iload 5, 2) := by decide +kernel
theorem dX5_up_158 : decode cX5_up 158 = .ok (.iload_n 3, 1) := by decide +kernel
theorem dX5_up_159 : decode cX5_up 159 = .ok (.iadd, 1) := by decide +kernel
theorem dX5_up_160 : decode cX5_up 160 = .ok (.iconst 1, 1) := by decide +kernel
theorem dX5_up_161 : decode cX5_up 161 = .ok (.iadd, 1) := by decide +kernel
theorem dX5_up_162 : decode cX5_up 162 = .ok (.aload_n 0, 1) := by decide +kernel
theorem dX5_up_163 : decode cX5_up 163 = .ok (.getfield 22, 3) := by decide +kernel
theorem dX5_up_166 : decode cX5_up 166 = .ok (.iload_n 1, 1) := by decide +kernel
theorem dX5_up_167 : decode cX5_up 167 = .ok (.iaload, 1) := by decide +kernel
theorem dX5_up_168 : decode cX5_up 168 = .ok (.invokevirtual 45, 3) := by decide +kernel
theorem dX5_up_171 : decode cX5_up 171 = .ok (.return_, 1) := by decide +kernel
theorem dX5_down_0 : decode cX5_down 0 = .ok (.iload_n 2, 1) := by decide +kernel
theorem dX5_down_1 : decode cX5_down 1 = .ok (.bipush 31, 2) := by decide +kernel
theorem dX5_down_3 : decode cX5_down 3 = .ok (.idiv, 1) := by decide +kernel
theorem dX5_down_4 : decode cX5_down 4 = .ok (.istore_n 3, 1) := by decide +kernel
theorem dX5_down_5 : decode cX5_down 5 = .ok (.iload_n 2, 1) := by decide +kernel
theorem dX5_down_6 : decode cX5_down 6 = .ok (.bipush 31, 2) := by decide +kernel
theorem dX5_down_8 : decode cX5_down 8 = .ok (.irem, 1) := by decide +kernel
theorem dX5_down_9 : decode cX5_down 9 = .ok (.istore 4, 2) := by decide +kernel
theorem dX5_down_11 : decode cX5_down 11 = .ok (.aload_n 0, 1) := by decide +kernel
theorem dX5_down_12 : decode cX5_down 12 = .ok (.getfield 19, 3) := by decide +kernel
theorem dX5_down_15 : decode cX5_down 15 = .ok (.iload_n 1, 1) := by decide +kernel
theorem dX5_down_16 : decode cX5_down 16 = .ok (.iaload, 1) := by decide +kernel
theorem dX5_down_17 : decode cX5_down 17 = .ok (.istore 5, 2) := by decide +kernel
theorem dX5_down_19 : decode cX5_down 19 = .ok (.iload_n 3, 1) := by decide +kernel
theorem dX5_down_20 : decode cX5_down 20 = .ok (.istore 6, 2) := by decide +kernel
theorem dX5_down_22 : decode cX5_down 22 = .ok (.iload 6, 2) := by decide +kernel
theorem dX5_down_24 : decode cX5_down 24 = .ok (.iload 5, 2) := by decide +kernel
theorem dX5_down_26 : decode cX5_down 26 = .ok (.if_icmp .ge 83, 3) := by decide +kernel
theorem dX5_down_29 : decode cX5_down 29 = .ok (.aload_n 0, 1) := by decide +kernel
theorem dX5_down_30 : decode cX5_down 30 = .ok (.getfield 15, 3) := by decide +kernel
theorem dX5_down_33 : decode cX5_down 33 = .ok (.sipush 640, 3) := by decide +kernel
theorem dX5_down_36 : decode cX5_down 36 = .ok (.iload_n 1, 1) := by decide +kernel
theorem dX5_down_37 : decode cX5_down 37 = .ok (.imul, 1) := by decide +kernel
theorem dX5_down_38 : decode cX5_down 38 = .ok (.iload 6, 2) := by decide +kernel
theorem dX5_down_40 : decode cX5_down 40 = .ok (.iadd, 1) := by decide +kernel
theorem dX5_down_41 : decode cX5_down 41 = .ok (.iaload, 1) := by decide +kernel
theorem dX5_down_42 : decode cX5_down 42 = .ok (.i2l, 1) := by decide +kernel
theorem dX5_down_43 : decode cX5_down 43 = .ok (.iload 6, 2) := by decide +kernel
theorem dX5_down_45 : decode cX5_down 45 = .ok (.iconst 1, 1) := by decide +kernel
theorem dX5_down_46 : decode cX5_down 46 = .ok (.iadd, 1) := by decide +kernel
theorem dX5_down_47 : decode cX5_down 47 = .ok (.iload 5, 2) := by decide +kernel
theorem dX5_down_49 : decode cX5_down 49 = .ok (.if_icmp .ge 25, 3) := by decide +kernel
theorem dX5_down_52 : decode cX5_down 52 = .ok (.aload_n 0, 1) := by decide +kernel
theorem dX5_down_53 : decode cX5_down 53 = .ok (.getfield 15, 3) := by decide +kernel
theorem dX5_down_56 : decode cX5_down 56 = .ok (.sipush 640, 3) := by decide +kernel
theorem dX5_down_59 : decode cX5_down 59 = .ok (.iload_n 1, 1) := by decide +kernel
theorem dX5_down_60 : decode cX5_down 60 = .ok (.imul, 1) := by decide +kernel
theorem dX5_down_61 : decode cX5_down 61 = .ok (.iload 6, 2) := by decide +kernel
theorem dX5_down_63 : decode cX5_down 63 = .ok (.iadd, 1) := by decide +kernel
theorem dX5_down_64 : decode cX5_down 64 = .ok (.iconst 1, 1) := by decide +kernel
theorem dX5_down_65 : decode cX5_down 65 = .ok (.iadd, 1) := by decide +kernel
theorem dX5_down_66 : decode cX5_down 66 = .ok (.iaload, 1) := by decide +kernel
theorem dX5_down_67 : decode cX5_down 67 = .ok (.i2l, 1) := by decide +kernel
theorem dX5_down_68 : decode cX5_down 68 = .ok (.bipush 31, 2) := by decide +kernel
theorem dX5_down_70 : decode cX5_down 70 = .ok (.lshl, 1) := by decide +kernel
theorem dX5_down_71 : decode cX5_down 71 = .ok (.goto 4, 3) := by decide +kernel
theorem dX5_down_74 : decode cX5_down 74 = .ok (.lconst 0, 1) := by decide +kernel
theorem dX5_down_75 : decode cX5_down 75 = .ok (.lor, 1) := by decide +kernel
theorem dX5_down_76 : decode cX5_down 76 = .ok (.lstore 7, 2) := by decide +kernel
theorem dX5_down_78 : decode cX5_down 78 = .ok (.aload_n 0, 1) := by decide +kernel
theorem dX5_down_79 : decode cX5_down 79 = .ok (.getfield 15, 3) := by decide +kernel
theorem dX5_down_82 : decode cX5_down 82 = .ok (.sipush 640, 3) := by decide +kernel
theorem dX5_down_85 : decode cX5_down 85 = .ok (.iload_n 1, 1) := by decide +kernel
theorem dX5_down_86 : decode cX5_down 86 = .ok (.imul, 1) := by decide +kernel
theorem dX5_down_87 : decode cX5_down 87 = .ok (.iload 6, 2) := by decide +kernel
theorem dX5_down_89 : decode cX5_down 89 = .ok (.iadd, 1) := by decide +kernel
theorem dX5_down_90 : decode cX5_down 90 = .ok (.iload_n 3, 1) := by decide +kernel
theorem dX5_down_91 : decode cX5_down 91 = .ok (.isub, 1) := by decide +kernel
theorem dX5_down_92 : decode cX5_down 92 = .ok (.lload 7, 2) := by decide +kernel
theorem dX5_down_94 : decode cX5_down 94 = .ok (.iload 4, 2) := by decide +kernel
theorem dX5_down_96 : decode cX5_down 96 = .ok (.lshr, 1) := by decide +kernel
theorem dX5_down_97 : decode cX5_down 97 = .ok (.ldc2_w 43, 3) := by decide +kernel
theorem dX5_down_100 : decode cX5_down 100 = .ok (.land, 1) := by decide +kernel
theorem dX5_down_101 : decode cX5_down 101 = .ok (.l2i, 1) := by decide +kernel
theorem dX5_down_102 : decode cX5_down 102 = .ok (.iastore, 1) := by decide +kernel
theorem dX5_down_103 : decode cX5_down 103 = .ok (.iinc 6 1, 3) := by decide +kernel
theorem dX5_down_106 : decode cX5_down 106 = .ok (.goto (-84), 3) := by decide +kernel
theorem dX5_down_109 : decode cX5_down 109 = .ok (.aload_n 0, 1) := by decide +kernel
theorem dX5_down_110 : decode cX5_down 110 = .ok (.iload_n 1, 1) := by decide +kernel
theorem dX5_down_111 : decode cX5_down 111 = .ok (.iload 5, 2) := by decide +kernel
theorem dX5_down_113 : decode cX5_down 113 = .ok (.iload_n 3, 1) := by decide +kernel
theorem dX5_down_114 : decode cX5_down 114 = .ok (.if_icmp .le 10, 3) := by decide +kernel
theorem dX5_down_117 : decode cX5_down 117 = .ok (.iload 5, 2) := by decide +kernel
theorem dX5_down_119 : decode cX5_down 119 = .ok (.iload_n 3, 1) := by decide +kernel
theorem dX5_down_120 : decode cX5_down 120 = .ok (.isub, 1) := by decide +kernel
theorem dX5_down_121 : decode cX5_down 121 = .ok (.goto 4, 3) := by decide +kernel
theorem dX5_down_124 : decode cX5_down 124 = .ok (.iconst 0, 1) := by decide +kernel
theorem dX5_down_125 : decode cX5_down 125 = .ok (.aload_n 0, 1) := by decide +kernel
theorem dX5_down_126 : decode cX5_down 126 = .ok (.getfield 22, 3) := by decide +kernel
theorem dX5_down_129 : decode cX5_down 129 = .ok (.iload_n 1, 1) := by decide +kernel
theorem dX5_down_130 : decode cX5_down 130 = .ok (.iaload, 1) := by decide +kernel
theorem dX5_down_131 : decode cX5_down 131 = .ok (.invokevirtual 45, 3) := by decide +kernel
theorem dX5_down_134 : decode cX5_down 134 = .ok (.return_, 1) := by decide +kernel
theorem dX5_bit_0 : decode cX5_bit 0 = .ok (.aload_n 0, 1) := by decide +kernel
theorem dX5_bit_1 : decode cX5_bit 1 = .ok (.getfield 15, 3) := by decide +kernel
theorem dX5_bit_4 : decode cX5_bit 4 = .ok (.sipush 640, 3) := by decide +kernel
theorem dX5_bit_7 : decode cX5_bit 7 = .ok (.iload_n 1, 1) := by decide +kernel
theorem dX5_bit_8 : decode cX5_bit 8 = .ok (.imul, 1) := by decide +kernel
theorem dX5_bit_9 : decode cX5_bit 9 = .ok (.iload_n 2, 1) := by decide +kernel
theorem dX5_bit_10 : decode cX5_bit 10 = .ok (.bipush 31, 2) := by decide +kernel
theorem dX5_bit_12 : decode cX5_bit 12 = .ok (.idiv, 1) := by decide +kernel
theorem dX5_bit_13 : decode cX5_bit 13 = .ok (.iadd, 1) := by decide +kernel
theorem dX5_bit_14 : decode cX5_bit 14 = .ok (.iaload, 1) := by decide +kernel
theorem dX5_bit_15 : decode cX5_bit 15 = .ok (.iload_n 2, 1) := by decide +kernel
theorem dX5_bit_16 : decode cX5_bit 16 = .ok (.bipush 31, 2) := by decide +kernel
theorem dX5_bit_18 : decode cX5_bit 18 = .ok (.irem, 1) := by decide +kernel
theorem dX5_bit_19 : decode cX5_bit 19 = .ok (.ishr, 1) := by decide +kernel
theorem dX5_bit_20 : decode cX5_bit 20 = .ok (.iconst 1, 1) := by decide +kernel
theorem dX5_bit_21 : decode cX5_bit 21 = .ok (.iand, 1) := by decide +kernel
theorem dX5_bit_22 : decode cX5_bit 22 = .ok (.iconst 1, 1) := by decide +kernel
theorem dX5_bit_23 : decode cX5_bit 23 = .ok (.if_icmp .ne 7, 3) := by decide +kernel
theorem dX5_bit_26 : decode cX5_bit 26 = .ok (.iconst 1, 1) := by decide +kernel
theorem dX5_bit_27 : decode cX5_bit 27 = .ok (.goto 4, 3) := by decide +kernel
theorem dX5_bit_30 : decode cX5_bit 30 = .ok (.iconst 0, 1) := by decide +kernel
theorem dX5_bit_31 : decode cX5_bit 31 = .ok (.ireturn, 1) := by decide +kernel
theorem dX5_divide_0 : decode cX5_divide 0 = .ok (.aload_n 0, 1) := by decide +kernel
theorem dX5_divide_1 : decode cX5_divide 1 = .ok (.sipush 140, 3) := by decide +kernel
theorem dX5_divide_4 : decode cX5_divide 4 = .ok (.lconst 0, 1) := by decide +kernel
theorem dX5_divide_5 : decode cX5_divide 5 = .ok (.invokevirtual 64, 3) := by decide +kernel
theorem dX5_divide_8 : decode cX5_divide 8 = .ok (.iconst 0, 1) := by decide +kernel
theorem dX5_divide_9 : decode cX5_divide 9 = .ok (.istore 4, 2) := by decide +kernel
theorem dX5_divide_11 : decode cX5_divide 11 = .ok (.iload 4, 2) := by decide +kernel
theorem dX5_divide_13 : decode cX5_divide 13 = .ok (.aload_n 0, 1) := by decide +kernel
theorem dX5_divide_14 : decode cX5_divide 14 = .ok (.getfield 19, 3) := by decide +kernel
theorem dX5_divide_17 : decode cX5_divide 17 = .ok (.iload_n 2, 1) := by decide +kernel
theorem dX5_divide_18 : decode cX5_divide 18 = .ok (.iaload, 1) := by decide +kernel
theorem dX5_divide_19 : decode cX5_divide 19 = .ok (.if_icmp .ge 23, 3) := by decide +kernel
theorem dX5_divide_22 : decode cX5_divide 22 = .ok (.aload_n 0, 1) := by decide +kernel
theorem dX5_divide_23 : decode cX5_divide 23 = .ok (.getfield 15, 3) := by decide +kernel
theorem dX5_divide_26 : decode cX5_divide 26 = .ok (.sipush 640, 3) := by decide +kernel
theorem dX5_divide_29 : decode cX5_divide 29 = .ok (.iload_n 1, 1) := by decide +kernel
theorem dX5_divide_30 : decode cX5_divide 30 = .ok (.imul, 1) := by decide +kernel
theorem dX5_divide_31 : decode cX5_divide 31 = .ok (.iload 4, 2) := by decide +kernel
theorem dX5_divide_33 : decode cX5_divide 33 = .ok (.iadd, 1) := by decide +kernel
theorem dX5_divide_34 : decode cX5_divide 34 = .ok (.iconst 0, 1) := by decide +kernel
theorem dX5_divide_35 : decode cX5_divide 35 = .ok (.iastore, 1) := by decide +kernel
theorem dX5_divide_36 : decode cX5_divide 36 = .ok (.iinc 4 1, 3) := by decide +kernel
theorem dX5_divide_39 : decode cX5_divide 39 = .ok (.goto (-28), 3) := by decide +kernel
theorem dX5_divide_42 : decode cX5_divide 42 = .ok (.bipush 31, 2) := by decide +kernel
theorem dX5_divide_44 : decode cX5_divide 44 = .ok (.aload_n 0, 1) := by decide +kernel
theorem dX5_divide_45 : decode cX5_divide 45 = .ok (.getfield 19, 3) := by decide +kernel
theorem dX5_divide_48 : decode cX5_divide 48 = .ok (.iload_n 2, 1) := by decide +kernel
theorem dX5_divide_49 : decode cX5_divide 49 = .ok (.iaload, 1) := by decide +kernel
theorem dX5_divide_50 : decode cX5_divide 50 = .ok (.imul, 1) := by decide +kernel
theorem dX5_divide_51 : decode cX5_divide 51 = .ok (.iconst 1, 1) := by decide +kernel
theorem dX5_divide_52 : decode cX5_divide 52 = .ok (.isub, 1) := by decide +kernel
theorem dX5_divide_53 : decode cX5_divide 53 = .ok (.istore 4, 2) := by decide +kernel
theorem dX5_divide_55 : decode cX5_divide 55 = .ok (.iload 4, 2) := by decide +kernel
theorem dX5_divide_57 : decode cX5_divide 57 = .ok (.ifCond .lt 129, 3) := by decide +kernel
theorem dX5_divide_60 : decode cX5_divide 60 = .ok (.aload_n 0, 1) := by decide +kernel
theorem dX5_divide_61 : decode cX5_divide 61 = .ok (.sipush 140, 3) := by decide +kernel
theorem dX5_divide_64 : decode cX5_divide 64 = .ok (.iconst 1, 1) := by decide +kernel
theorem dX5_divide_65 : decode cX5_divide 65 = .ok (.invokevirtual 68, 3) := by decide +kernel
theorem dX5_divide_68 : decode cX5_divide 68 = .ok (.aload_n 0, 1) := by decide +kernel
theorem dX5_divide_69 : decode cX5_divide 69 = .ok (.iload_n 2, 1) := by decide +kernel
theorem dX5_divide_70 : decode cX5_divide 70 = .ok (.iload 4, 2) := by decide +kernel
theorem dX5_divide_72 : decode cX5_divide 72 = .ok (.invokevirtual 71, 3) := by decide +kernel
theorem dX5_divide_75 : decode cX5_divide 75 = .ok (.ifCond .eq 45, 3) := by decide +kernel
theorem dX5_divide_78 : decode cX5_divide 78 = .ok (.aload_n 0, 1) := by decide +kernel
theorem dX5_divide_79 : decode cX5_divide 79 = .ok (.getfield 15, 3) := by decide +kernel
theorem dX5_divide_82 : decode cX5_divide 82 = .ok (.ldc 75, 2) := by decide +kernel
theorem dX5_divide_84 : decode cX5_divide 84 = .ok (.dup2, 1) := by decide +kernel
theorem dX5_divide_85 : decode cX5_divide 85 = .ok (.iaload, 1) := by decide +kernel
theorem dX5_divide_86 : decode cX5_divide 86 = .ok (.iconst 1, 1) := by decide +kernel
theorem dX5_divide_87 : decode cX5_divide 87 = .ok (.ior, 1) := by decide +kernel
theorem dX5_divide_88 : decode cX5_divide 88 = .ok (.iastore, 1) := by decide +kernel
theorem dX5_divide_89 : decode cX5_divide 89 = .ok (.aload_n 0, 1) := by decide +kernel
theorem dX5_divide_90 : decode cX5_divide 90 = .ok (.sipush 140, 3) := by decide +kernel
theorem dX5_divide_93 : decode cX5_divide 93 = .ok (.aload_n 0, 1) := by decide +kernel
theorem dX5_divide_94 : decode cX5_divide 94 = .ok (.getfield 19, 3) := by decide +kernel
theorem dX5_divide_97 : decode cX5_divide 97 = .ok (.sipush 140, 3) := by decide +kernel
theorem dX5_divide_100 : decode cX5_divide 100 = .ok (.iaload, 1) := by decide +kernel
theorem dX5_divide_101 : decode cX5_divide 101 = .ok (.ifCond .ne 7, 3) := by decide +kernel
theorem dX5_divide_104 : decode cX5_divide 104 = .ok (.iconst 1, 1) := by decide +kernel
theorem dX5_divide_105 : decode cX5_divide 105 = .ok (.goto 11, 3) := by decide +kernel
theorem dX5_divide_108 : decode cX5_divide 108 = .ok (.aload_n 0, 1) := by decide +kernel
theorem dX5_divide_109 : decode cX5_divide 109 = .ok (.getfield 19, 3) := by decide +kernel
theorem dX5_divide_112 : decode cX5_divide 112 = .ok (.sipush 140, 3) := by decide +kernel
theorem dX5_divide_115 : decode cX5_divide 115 = .ok (.iaload, 1) := by decide +kernel
theorem dX5_divide_116 : decode cX5_divide 116 = .ok (.iconst 1, 1) := by decide +kernel
theorem dX5_divide_117 : decode cX5_divide 117 = .ok (.invokevirtual 45, 3) := by decide +kernel
theorem dX5_divide_120 : decode cX5_divide 120 = .ok (.aload_n 0, 1) := by decide +kernel
theorem dX5_divide_121 : decode cX5_divide 121 = .ok (.getfield 19, 3) := by decide +kernel
theorem dX5_divide_124 : decode cX5_divide 124 = .ok (.sipush 140, 3) := by decide +kernel
theorem dX5_divide_127 : decode cX5_divide 127 = .ok (.iaload, 1) := by decide +kernel
theorem dX5_divide_128 : decode cX5_divide 128 = .ok (.ifCond .le 52, 3) := by decide +kernel
theorem dX5_divide_131 : decode cX5_divide 131 = .ok (.aload_n 0, 1) := by decide +kernel
theorem dX5_divide_132 : decode cX5_divide 132 = .ok (.sipush 140, 3) := by decide +kernel
theorem dX5_divide_135 : decode cX5_divide 135 = .ok (.iload_n 3, 1) := by decide +kernel
theorem dX5_divide_136 : decode cX5_divide 136 = .ok (.invokevirtual 57, 3) := by decide +kernel
theorem dX5_divide_139 : decode cX5_divide 139 = .ok (.ifCond .lt 41, 3) := by decide +kernel
theorem dX5_divide_142 : decode cX5_divide 142 = .ok (.aload_n 0, 1) := by decide +kernel
theorem dX5_divide_143 : decode cX5_divide 143 = .ok (.sipush 140, 3) := by decide +kernel
theorem dX5_divide_146 : decode cX5_divide 146 = .ok (.sipush 140, 3) := by decide +kernel
theorem dX5_divide_149 : decode cX5_divide 149 = .ok (.iload_n 3, 1) := by decide +kernel
theorem dX5_divide_150 : decode cX5_divide 150 = .ok (.iconst 1, 1) := by decide +kernel
theorem dX5_divide_151 : decode cX5_divide 151 = .ok (.invokevirtual 61, 3) := by decide +kernel
theorem dX5_divide_154 : decode cX5_divide 154 = .ok (.aload_n 0, 1) := by decide +kernel
theorem dX5_divide_155 : decode cX5_divide 155 = .ok (.getfield 15, 3) := by decide +kernel
theorem dX5_divide_158 : decode cX5_divide 158 = .ok (.sipush 640, 3) := by decide +kernel
theorem dX5_divide_161 : decode cX5_divide 161 = .ok (.iload_n 1, 1) := by decide +kernel
theorem dX5_divide_162 : decode cX5_divide 162 = .ok (.imul, 1) := by decide +kernel
theorem dX5_divide_163 : decode cX5_divide 163 = .ok (.iload 4, 2) := by decide +kernel
theorem dX5_divide_165 : decode cX5_divide 165 = .ok (.bipush 31, 2) := by decide +kernel
theorem dX5_divide_167 : decode cX5_divide 167 = .ok (.idiv, 1) := by decide +kernel
theorem dX5_divide_168 : decode cX5_divide 168 = .ok (.iadd, 1) := by decide +kernel
theorem dX5_divide_169 : decode cX5_divide 169 = .ok (.dup2, 1) := by decide +kernel
theorem dX5_divide_170 : decode cX5_divide 170 = .ok (.iaload, 1) := by decide +kernel
theorem dX5_divide_171 : decode cX5_divide 171 = .ok (.iconst 1, 1) := by decide +kernel
theorem dX5_divide_172 : decode cX5_divide 172 = .ok (.iload 4, 2) := by decide +kernel
theorem dX5_divide_174 : decode cX5_divide 174 = .ok (.bipush 31, 2) := by decide +kernel
theorem dX5_divide_176 : decode cX5_divide 176 = .ok (.irem, 1) := by decide +kernel
theorem dX5_divide_177 : decode cX5_divide 177 = .ok (.ishl, 1) := by decide +kernel
theorem dX5_divide_178 : decode cX5_divide 178 = .ok (.ior, 1) := by decide +kernel
theorem dX5_divide_179 : decode cX5_divide 179 = .ok (.iastore, 1) := by decide +kernel
theorem dX5_divide_180 : decode cX5_divide 180 = .ok (.iinc 4 (-1), 3) := by decide +kernel
theorem dX5_divide_183 : decode cX5_divide 183 = .ok (.goto (-128), 3) := by decide +kernel
theorem dX5_divide_186 : decode cX5_divide 186 = .ok (.aload_n 0, 1) := by decide +kernel
theorem dX5_divide_187 : decode cX5_divide 187 = .ok (.iload_n 1, 1) := by decide +kernel
theorem dX5_divide_188 : decode cX5_divide 188 = .ok (.aload_n 0, 1) := by decide +kernel
theorem dX5_divide_189 : decode cX5_divide 189 = .ok (.getfield 19, 3) := by decide +kernel
theorem dX5_divide_192 : decode cX5_divide 192 = .ok (.iload_n 2, 1) := by decide +kernel
theorem dX5_divide_193 : decode cX5_divide 193 = .ok (.iaload, 1) := by decide +kernel
theorem dX5_divide_194 : decode cX5_divide 194 = .ok (.aload_n 0, 1) := by decide +kernel
theorem dX5_divide_195 : decode cX5_divide 195 = .ok (.getfield 22, 3) := by decide +kernel
theorem dX5_divide_198 : decode cX5_divide 198 = .ok (.iload_n 2, 1) := by decide +kernel
theorem dX5_divide_199 : decode cX5_divide 199 = .ok (.iaload, 1) := by decide +kernel
theorem dX5_divide_200 : decode cX5_divide 200 = .ok (.aload_n 0, 1) := by decide +kernel
theorem dX5_divide_201 : decode cX5_divide 201 = .ok (.getfield 22, 3) := by decide +kernel
theorem dX5_divide_204 : decode cX5_divide 204 = .ok (.iload_n 3, 1) := by decide +kernel
theorem dX5_divide_205 : decode cX5_divide 205 = .ok (.iaload, 1) := by decide +kernel
theorem dX5_divide_206 : decode cX5_divide 206 = .ok (.imul, 1) := by decide +kernel
theorem dX5_divide_207 : decode cX5_divide 207 = .ok (.invokevirtual 45, 3) := by decide +kernel
theorem dX5_divide_210 : decode cX5_divide 210 = .ok (.return_, 1) := by decide +kernel
theorem dX5_divisorOf_0 : decode cX5_divisorOf 0 = .ok (.aload_n 0, 1) := by decide +kernel
theorem dX5_divisorOf_1 : decode cX5_divisorOf 1 = .ok (.getfield 19, 3) := by decide +kernel
theorem dX5_divisorOf_4 : decode cX5_divisorOf 4 = .ok (.iload_n 2, 1) := by decide +kernel
theorem dX5_divisorOf_5 : decode cX5_divisorOf 5 = .ok (.iaload, 1) := by decide +kernel
theorem dX5_divisorOf_6 : decode cX5_divisorOf 6 = .ok (.ifCond .le 29, 3) := by decide +kernel
theorem dX5_divisorOf_9 : decode cX5_divisorOf 9 = .ok (.aload_n 0, 1) := by decide +kernel
theorem dX5_divisorOf_10 : decode cX5_divisorOf 10 = .ok (.sipush 139, 3) := by decide +kernel
theorem dX5_divisorOf_13 : decode cX5_divisorOf 13 = .ok (.iload_n 1, 1) := by decide +kernel
theorem dX5_divisorOf_14 : decode cX5_divisorOf 14 = .ok (.iload_n 2, 1) := by decide +kernel
theorem dX5_divisorOf_15 : decode cX5_divisorOf 15 = .ok (.invokevirtual 76, 3) := by decide +kernel
theorem dX5_divisorOf_18 : decode cX5_divisorOf 18 = .ok (.aload_n 0, 1) := by decide +kernel
theorem dX5_divisorOf_19 : decode cX5_divisorOf 19 = .ok (.iload_n 1, 1) := by decide +kernel
theorem dX5_divisorOf_20 : decode cX5_divisorOf 20 = .ok (.iload_n 2, 1) := by decide +kernel
theorem dX5_divisorOf_21 : decode cX5_divisorOf 21 = .ok (.invokevirtual 49, 3) := by decide +kernel
theorem dX5_divisorOf_24 : decode cX5_divisorOf 24 = .ok (.aload_n 0, 1) := by decide +kernel
theorem dX5_divisorOf_25 : decode cX5_divisorOf 25 = .ok (.iload_n 2, 1) := by decide +kernel
theorem dX5_divisorOf_26 : decode cX5_divisorOf 26 = .ok (.sipush 140, 3) := by decide +kernel
theorem dX5_divisorOf_29 : decode cX5_divisorOf 29 = .ok (.invokevirtual 49, 3) := by decide +kernel
theorem dX5_divisorOf_32 : decode cX5_divisorOf 32 = .ok (.goto (-32), 3) := by decide +kernel
theorem dX5_divisorOf_35 : decode cX5_divisorOf 35 = .ok (.aload_n 0, 1) := by decide +kernel
theorem dX5_divisorOf_36 : decode cX5_divisorOf 36 = .ok (.getfield 22, 3) := by decide +kernel
theorem dX5_divisorOf_39 : decode cX5_divisorOf 39 = .ok (.iload_n 1, 1) := by decide +kernel
theorem dX5_divisorOf_40 : decode cX5_divisorOf 40 = .ok (.aload_n 0, 1) := by decide +kernel
theorem dX5_divisorOf_41 : decode cX5_divisorOf 41 = .ok (.getfield 19, 3) := by decide +kernel
theorem dX5_divisorOf_44 : decode cX5_divisorOf 44 = .ok (.iload_n 1, 1) := by decide +kernel
theorem dX5_divisorOf_45 : decode cX5_divisorOf 45 = .ok (.iaload, 1) := by decide +kernel
theorem dX5_divisorOf_46 : decode cX5_divisorOf 46 = .ok (.ifCond .ne 7, 3) := by decide +kernel
theorem dX5_divisorOf_49 : decode cX5_divisorOf 49 = .ok (.iconst 0, 1) := by decide +kernel
theorem dX5_divisorOf_50 : decode cX5_divisorOf 50 = .ok (.goto 4, 3) := by decide +kernel
theorem dX5_divisorOf_53 : decode cX5_divisorOf 53 = .ok (.iconst 1, 1) := by decide +kernel
theorem dX5_divisorOf_54 : decode cX5_divisorOf 54 = .ok (.iastore, 1) := by decide +kernel
theorem dX5_divisorOf_55 : decode cX5_divisorOf 55 = .ok (.return_, 1) := by decide +kernel
theorem dX5_at_0 : decode cX5_at 0 = .ok (.bipush 9, 2) := by decide +kernel
theorem dX5_at_2 : decode cX5_at 2 = .ok (.iload_n 0, 1) := by decide +kernel
theorem dX5_at_3 : decode cX5_at 3 = .ok (.imul, 1) := by decide +kernel
theorem dX5_at_4 : decode cX5_at 4 = .ok (.iload_n 1, 1) := by decide +kernel
theorem dX5_at_5 : decode cX5_at 5 = .ok (.iadd, 1) := by decide +kernel
theorem dX5_at_6 : decode cX5_at 6 = .ok (.ireturn, 1) := by decide +kernel
theorem dX5_findDegree_0 : decode cX5_findDegree 0 = .ok (.iload_n 2, 1) := by decide +kernel
theorem dX5_findDegree_1 : decode cX5_findDegree 1 = .ok (.istore_n 3, 1) := by decide +kernel
theorem dX5_findDegree_2 : decode cX5_findDegree 2 = .ok (.iload_n 3, 1) := by decide +kernel
theorem dX5_findDegree_3 : decode cX5_findDegree 3 = .ok (.ifCond .lt 22, 3) := by decide +kernel
theorem dX5_findDegree_6 : decode cX5_findDegree 6 = .ok (.aload_n 0, 1) := by decide +kernel
theorem dX5_findDegree_7 : decode cX5_findDegree 7 = .ok (.getfield 22, 3) := by decide +kernel
theorem dX5_findDegree_10 : decode cX5_findDegree 10 = .ok (.iload_n 1, 1) := by decide +kernel
theorem dX5_findDegree_11 : decode cX5_findDegree 11 = .ok (.iload_n 3, 1) := by decide +kernel
theorem dX5_findDegree_12 : decode cX5_findDegree 12 = .ok (.invokestatic 79, 3) := by decide +kernel
theorem dX5_findDegree_15 : decode cX5_findDegree 15 = .ok (.iaload, 1) := by decide +kernel
theorem dX5_findDegree_16 : decode cX5_findDegree 16 = .ok (.ifCond .ne 9, 3) := by decide +kernel
theorem dX5_findDegree_19 : decode cX5_findDegree 19 = .ok (.iinc 3 (-1), 3) := by decide +kernel
theorem dX5_findDegree_22 : decode cX5_findDegree 22 = .ok (.goto (-20), 3) := by decide +kernel
theorem dX5_findDegree_25 : decode cX5_findDegree 25 = .ok (.aload_n 0, 1) := by decide +kernel
theorem dX5_findDegree_26 : decode cX5_findDegree 26 = .ok (.getfield 25, 3) := by decide +kernel
theorem dX5_findDegree_29 : decode cX5_findDegree 29 = .ok (.iload_n 1, 1) := by decide +kernel
theorem dX5_findDegree_30 : decode cX5_findDegree 30 = .ok (.iload_n 3, 1) := by decide +kernel
theorem dX5_findDegree_31 : decode cX5_findDegree 31 = .ok (.iastore, 1) := by decide +kernel
theorem dX5_findDegree_32 : decode cX5_findDegree 32 = .ok (.return_, 1) := by decide +kernel
theorem dX5_take_0 : decode cX5_take 0 = .ok (.iconst 0, 1) := by decide +kernel
theorem dX5_take_1 : decode cX5_take 1 = .ok (.istore_n 3, 1) := by decide +kernel
theorem dX5_take_2 : decode cX5_take 2 = .ok (.iload_n 3, 1) := by decide +kernel
theorem dX5_take_3 : decode cX5_take 3 = .ok (.bipush 9, 2) := by decide +kernel
theorem dX5_take_5 : decode cX5_take 5 = .ok (.if_icmp .ge 27, 3) := by decide +kernel
theorem dX5_take_8 : decode cX5_take 8 = .ok (.aload_n 0, 1) := by decide +kernel
theorem dX5_take_9 : decode cX5_take 9 = .ok (.iload_n 1, 1) := by decide +kernel
theorem dX5_take_10 : decode cX5_take 10 = .ok (.iload_n 3, 1) := by decide +kernel
theorem dX5_take_11 : decode cX5_take 11 = .ok (.invokestatic 79, 3) := by decide +kernel
theorem dX5_take_14 : decode cX5_take 14 = .ok (.aload_n 0, 1) := by decide +kernel
theorem dX5_take_15 : decode cX5_take 15 = .ok (.getfield 9, 3) := by decide +kernel
theorem dX5_take_18 : decode cX5_take 18 = .ok (.iload_n 2, 1) := by decide +kernel
theorem dX5_take_19 : decode cX5_take 19 = .ok (.aaload, 1) := by decide +kernel
theorem dX5_take_20 : decode cX5_take 20 = .ok (.iload_n 3, 1) := by decide +kernel
theorem dX5_take_21 : decode cX5_take 21 = .ok (.iaload, 1) := by decide +kernel
theorem dX5_take_22 : decode cX5_take 22 = .ok (.i2l, 1) := by decide +kernel
theorem dX5_take_23 : decode cX5_take 23 = .ok (.invokevirtual 64, 3) := by decide +kernel
theorem dX5_take_26 : decode cX5_take 26 = .ok (.iinc 3 1, 3) := by decide +kernel
theorem dX5_take_29 : decode cX5_take 29 = .ok (.goto (-27), 3) := by decide +kernel
theorem dX5_take_32 : decode cX5_take 32 = .ok (.aload_n 0, 1) := by decide +kernel
theorem dX5_take_33 : decode cX5_take 33 = .ok (.iload_n 1, 1) := by decide +kernel
theorem dX5_take_34 : decode cX5_take 34 = .ok (.bipush 8, 2) := by decide +kernel
theorem dX5_take_36 : decode cX5_take 36 = .ok (.invokevirtual 82, 3) := by decide +kernel
theorem dX5_take_39 : decode cX5_take 39 = .ok (.return_, 1) := by decide +kernel
theorem dX5_copyRow_0 : decode cX5_copyRow 0 = .ok (.iconst 0, 1) := by decide +kernel
theorem dX5_copyRow_1 : decode cX5_copyRow 1 = .ok (.istore_n 3, 1) := by decide +kernel
theorem dX5_copyRow_2 : decode cX5_copyRow 2 = .ok (.iload_n 3, 1) := by decide +kernel
theorem dX5_copyRow_3 : decode cX5_copyRow 3 = .ok (.aload_n 0, 1) := by decide +kernel
theorem dX5_copyRow_4 : decode cX5_copyRow 4 = .ok (.getfield 25, 3) := by decide +kernel
theorem dX5_copyRow_7 : decode cX5_copyRow 7 = .ok (.iload_n 2, 1) := by decide +kernel
theorem dX5_copyRow_8 : decode cX5_copyRow 8 = .ok (.iaload, 1) := by decide +kernel
theorem dX5_copyRow_9 : decode cX5_copyRow 9 = .ok (.if_icmp .gt 23, 3) := by decide +kernel
theorem dX5_copyRow_12 : decode cX5_copyRow 12 = .ok (.aload_n 0, 1) := by decide +kernel
theorem dX5_copyRow_13 : decode cX5_copyRow 13 = .ok (.iload_n 1, 1) := by decide +kernel
theorem dX5_copyRow_14 : decode cX5_copyRow 14 = .ok (.iload_n 3, 1) := by decide +kernel
theorem dX5_copyRow_15 : decode cX5_copyRow 15 = .ok (.invokestatic 79, 3) := by decide +kernel
theorem dX5_copyRow_18 : decode cX5_copyRow 18 = .ok (.iload_n 2, 1) := by decide +kernel
theorem dX5_copyRow_19 : decode cX5_copyRow 19 = .ok (.iload_n 3, 1) := by decide +kernel
theorem dX5_copyRow_20 : decode cX5_copyRow 20 = .ok (.invokestatic 79, 3) := by decide +kernel
theorem dX5_copyRow_23 : decode cX5_copyRow 23 = .ok (.invokevirtual 49, 3) := by decide +kernel
theorem dX5_copyRow_26 : decode cX5_copyRow 26 = .ok (.iinc 3 1, 3) := by decide +kernel
theorem dX5_copyRow_29 : decode cX5_copyRow 29 = .ok (.goto (-27), 3) := by decide +kernel
theorem dX5_copyRow_32 : decode cX5_copyRow 32 = .ok (.aload_n 0, 1) := by decide +kernel
theorem dX5_copyRow_33 : decode cX5_copyRow 33 = .ok (.getfield 25, 3) := by decide +kernel
theorem dX5_copyRow_36 : decode cX5_copyRow 36 = .ok (.iload_n 1, 1) := by decide +kernel
theorem dX5_copyRow_37 : decode cX5_copyRow 37 = .ok (.aload_n 0, 1) := by decide +kernel
theorem dX5_copyRow_38 : decode cX5_copyRow 38 = .ok (.getfield 25, 3) := by decide +kernel
theorem dX5_copyRow_41 : decode cX5_copyRow 41 = .ok (.iload_n 2, 1) := by decide +kernel
theorem dX5_copyRow_42 : decode cX5_copyRow 42 = .ok (.iaload, 1) := by decide +kernel
theorem dX5_copyRow_43 : decode cX5_copyRow 43 = .ok (.iastore, 1) := by decide +kernel
theorem dX5_copyRow_44 : decode cX5_copyRow 44 = .ok (.return_, 1) := by decide +kernel
theorem dX5_makePrimitive_0 : decode cX5_makePrimitive 0 = .ok (.aload_n 0, 1) := by decide +kernel
theorem dX5_makePrimitive_1 : decode cX5_makePrimitive 1 = .ok (.getfield 25, 3) := by decide +kernel
theorem dX5_makePrimitive_4 : decode cX5_makePrimitive 4 = .ok (.iload_n 1, 1) := by decide +kernel
theorem dX5_makePrimitive_5 : decode cX5_makePrimitive 5 = .ok (.iaload, 1) := by decide +kernel
theorem dX5_makePrimitive_6 : decode cX5_makePrimitive 6 = .ok (.istore_n 2, 1) := by decide +kernel
theorem dX5_makePrimitive_7 : decode cX5_makePrimitive 7 = .ok (.iload_n 2, 1) := by decide +kernel
theorem dX5_makePrimitive_8 : decode cX5_makePrimitive 8 = .ok (.ifCond .ge 4, 3) := by decide +kernel
theorem dX5_makePrimitive_11 : decode cX5_makePrimitive 11 = .ok (.return_, 1) := by decide +kernel
theorem dX5_makePrimitive_12 : decode cX5_makePrimitive 12 = .ok (.aload_n 0, 1) := by decide +kernel
theorem dX5_makePrimitive_13 : decode cX5_makePrimitive 13 = .ok (.sipush 135, 3) := by decide +kernel
theorem dX5_makePrimitive_16 : decode cX5_makePrimitive 16 = .ok (.lconst 0, 1) := by decide +kernel
theorem dX5_makePrimitive_17 : decode cX5_makePrimitive 17 = .ok (.invokevirtual 64, 3) := by decide +kernel
theorem dX5_makePrimitive_20 : decode cX5_makePrimitive 20 = .ok (.iconst 0, 1) := by decide +kernel
theorem dX5_makePrimitive_21 : decode cX5_makePrimitive 21 = .ok (.istore_n 3, 1) := by decide +kernel
theorem dX5_makePrimitive_22 : decode cX5_makePrimitive 22 = .ok (.iload_n 3, 1) := by decide +kernel
theorem dX5_makePrimitive_23 : decode cX5_makePrimitive 23 = .ok (.iload_n 2, 1) := by decide +kernel
theorem dX5_makePrimitive_24 : decode cX5_makePrimitive 24 = .ok (.if_icmp .gt 41, 3) := by decide +kernel
theorem dX5_makePrimitive_27 : decode cX5_makePrimitive 27 = .ok (.aload_n 0, 1) := by decide +kernel
theorem dX5_makePrimitive_28 : decode cX5_makePrimitive 28 = .ok (.sipush 136, 3) := by decide +kernel
theorem dX5_makePrimitive_31 : decode cX5_makePrimitive 31 = .ok (.iload_n 1, 1) := by decide +kernel
theorem dX5_makePrimitive_32 : decode cX5_makePrimitive 32 = .ok (.iload_n 3, 1) := by decide +kernel
theorem dX5_makePrimitive_33 : decode cX5_makePrimitive 33 = .ok (.invokestatic 79, 3) := by decide +kernel
theorem dX5_makePrimitive_36 : decode cX5_makePrimitive 36 = .ok (.invokevirtual 49, 3) := by decide +kernel
theorem dX5_makePrimitive_39 : decode cX5_makePrimitive 39 = .ok (.aload_n 0, 1) := by decide +kernel
theorem dX5_makePrimitive_40 : decode cX5_makePrimitive 40 = .ok (.sipush 136, 3) := by decide +kernel
theorem dX5_makePrimitive_43 : decode cX5_makePrimitive 43 = .ok (.sipush 135, 3) := by decide +kernel
theorem dX5_makePrimitive_46 : decode cX5_makePrimitive 46 = .ok (.invokevirtual 85, 3) := by decide +kernel
theorem dX5_makePrimitive_49 : decode cX5_makePrimitive 49 = .ok (.aload_n 0, 1) := by decide +kernel
theorem dX5_makePrimitive_50 : decode cX5_makePrimitive 50 = .ok (.sipush 135, 3) := by decide +kernel
theorem dX5_makePrimitive_53 : decode cX5_makePrimitive 53 = .ok (.sipush 136, 3) := by decide +kernel
theorem dX5_makePrimitive_56 : decode cX5_makePrimitive 56 = .ok (.invokevirtual 49, 3) := by decide +kernel
theorem dX5_makePrimitive_59 : decode cX5_makePrimitive 59 = .ok (.iinc 3 1, 3) := by decide +kernel
theorem dX5_makePrimitive_62 : decode cX5_makePrimitive 62 = .ok (.goto (-40), 3) := by decide +kernel
theorem dX5_makePrimitive_65 : decode cX5_makePrimitive 65 = .ok (.aload_n 0, 1) := by decide +kernel
theorem dX5_makePrimitive_66 : decode cX5_makePrimitive 66 = .ok (.getfield 22, 3) := by decide +kernel
theorem dX5_makePrimitive_69 : decode cX5_makePrimitive 69 = .ok (.iload_n 1, 1) := by decide +kernel
theorem dX5_makePrimitive_70 : decode cX5_makePrimitive 70 = .ok (.iload_n 2, 1) := by decide +kernel
theorem dX5_makePrimitive_71 : decode cX5_makePrimitive 71 = .ok (.invokestatic 79, 3) := by decide +kernel
theorem dX5_makePrimitive_74 : decode cX5_makePrimitive 74 = .ok (.iaload, 1) := by decide +kernel
theorem dX5_makePrimitive_75 : decode cX5_makePrimitive 75 = .ok (.istore_n 3, 1) := by decide +kernel
theorem dX5_makePrimitive_76 : decode cX5_makePrimitive 76 = .ok (.iconst 0, 1) := by decide +kernel
theorem dX5_makePrimitive_77 : decode cX5_makePrimitive 77 = .ok (.istore 4, 2) := by decide +kernel
theorem dX5_makePrimitive_79 : decode cX5_makePrimitive 79 = .ok (.iload 4, 2) := by decide +kernel
theorem dX5_makePrimitive_81 : decode cX5_makePrimitive 81 = .ok (.iload_n 2, 1) := by decide +kernel
theorem dX5_makePrimitive_82 : decode cX5_makePrimitive 82 = .ok (.if_icmp .gt 53, 3) := by decide +kernel
theorem dX5_makePrimitive_85 : decode cX5_makePrimitive 85 = .ok (.aload_n 0, 1) := by decide +kernel
theorem dX5_makePrimitive_86 : decode cX5_makePrimitive 86 = .ok (.sipush 136, 3) := by decide +kernel
theorem dX5_makePrimitive_89 : decode cX5_makePrimitive 89 = .ok (.iload_n 1, 1) := by decide +kernel
theorem dX5_makePrimitive_90 : decode cX5_makePrimitive 90 = .ok (.iload 4, 2) := by decide +kernel
theorem dX5_makePrimitive_92 : decode cX5_makePrimitive 92 = .ok (.invokestatic 79, 3) := by decide +kernel
theorem dX5_makePrimitive_95 : decode cX5_makePrimitive 95 = .ok (.sipush 135, 3) := by decide +kernel
theorem dX5_makePrimitive_98 : decode cX5_makePrimitive 98 = .ok (.invokevirtual 76, 3) := by decide +kernel
theorem dX5_makePrimitive_101 : decode cX5_makePrimitive 101 = .ok (.aload_n 0, 1) := by decide +kernel
theorem dX5_makePrimitive_102 : decode cX5_makePrimitive 102 = .ok (.iload_n 1, 1) := by decide +kernel
theorem dX5_makePrimitive_103 : decode cX5_makePrimitive 103 = .ok (.iload 4, 2) := by decide +kernel
theorem dX5_makePrimitive_105 : decode cX5_makePrimitive 105 = .ok (.invokestatic 79, 3) := by decide +kernel
theorem dX5_makePrimitive_108 : decode cX5_makePrimitive 108 = .ok (.sipush 136, 3) := by decide +kernel
theorem dX5_makePrimitive_111 : decode cX5_makePrimitive 111 = .ok (.invokevirtual 49, 3) := by decide +kernel
theorem dX5_makePrimitive_114 : decode cX5_makePrimitive 114 = .ok (.aload_n 0, 1) := by decide +kernel
theorem dX5_makePrimitive_115 : decode cX5_makePrimitive 115 = .ok (.getfield 22, 3) := by decide +kernel
theorem dX5_makePrimitive_118 : decode cX5_makePrimitive 118 = .ok (.iload_n 1, 1) := by decide +kernel
theorem dX5_makePrimitive_119 : decode cX5_makePrimitive 119 = .ok (.iload 4, 2) := by decide +kernel
theorem dX5_makePrimitive_121 : decode cX5_makePrimitive 121 = .ok (.invokestatic 79, 3) := by decide +kernel
theorem dX5_makePrimitive_124 : decode cX5_makePrimitive 124 = .ok (.dup2, 1) := by decide +kernel
theorem dX5_makePrimitive_125 : decode cX5_makePrimitive 125 = .ok (.iaload, 1) := by decide +kernel
theorem dX5_makePrimitive_126 : decode cX5_makePrimitive 126 = .ok (.iload_n 3, 1) := by decide +kernel
theorem dX5_makePrimitive_127 : decode cX5_makePrimitive 127 = .ok (.imul, 1) := by decide +kernel
theorem dX5_makePrimitive_128 : decode cX5_makePrimitive 128 = .ok (.iastore, 1) := by decide +kernel
theorem dX5_makePrimitive_129 : decode cX5_makePrimitive 129 = .ok (.iinc 4 1, 3) := by decide +kernel
theorem dX5_makePrimitive_132 : decode cX5_makePrimitive 132 = .ok (.goto (-53), 3) := by decide +kernel
theorem dX5_makePrimitive_135 : decode cX5_makePrimitive 135 = .ok (.return_, 1) := by decide +kernel
theorem dX5_reduce_0 : decode cX5_reduce 0 = .ok (.aload_n 0, 1) := by decide +kernel
theorem dX5_reduce_1 : decode cX5_reduce 1 = .ok (.getfield 25, 3) := by decide +kernel
theorem dX5_reduce_4 : decode cX5_reduce 4 = .ok (.iconst 3, 1) := by decide +kernel
theorem dX5_reduce_5 : decode cX5_reduce 5 = .ok (.iaload, 1) := by decide +kernel
theorem dX5_reduce_6 : decode cX5_reduce 6 = .ok (.istore_n 1, 1) := by decide +kernel
theorem dX5_reduce_7 : decode cX5_reduce 7 = .ok (.aload_n 0, 1) := by decide +kernel
theorem dX5_reduce_8 : decode cX5_reduce 8 = .ok (.getfield 25, 3) := by decide +kernel
theorem dX5_reduce_11 : decode cX5_reduce 11 = .ok (.iconst 4, 1) := by decide +kernel
theorem dX5_reduce_12 : decode cX5_reduce 12 = .ok (.aload_n 0, 1) := by decide +kernel
theorem dX5_reduce_13 : decode cX5_reduce 13 = .ok (.getfield 25, 3) := by decide +kernel
theorem dX5_reduce_16 : decode cX5_reduce 16 = .ok (.iconst 2, 1) := by decide +kernel
theorem dX5_reduce_17 : decode cX5_reduce 17 = .ok (.iaload, 1) := by decide +kernel
theorem dX5_reduce_18 : decode cX5_reduce 18 = .ok (.iload_n 1, 1) := by decide +kernel
theorem dX5_reduce_19 : decode cX5_reduce 19 = .ok (.isub, 1) := by decide +kernel
theorem dX5_reduce_20 : decode cX5_reduce 20 = .ok (.iastore, 1) := by decide +kernel
theorem dX5_reduce_21 : decode cX5_reduce 21 = .ok (.iconst 0, 1) := by decide +kernel
theorem dX5_reduce_22 : decode cX5_reduce 22 = .ok (.istore_n 2, 1) := by decide +kernel
theorem dX5_reduce_23 : decode cX5_reduce 23 = .ok (.iload_n 2, 1) := by decide +kernel
theorem dX5_reduce_24 : decode cX5_reduce 24 = .ok (.aload_n 0, 1) := by decide +kernel
theorem dX5_reduce_25 : decode cX5_reduce 25 = .ok (.getfield 25, 3) := by decide +kernel
theorem dX5_reduce_28 : decode cX5_reduce 28 = .ok (.iconst 4, 1) := by decide +kernel
theorem dX5_reduce_29 : decode cX5_reduce 29 = .ok (.iaload, 1) := by decide +kernel
theorem dX5_reduce_30 : decode cX5_reduce 30 = .ok (.if_icmp .gt 19, 3) := by decide +kernel
theorem dX5_reduce_33 : decode cX5_reduce 33 = .ok (.aload_n 0, 1) := by decide +kernel
theorem dX5_reduce_34 : decode cX5_reduce 34 = .ok (.iconst 4, 1) := by decide +kernel
theorem dX5_reduce_35 : decode cX5_reduce 35 = .ok (.iload_n 2, 1) := by decide +kernel
theorem dX5_reduce_36 : decode cX5_reduce 36 = .ok (.invokestatic 79, 3) := by decide +kernel
theorem dX5_reduce_39 : decode cX5_reduce 39 = .ok (.lconst 0, 1) := by decide +kernel
theorem dX5_reduce_40 : decode cX5_reduce 40 = .ok (.invokevirtual 64, 3) := by decide +kernel
theorem dX5_reduce_43 : decode cX5_reduce 43 = .ok (.iinc 2 1, 3) := by decide +kernel
theorem dX5_reduce_46 : decode cX5_reduce 46 = .ok (.goto (-23), 3) := by decide +kernel
theorem dX5_reduce_49 : decode cX5_reduce 49 = .ok (.aload_n 0, 1) := by decide +kernel
theorem dX5_reduce_50 : decode cX5_reduce 50 = .ok (.getfield 25, 3) := by decide +kernel
theorem dX5_reduce_53 : decode cX5_reduce 53 = .ok (.iconst 2, 1) := by decide +kernel
theorem dX5_reduce_54 : decode cX5_reduce 54 = .ok (.iaload, 1) := by decide +kernel
theorem dX5_reduce_55 : decode cX5_reduce 55 = .ok (.iload_n 1, 1) := by decide +kernel
theorem dX5_reduce_56 : decode cX5_reduce 56 = .ok (.if_icmp .lt 207, 3) := by decide +kernel
theorem dX5_reduce_59 : decode cX5_reduce 59 = .ok (.aload_n 0, 1) := by decide +kernel
theorem dX5_reduce_60 : decode cX5_reduce 60 = .ok (.getfield 25, 3) := by decide +kernel
theorem dX5_reduce_63 : decode cX5_reduce 63 = .ok (.iconst 2, 1) := by decide +kernel
theorem dX5_reduce_64 : decode cX5_reduce 64 = .ok (.iaload, 1) := by decide +kernel
theorem dX5_reduce_65 : decode cX5_reduce 65 = .ok (.iload_n 1, 1) := by decide +kernel
theorem dX5_reduce_66 : decode cX5_reduce 66 = .ok (.isub, 1) := by decide +kernel
theorem dX5_reduce_67 : decode cX5_reduce 67 = .ok (.istore_n 2, 1) := by decide +kernel
theorem dX5_reduce_68 : decode cX5_reduce 68 = .ok (.aload_n 0, 1) := by decide +kernel
theorem dX5_reduce_69 : decode cX5_reduce 69 = .ok (.sipush 137, 3) := by decide +kernel
theorem dX5_reduce_72 : decode cX5_reduce 72 = .ok (.iconst 2, 1) := by decide +kernel
theorem dX5_reduce_73 : decode cX5_reduce 73 = .ok (.aload_n 0, 1) := by decide +kernel
theorem dX5_reduce_74 : decode cX5_reduce 74 = .ok (.getfield 25, 3) := by decide +kernel
theorem dX5_reduce_77 : decode cX5_reduce 77 = .ok (.iconst 2, 1) := by decide +kernel
theorem dX5_reduce_78 : decode cX5_reduce 78 = .ok (.iaload, 1) := by decide +kernel
theorem dX5_reduce_79 : decode cX5_reduce 79 = .ok (.invokestatic 79, 3) := by decide +kernel
theorem dX5_reduce_82 : decode cX5_reduce 82 = .ok (.invokevirtual 49, 3) := by decide +kernel
theorem dX5_reduce_85 : decode cX5_reduce 85 = .ok (.iconst 0, 1) := by decide +kernel
theorem dX5_reduce_86 : decode cX5_reduce 86 = .ok (.istore_n 3, 1) := by decide +kernel
theorem dX5_reduce_87 : decode cX5_reduce 87 = .ok (.iload_n 3, 1) := by decide +kernel
theorem dX5_reduce_88 : decode cX5_reduce 88 = .ok (.aload_n 0, 1) := by decide +kernel
theorem dX5_reduce_89 : decode cX5_reduce 89 = .ok (.getfield 25, 3) := by decide +kernel
theorem dX5_reduce_92 : decode cX5_reduce 92 = .ok (.iconst 2, 1) := by decide +kernel
theorem dX5_reduce_93 : decode cX5_reduce 93 = .ok (.iaload, 1) := by decide +kernel
theorem dX5_reduce_94 : decode cX5_reduce 94 = .ok (.if_icmp .gt 38, 3) := by decide +kernel
theorem dX5_reduce_97 : decode cX5_reduce 97 = .ok (.aload_n 0, 1) := by decide +kernel
theorem dX5_reduce_98 : decode cX5_reduce 98 = .ok (.sipush 136, 3) := by decide +kernel
theorem dX5_reduce_101 : decode cX5_reduce 101 = .ok (.iconst 2, 1) := by decide +kernel
theorem dX5_reduce_102 : decode cX5_reduce 102 = .ok (.iload_n 3, 1) := by decide +kernel
theorem dX5_reduce_103 : decode cX5_reduce 103 = .ok (.invokestatic 79, 3) := by decide +kernel
theorem dX5_reduce_106 : decode cX5_reduce 106 = .ok (.iconst 3, 1) := by decide +kernel
theorem dX5_reduce_107 : decode cX5_reduce 107 = .ok (.iload_n 1, 1) := by decide +kernel
theorem dX5_reduce_108 : decode cX5_reduce 108 = .ok (.invokestatic 79, 3) := by decide +kernel
theorem dX5_reduce_111 : decode cX5_reduce 111 = .ok (.invokevirtual 88, 3) := by decide +kernel
theorem dX5_reduce_114 : decode cX5_reduce 114 = .ok (.aload_n 0, 1) := by decide +kernel
theorem dX5_reduce_115 : decode cX5_reduce 115 = .ok (.iconst 2, 1) := by decide +kernel
theorem dX5_reduce_116 : decode cX5_reduce 116 = .ok (.iload_n 3, 1) := by decide +kernel
theorem dX5_reduce_117 : decode cX5_reduce 117 = .ok (.invokestatic 79, 3) := by decide +kernel
theorem dX5_reduce_120 : decode cX5_reduce 120 = .ok (.sipush 136, 3) := by decide +kernel
theorem dX5_reduce_123 : decode cX5_reduce 123 = .ok (.invokevirtual 49, 3) := by decide +kernel
theorem dX5_reduce_126 : decode cX5_reduce 126 = .ok (.iinc 3 1, 3) := by decide +kernel
theorem dX5_reduce_129 : decode cX5_reduce 129 = .ok (.goto (-42), 3) := by decide +kernel
theorem dX5_reduce_132 : decode cX5_reduce 132 = .ok (.iconst 0, 1) := by decide +kernel
theorem dX5_reduce_133 : decode cX5_reduce 133 = .ok (.istore_n 3, 1) := by decide +kernel
theorem dX5_reduce_134 : decode cX5_reduce 134 = .ok (.iload_n 3, 1) := by decide +kernel
theorem dX5_reduce_135 : decode cX5_reduce 135 = .ok (.iload_n 1, 1) := by decide +kernel
theorem dX5_reduce_136 : decode cX5_reduce 136 = .ok (.if_icmp .gt 46, 3) := by decide +kernel
theorem dX5_reduce_139 : decode cX5_reduce 139 = .ok (.aload_n 0, 1) := by decide +kernel
theorem dX5_reduce_140 : decode cX5_reduce 140 = .ok (.sipush 136, 3) := by decide +kernel
theorem dX5_reduce_143 : decode cX5_reduce 143 = .ok (.iconst 3, 1) := by decide +kernel
theorem dX5_reduce_144 : decode cX5_reduce 144 = .ok (.iload_n 3, 1) := by decide +kernel
theorem dX5_reduce_145 : decode cX5_reduce 145 = .ok (.invokestatic 79, 3) := by decide +kernel
theorem dX5_reduce_148 : decode cX5_reduce 148 = .ok (.sipush 137, 3) := by decide +kernel
theorem dX5_reduce_151 : decode cX5_reduce 151 = .ok (.invokevirtual 88, 3) := by decide +kernel
theorem dX5_reduce_154 : decode cX5_reduce 154 = .ok (.aload_n 0, 1) := by decide +kernel
theorem dX5_reduce_155 : decode cX5_reduce 155 = .ok (.iconst 2, 1) := by decide +kernel
theorem dX5_reduce_156 : decode cX5_reduce 156 = .ok (.iload_n 3, 1) := by decide +kernel
theorem dX5_reduce_157 : decode cX5_reduce 157 = .ok (.iload_n 2, 1) := by decide +kernel
theorem dX5_reduce_158 : decode cX5_reduce 158 = .ok (.iadd, 1) := by decide +kernel
theorem dX5_reduce_159 : decode cX5_reduce 159 = .ok (.invokestatic 79, 3) := by decide +kernel
theorem dX5_reduce_162 : decode cX5_reduce 162 = .ok (.iconst 2, 1) := by decide +kernel
theorem dX5_reduce_163 : decode cX5_reduce 163 = .ok (.iload_n 3, 1) := by decide +kernel
theorem dX5_reduce_164 : decode cX5_reduce 164 = .ok (.iload_n 2, 1) := by decide +kernel
theorem dX5_reduce_165 : decode cX5_reduce 165 = .ok (.iadd, 1) := by decide +kernel
theorem dX5_reduce_166 : decode cX5_reduce 166 = .ok (.invokestatic 79, 3) := by decide +kernel
theorem dX5_reduce_169 : decode cX5_reduce 169 = .ok (.sipush 136, 3) := by decide +kernel
theorem dX5_reduce_172 : decode cX5_reduce 172 = .ok (.iconst (-1), 1) := by decide +kernel
theorem dX5_reduce_173 : decode cX5_reduce 173 = .ok (.invokevirtual 91, 3) := by decide +kernel
theorem dX5_reduce_176 : decode cX5_reduce 176 = .ok (.iinc 3 1, 3) := by decide +kernel
theorem dX5_reduce_179 : decode cX5_reduce 179 = .ok (.goto (-45), 3) := by decide +kernel
theorem dX5_reduce_182 : decode cX5_reduce 182 = .ok (.iconst 0, 1) := by decide +kernel
theorem dX5_reduce_183 : decode cX5_reduce 183 = .ok (.istore_n 3, 1) := by decide +kernel
theorem dX5_reduce_184 : decode cX5_reduce 184 = .ok (.iload_n 3, 1) := by decide +kernel
theorem dX5_reduce_185 : decode cX5_reduce 185 = .ok (.aload_n 0, 1) := by decide +kernel
theorem dX5_reduce_186 : decode cX5_reduce 186 = .ok (.getfield 25, 3) := by decide +kernel
theorem dX5_reduce_189 : decode cX5_reduce 189 = .ok (.iconst 4, 1) := by decide +kernel
theorem dX5_reduce_190 : decode cX5_reduce 190 = .ok (.iaload, 1) := by decide +kernel
theorem dX5_reduce_191 : decode cX5_reduce 191 = .ok (.if_icmp .gt 38, 3) := by decide +kernel
theorem dX5_reduce_194 : decode cX5_reduce 194 = .ok (.aload_n 0, 1) := by decide +kernel
theorem dX5_reduce_195 : decode cX5_reduce 195 = .ok (.sipush 136, 3) := by decide +kernel
theorem dX5_reduce_198 : decode cX5_reduce 198 = .ok (.iconst 4, 1) := by decide +kernel
theorem dX5_reduce_199 : decode cX5_reduce 199 = .ok (.iload_n 3, 1) := by decide +kernel
theorem dX5_reduce_200 : decode cX5_reduce 200 = .ok (.invokestatic 79, 3) := by decide +kernel
theorem dX5_reduce_203 : decode cX5_reduce 203 = .ok (.iconst 3, 1) := by decide +kernel
theorem dX5_reduce_204 : decode cX5_reduce 204 = .ok (.iload_n 1, 1) := by decide +kernel
theorem dX5_reduce_205 : decode cX5_reduce 205 = .ok (.invokestatic 79, 3) := by decide +kernel
theorem dX5_reduce_208 : decode cX5_reduce 208 = .ok (.invokevirtual 88, 3) := by decide +kernel
theorem dX5_reduce_211 : decode cX5_reduce 211 = .ok (.aload_n 0, 1) := by decide +kernel
theorem dX5_reduce_212 : decode cX5_reduce 212 = .ok (.iconst 4, 1) := by decide +kernel
theorem dX5_reduce_213 : decode cX5_reduce 213 = .ok (.iload_n 3, 1) := by decide +kernel
theorem dX5_reduce_214 : decode cX5_reduce 214 = .ok (.invokestatic 79, 3) := by decide +kernel
theorem dX5_reduce_217 : decode cX5_reduce 217 = .ok (.sipush 136, 3) := by decide +kernel
theorem dX5_reduce_220 : decode cX5_reduce 220 = .ok (.invokevirtual 49, 3) := by decide +kernel
theorem dX5_reduce_223 : decode cX5_reduce 223 = .ok (.iinc 3 1, 3) := by decide +kernel
theorem dX5_reduce_226 : decode cX5_reduce 226 = .ok (.goto (-42), 3) := by decide +kernel
theorem dX5_reduce_229 : decode cX5_reduce 229 = .ok (.aload_n 0, 1) := by decide +kernel
theorem dX5_reduce_230 : decode cX5_reduce 230 = .ok (.iconst 4, 1) := by decide +kernel
theorem dX5_reduce_231 : decode cX5_reduce 231 = .ok (.iload_n 2, 1) := by decide +kernel
theorem dX5_reduce_232 : decode cX5_reduce 232 = .ok (.invokestatic 79, 3) := by decide +kernel
theorem dX5_reduce_235 : decode cX5_reduce 235 = .ok (.iconst 4, 1) := by decide +kernel
theorem dX5_reduce_236 : decode cX5_reduce 236 = .ok (.iload_n 2, 1) := by decide +kernel
theorem dX5_reduce_237 : decode cX5_reduce 237 = .ok (.invokestatic 79, 3) := by decide +kernel
theorem dX5_reduce_240 : decode cX5_reduce 240 = .ok (.sipush 137, 3) := by decide +kernel
theorem dX5_reduce_243 : decode cX5_reduce 243 = .ok (.iconst 1, 1) := by decide +kernel
theorem dX5_reduce_244 : decode cX5_reduce 244 = .ok (.invokevirtual 91, 3) := by decide +kernel
theorem dX5_reduce_247 : decode cX5_reduce 247 = .ok (.aload_n 0, 1) := by decide +kernel
theorem dX5_reduce_248 : decode cX5_reduce 248 = .ok (.iconst 2, 1) := by decide +kernel
theorem dX5_reduce_249 : decode cX5_reduce 249 = .ok (.aload_n 0, 1) := by decide +kernel
theorem dX5_reduce_250 : decode cX5_reduce 250 = .ok (.getfield 25, 3) := by decide +kernel
theorem dX5_reduce_253 : decode cX5_reduce 253 = .ok (.iconst 2, 1) := by decide +kernel
theorem dX5_reduce_254 : decode cX5_reduce 254 = .ok (.iaload, 1) := by decide +kernel
theorem dX5_reduce_255 : decode cX5_reduce 255 = .ok (.iconst 1, 1) := by decide +kernel
theorem dX5_reduce_256 : decode cX5_reduce 256 = .ok (.isub, 1) := by decide +kernel
theorem dX5_reduce_257 : decode cX5_reduce 257 = .ok (.invokevirtual 82, 3) := by decide +kernel
theorem dX5_reduce_260 : decode cX5_reduce 260 = .ok (.goto (-211), 3) := by decide +kernel
theorem dX5_reduce_263 : decode cX5_reduce 263 = .ok (.return_, 1) := by decide +kernel
theorem dX5_findCommon_0 : decode cX5_findCommon 0 = .ok (.aload_n 0, 1) := by decide +kernel
theorem dX5_findCommon_1 : decode cX5_findCommon 1 = .ok (.bipush 7, 2) := by decide +kernel
theorem dX5_findCommon_3 : decode cX5_findCommon 3 = .ok (.bipush 13, 2) := by decide +kernel
theorem dX5_findCommon_5 : decode cX5_findCommon 5 = .ok (.invokevirtual 94, 3) := by decide +kernel
theorem dX5_findCommon_8 : decode cX5_findCommon 8 = .ok (.aload_n 0, 1) := by decide +kernel
theorem dX5_findCommon_9 : decode cX5_findCommon 9 = .ok (.iconst 3, 1) := by decide +kernel
theorem dX5_findCommon_10 : decode cX5_findCommon 10 = .ok (.bipush 14, 2) := by decide +kernel
theorem dX5_findCommon_12 : decode cX5_findCommon 12 = .ok (.invokevirtual 94, 3) := by decide +kernel
theorem dX5_findCommon_15 : decode cX5_findCommon 15 = .ok (.aload_n 0, 1) := by decide +kernel
theorem dX5_findCommon_16 : decode cX5_findCommon 16 = .ok (.bipush 7, 2) := by decide +kernel
theorem dX5_findCommon_18 : decode cX5_findCommon 18 = .ok (.invokevirtual 97, 3) := by decide +kernel
theorem dX5_findCommon_21 : decode cX5_findCommon 21 = .ok (.aload_n 0, 1) := by decide +kernel
theorem dX5_findCommon_22 : decode cX5_findCommon 22 = .ok (.iconst 3, 1) := by decide +kernel
theorem dX5_findCommon_23 : decode cX5_findCommon 23 = .ok (.invokevirtual 97, 3) := by decide +kernel
theorem dX5_findCommon_26 : decode cX5_findCommon 26 = .ok (.aload_n 0, 1) := by decide +kernel
theorem dX5_findCommon_27 : decode cX5_findCommon 27 = .ok (.getfield 25, 3) := by decide +kernel
theorem dX5_findCommon_30 : decode cX5_findCommon 30 = .ok (.iconst 3, 1) := by decide +kernel
theorem dX5_findCommon_31 : decode cX5_findCommon 31 = .ok (.iaload, 1) := by decide +kernel
theorem dX5_findCommon_32 : decode cX5_findCommon 32 = .ok (.ifCond .lt 50, 3) := by decide +kernel
theorem dX5_findCommon_35 : decode cX5_findCommon 35 = .ok (.aload_n 0, 1) := by decide +kernel
theorem dX5_findCommon_36 : decode cX5_findCommon 36 = .ok (.iconst 2, 1) := by decide +kernel
theorem dX5_findCommon_37 : decode cX5_findCommon 37 = .ok (.bipush 7, 2) := by decide +kernel
theorem dX5_findCommon_39 : decode cX5_findCommon 39 = .ok (.invokevirtual 94, 3) := by decide +kernel
theorem dX5_findCommon_42 : decode cX5_findCommon 42 = .ok (.aload_n 0, 1) := by decide +kernel
theorem dX5_findCommon_43 : decode cX5_findCommon 43 = .ok (.bipush 7, 2) := by decide +kernel
theorem dX5_findCommon_45 : decode cX5_findCommon 45 = .ok (.iconst 3, 1) := by decide +kernel
theorem dX5_findCommon_46 : decode cX5_findCommon 46 = .ok (.invokevirtual 94, 3) := by decide +kernel
theorem dX5_findCommon_49 : decode cX5_findCommon 49 = .ok (.aload_n 0, 1) := by decide +kernel
theorem dX5_findCommon_50 : decode cX5_findCommon 50 = .ok (.getfield 25, 3) := by decide +kernel
theorem dX5_findCommon_53 : decode cX5_findCommon 53 = .ok (.iconst 2, 1) := by decide +kernel
theorem dX5_findCommon_54 : decode cX5_findCommon 54 = .ok (.iaload, 1) := by decide +kernel
theorem dX5_findCommon_55 : decode cX5_findCommon 55 = .ok (.aload_n 0, 1) := by decide +kernel
theorem dX5_findCommon_56 : decode cX5_findCommon 56 = .ok (.getfield 25, 3) := by decide +kernel
theorem dX5_findCommon_59 : decode cX5_findCommon 59 = .ok (.iconst 3, 1) := by decide +kernel
theorem dX5_findCommon_60 : decode cX5_findCommon 60 = .ok (.iaload, 1) := by decide +kernel
theorem dX5_findCommon_61 : decode cX5_findCommon 61 = .ok (.if_icmp .lt 7, 3) := by decide +kernel
theorem dX5_findCommon_64 : decode cX5_findCommon 64 = .ok (.aload_n 0, 1) := by decide +kernel
theorem dX5_findCommon_65 : decode cX5_findCommon 65 = .ok (.invokevirtual 101, 3) := by decide +kernel
theorem dX5_findCommon_68 : decode cX5_findCommon 68 = .ok (.aload_n 0, 1) := by decide +kernel
theorem dX5_findCommon_69 : decode cX5_findCommon 69 = .ok (.iconst 2, 1) := by decide +kernel
theorem dX5_findCommon_70 : decode cX5_findCommon 70 = .ok (.invokevirtual 97, 3) := by decide +kernel
theorem dX5_findCommon_73 : decode cX5_findCommon 73 = .ok (.aload_n 0, 1) := by decide +kernel
theorem dX5_findCommon_74 : decode cX5_findCommon 74 = .ok (.iconst 3, 1) := by decide +kernel
theorem dX5_findCommon_75 : decode cX5_findCommon 75 = .ok (.iconst 2, 1) := by decide +kernel
theorem dX5_findCommon_76 : decode cX5_findCommon 76 = .ok (.invokevirtual 94, 3) := by decide +kernel
theorem dX5_findCommon_79 : decode cX5_findCommon 79 = .ok (.goto (-53), 3) := by decide +kernel
theorem dX5_findCommon_82 : decode cX5_findCommon 82 = .ok (.return_, 1) := by decide +kernel
theorem dX5_deriveRow_0 : decode cX5_deriveRow 0 = .ok (.aload_n 0, 1) := by decide +kernel
theorem dX5_deriveRow_1 : decode cX5_deriveRow 1 = .ok (.getfield 25, 3) := by decide +kernel
theorem dX5_deriveRow_4 : decode cX5_deriveRow 4 = .ok (.iload_n 2, 1) := by decide +kernel
theorem dX5_deriveRow_5 : decode cX5_deriveRow 5 = .ok (.iaload, 1) := by decide +kernel
theorem dX5_deriveRow_6 : decode cX5_deriveRow 6 = .ok (.istore_n 3, 1) := by decide +kernel
theorem dX5_deriveRow_7 : decode cX5_deriveRow 7 = .ok (.iconst 1, 1) := by decide +kernel
theorem dX5_deriveRow_8 : decode cX5_deriveRow 8 = .ok (.istore 4, 2) := by decide +kernel
theorem dX5_deriveRow_10 : decode cX5_deriveRow 10 = .ok (.iload 4, 2) := by decide +kernel
theorem dX5_deriveRow_12 : decode cX5_deriveRow 12 = .ok (.iload_n 3, 1) := by decide +kernel
theorem dX5_deriveRow_13 : decode cX5_deriveRow 13 = .ok (.if_icmp .gt 40, 3) := by decide +kernel
theorem dX5_deriveRow_16 : decode cX5_deriveRow 16 = .ok (.aload_n 0, 1) := by decide +kernel
theorem dX5_deriveRow_17 : decode cX5_deriveRow 17 = .ok (.sipush 135, 3) := by decide +kernel
theorem dX5_deriveRow_20 : decode cX5_deriveRow 20 = .ok (.iload 4, 2) := by decide +kernel
theorem dX5_deriveRow_22 : decode cX5_deriveRow 22 = .ok (.i2l, 1) := by decide +kernel
theorem dX5_deriveRow_23 : decode cX5_deriveRow 23 = .ok (.invokevirtual 64, 3) := by decide +kernel
theorem dX5_deriveRow_26 : decode cX5_deriveRow 26 = .ok (.aload_n 0, 1) := by decide +kernel
theorem dX5_deriveRow_27 : decode cX5_deriveRow 27 = .ok (.iload_n 1, 1) := by decide +kernel
theorem dX5_deriveRow_28 : decode cX5_deriveRow 28 = .ok (.iload 4, 2) := by decide +kernel
theorem dX5_deriveRow_30 : decode cX5_deriveRow 30 = .ok (.iconst 1, 1) := by decide +kernel
theorem dX5_deriveRow_31 : decode cX5_deriveRow 31 = .ok (.isub, 1) := by decide +kernel
theorem dX5_deriveRow_32 : decode cX5_deriveRow 32 = .ok (.invokestatic 79, 3) := by decide +kernel
theorem dX5_deriveRow_35 : decode cX5_deriveRow 35 = .ok (.iload_n 2, 1) := by decide +kernel
theorem dX5_deriveRow_36 : decode cX5_deriveRow 36 = .ok (.iload 4, 2) := by decide +kernel
theorem dX5_deriveRow_38 : decode cX5_deriveRow 38 = .ok (.invokestatic 79, 3) := by decide +kernel
theorem dX5_deriveRow_41 : decode cX5_deriveRow 41 = .ok (.sipush 135, 3) := by decide +kernel
theorem dX5_deriveRow_44 : decode cX5_deriveRow 44 = .ok (.invokevirtual 88, 3) := by decide +kernel
theorem dX5_deriveRow_47 : decode cX5_deriveRow 47 = .ok (.iinc 4 1, 3) := by decide +kernel
theorem dX5_deriveRow_50 : decode cX5_deriveRow 50 = .ok (.goto (-40), 3) := by decide +kernel
theorem dX5_deriveRow_53 : decode cX5_deriveRow 53 = .ok (.aload_n 0, 1) := by decide +kernel
theorem dX5_deriveRow_54 : decode cX5_deriveRow 54 = .ok (.getfield 25, 3) := by decide +kernel
theorem dX5_deriveRow_57 : decode cX5_deriveRow 57 = .ok (.iload_n 1, 1) := by decide +kernel
theorem dX5_deriveRow_58 : decode cX5_deriveRow 58 = .ok (.iload_n 3, 1) := by decide +kernel
theorem dX5_deriveRow_59 : decode cX5_deriveRow 59 = .ok (.iconst 1, 1) := by decide +kernel
theorem dX5_deriveRow_60 : decode cX5_deriveRow 60 = .ok (.isub, 1) := by decide +kernel
theorem dX5_deriveRow_61 : decode cX5_deriveRow 61 = .ok (.iastore, 1) := by decide +kernel
theorem dX5_deriveRow_62 : decode cX5_deriveRow 62 = .ok (.iload_n 3, 1) := by decide +kernel
theorem dX5_deriveRow_63 : decode cX5_deriveRow 63 = .ok (.iconst 1, 1) := by decide +kernel
theorem dX5_deriveRow_64 : decode cX5_deriveRow 64 = .ok (.if_icmp .ge 10, 3) := by decide +kernel
theorem dX5_deriveRow_67 : decode cX5_deriveRow 67 = .ok (.aload_n 0, 1) := by decide +kernel
theorem dX5_deriveRow_68 : decode cX5_deriveRow 68 = .ok (.getfield 25, 3) := by decide +kernel
theorem dX5_deriveRow_71 : decode cX5_deriveRow 71 = .ok (.iload_n 1, 1) := by decide +kernel
theorem dX5_deriveRow_72 : decode cX5_deriveRow 72 = .ok (.iconst (-1), 1) := by decide +kernel
theorem dX5_deriveRow_73 : decode cX5_deriveRow 73 = .ok (.iastore, 1) := by decide +kernel
theorem dX5_deriveRow_74 : decode cX5_deriveRow 74 = .ok (.return_, 1) := by decide +kernel
