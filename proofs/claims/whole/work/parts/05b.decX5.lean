theorem dX5_makeFree_0 : decode cX5_makeFree 0 = .ok (.aload_n 0, 1) := by decide +kernel
theorem dX5_makeFree_1 : decode cX5_makeFree 1 = .ok (.bipush 13, 2) := by decide +kernel
theorem dX5_makeFree_3 : decode cX5_makeFree 3 = .ok (.iload_n 2, 1) := by decide +kernel
theorem dX5_makeFree_4 : decode cX5_makeFree 4 = .ok (.invokevirtual 94, 3) := by decide +kernel
theorem dX5_makeFree_7 : decode cX5_makeFree 7 = .ok (.aload_n 0, 1) := by decide +kernel
theorem dX5_makeFree_8 : decode cX5_makeFree 8 = .ok (.bipush 14, 2) := by decide +kernel
theorem dX5_makeFree_10 : decode cX5_makeFree 10 = .ok (.iload_n 2, 1) := by decide +kernel
theorem dX5_makeFree_11 : decode cX5_makeFree 11 = .ok (.invokevirtual 104, 3) := by decide +kernel
theorem dX5_makeFree_14 : decode cX5_makeFree 14 = .ok (.aload_n 0, 1) := by decide +kernel
theorem dX5_makeFree_15 : decode cX5_makeFree 15 = .ok (.invokevirtual 107, 3) := by decide +kernel
theorem dX5_makeFree_18 : decode cX5_makeFree 18 = .ok (.aload_n 0, 1) := by decide +kernel
theorem dX5_makeFree_19 : decode cX5_makeFree 19 = .ok (.iconst 2, 1) := by decide +kernel
theorem dX5_makeFree_20 : decode cX5_makeFree 20 = .ok (.iload_n 2, 1) := by decide +kernel
theorem dX5_makeFree_21 : decode cX5_makeFree 21 = .ok (.invokevirtual 94, 3) := by decide +kernel
theorem dX5_makeFree_24 : decode cX5_makeFree 24 = .ok (.aload_n 0, 1) := by decide +kernel
theorem dX5_makeFree_25 : decode cX5_makeFree 25 = .ok (.iconst 3, 1) := by decide +kernel
theorem dX5_makeFree_26 : decode cX5_makeFree 26 = .ok (.bipush 7, 2) := by decide +kernel
theorem dX5_makeFree_28 : decode cX5_makeFree 28 = .ok (.invokevirtual 94, 3) := by decide +kernel
theorem dX5_makeFree_31 : decode cX5_makeFree 31 = .ok (.aload_n 0, 1) := by decide +kernel
theorem dX5_makeFree_32 : decode cX5_makeFree 32 = .ok (.invokevirtual 101, 3) := by decide +kernel
theorem dX5_makeFree_35 : decode cX5_makeFree 35 = .ok (.aload_n 0, 1) := by decide +kernel
theorem dX5_makeFree_36 : decode cX5_makeFree 36 = .ok (.iload_n 1, 1) := by decide +kernel
theorem dX5_makeFree_37 : decode cX5_makeFree 37 = .ok (.iconst 4, 1) := by decide +kernel
theorem dX5_makeFree_38 : decode cX5_makeFree 38 = .ok (.invokevirtual 94, 3) := by decide +kernel
theorem dX5_makeFree_41 : decode cX5_makeFree 41 = .ok (.aload_n 0, 1) := by decide +kernel
theorem dX5_makeFree_42 : decode cX5_makeFree 42 = .ok (.iload_n 1, 1) := by decide +kernel
theorem dX5_makeFree_43 : decode cX5_makeFree 43 = .ok (.invokevirtual 97, 3) := by decide +kernel
theorem dX5_makeFree_46 : decode cX5_makeFree 46 = .ok (.return_, 1) := by decide +kernel
theorem dX5_move_0 : decode cX5_move 0 = .ok (.aload_n 0, 1) := by decide +kernel
theorem dX5_move_1 : decode cX5_move 1 = .ok (.iload_n 1, 1) := by decide +kernel
theorem dX5_move_2 : decode cX5_move 2 = .ok (.iload_n 2, 1) := by decide +kernel
theorem dX5_move_3 : decode cX5_move 3 = .ok (.invokevirtual 94, 3) := by decide +kernel
theorem dX5_move_6 : decode cX5_move 6 = .ok (.aload_n 0, 1) := by decide +kernel
theorem dX5_move_7 : decode cX5_move 7 = .ok (.getfield 25, 3) := by decide +kernel
theorem dX5_move_10 : decode cX5_move 10 = .ok (.iload_n 2, 1) := by decide +kernel
theorem dX5_move_11 : decode cX5_move 11 = .ok (.iaload, 1) := by decide +kernel
theorem dX5_move_12 : decode cX5_move 12 = .ok (.istore 7, 2) := by decide +kernel
theorem dX5_move_14 : decode cX5_move 14 = .ok (.iconst 0, 1) := by decide +kernel
theorem dX5_move_15 : decode cX5_move 15 = .ok (.istore 8, 2) := by decide +kernel
theorem dX5_move_17 : decode cX5_move 17 = .ok (.iload 8, 2) := by decide +kernel
theorem dX5_move_19 : decode cX5_move 19 = .ok (.iload 7, 2) := by decide +kernel
theorem dX5_move_21 : decode cX5_move 21 = .ok (.if_icmp .gt 27, 3) := by decide +kernel
theorem dX5_move_24 : decode cX5_move 24 = .ok (.aload_n 0, 1) := by decide +kernel
theorem dX5_move_25 : decode cX5_move 25 = .ok (.iload_n 1, 1) := by decide +kernel
theorem dX5_move_26 : decode cX5_move 26 = .ok (.iload 8, 2) := by decide +kernel
theorem dX5_move_28 : decode cX5_move 28 = .ok (.invokestatic 79, 3) := by decide +kernel
theorem dX5_move_31 : decode cX5_move 31 = .ok (.bipush 30, 2) := by decide +kernel
theorem dX5_move_33 : decode cX5_move 33 = .ok (.iload 7, 2) := by decide +kernel
theorem dX5_move_35 : decode cX5_move 35 = .ok (.iload 8, 2) := by decide +kernel
theorem dX5_move_37 : decode cX5_move 37 = .ok (.isub, 1) := by decide +kernel
theorem dX5_move_38 : decode cX5_move 38 = .ok (.imul, 1) := by decide +kernel
theorem dX5_move_39 : decode cX5_move 39 = .ok (.invokevirtual 68, 3) := by decide +kernel
theorem dX5_move_42 : decode cX5_move 42 = .ok (.iinc 8 1, 3) := by decide +kernel
theorem dX5_move_45 : decode cX5_move 45 = .ok (.goto (-28), 3) := by decide +kernel
theorem dX5_move_48 : decode cX5_move 48 = .ok (.aload_n 0, 1) := by decide +kernel
theorem dX5_move_49 : decode cX5_move 49 = .ok (.sipush 135, 3) := by decide +kernel
theorem dX5_move_52 : decode cX5_move 52 = .ok (.lload_n 3, 1) := by decide +kernel
theorem dX5_move_53 : decode cX5_move 53 = .ok (.invokevirtual 64, 3) := by decide +kernel
theorem dX5_move_56 : decode cX5_move 56 = .ok (.iconst 0, 1) := by decide +kernel
theorem dX5_move_57 : decode cX5_move 57 = .ok (.istore 8, 2) := by decide +kernel
theorem dX5_move_59 : decode cX5_move 59 = .ok (.iload 8, 2) := by decide +kernel
theorem dX5_move_61 : decode cX5_move 61 = .ok (.iload 7, 2) := by decide +kernel
theorem dX5_move_63 : decode cX5_move 63 = .ok (.if_icmp .ge 66, 3) := by decide +kernel
theorem dX5_move_66 : decode cX5_move 66 = .ok (.iload 7, 2) := by decide +kernel
theorem dX5_move_68 : decode cX5_move 68 = .ok (.iconst 1, 1) := by decide +kernel
theorem dX5_move_69 : decode cX5_move 69 = .ok (.isub, 1) := by decide +kernel
theorem dX5_move_70 : decode cX5_move 70 = .ok (.istore 9, 2) := by decide +kernel
theorem dX5_move_72 : decode cX5_move 72 = .ok (.iload 9, 2) := by decide +kernel
theorem dX5_move_74 : decode cX5_move 74 = .ok (.iload 8, 2) := by decide +kernel
theorem dX5_move_76 : decode cX5_move 76 = .ok (.if_icmp .lt 47, 3) := by decide +kernel
theorem dX5_move_79 : decode cX5_move 79 = .ok (.aload_n 0, 1) := by decide +kernel
theorem dX5_move_80 : decode cX5_move 80 = .ok (.sipush 136, 3) := by decide +kernel
theorem dX5_move_83 : decode cX5_move 83 = .ok (.iload_n 1, 1) := by decide +kernel
theorem dX5_move_84 : decode cX5_move 84 = .ok (.iload 9, 2) := by decide +kernel
theorem dX5_move_86 : decode cX5_move 86 = .ok (.iconst 1, 1) := by decide +kernel
theorem dX5_move_87 : decode cX5_move 87 = .ok (.iadd, 1) := by decide +kernel
theorem dX5_move_88 : decode cX5_move 88 = .ok (.invokestatic 79, 3) := by decide +kernel
theorem dX5_move_91 : decode cX5_move 91 = .ok (.sipush 135, 3) := by decide +kernel
theorem dX5_move_94 : decode cX5_move 94 = .ok (.invokevirtual 88, 3) := by decide +kernel
theorem dX5_move_97 : decode cX5_move 97 = .ok (.aload_n 0, 1) := by decide +kernel
theorem dX5_move_98 : decode cX5_move 98 = .ok (.iload_n 1, 1) := by decide +kernel
theorem dX5_move_99 : decode cX5_move 99 = .ok (.iload 9, 2) := by decide +kernel
theorem dX5_move_101 : decode cX5_move 101 = .ok (.invokestatic 79, 3) := by decide +kernel
theorem dX5_move_104 : decode cX5_move 104 = .ok (.iload_n 1, 1) := by decide +kernel
theorem dX5_move_105 : decode cX5_move 105 = .ok (.iload 9, 2) := by decide +kernel
theorem dX5_move_107 : decode cX5_move 107 = .ok (.invokestatic 79, 3) := by decide +kernel
theorem dX5_move_110 : decode cX5_move 110 = .ok (.sipush 136, 3) := by decide +kernel
theorem dX5_move_113 : decode cX5_move 113 = .ok (.iconst 1, 1) := by decide +kernel
theorem dX5_move_114 : decode cX5_move 114 = .ok (.invokevirtual 91, 3) := by decide +kernel
theorem dX5_move_117 : decode cX5_move 117 = .ok (.iinc 9 (-1), 3) := by decide +kernel
theorem dX5_move_120 : decode cX5_move 120 = .ok (.goto (-48), 3) := by decide +kernel
theorem dX5_move_123 : decode cX5_move 123 = .ok (.iinc 8 1, 3) := by decide +kernel
theorem dX5_move_126 : decode cX5_move 126 = .ok (.goto (-67), 3) := by decide +kernel
theorem dX5_move_129 : decode cX5_move 129 = .ok (.aload_n 0, 1) := by decide +kernel
theorem dX5_move_130 : decode cX5_move 130 = .ok (.sipush 135, 3) := by decide +kernel
theorem dX5_move_133 : decode cX5_move 133 = .ok (.lload 5, 2) := by decide +kernel
theorem dX5_move_135 : decode cX5_move 135 = .ok (.invokevirtual 64, 3) := by decide +kernel
theorem dX5_move_138 : decode cX5_move 138 = .ok (.iconst 1, 1) := by decide +kernel
theorem dX5_move_139 : decode cX5_move 139 = .ok (.istore 8, 2) := by decide +kernel
theorem dX5_move_141 : decode cX5_move 141 = .ok (.iload 8, 2) := by decide +kernel
theorem dX5_move_143 : decode cX5_move 143 = .ok (.iload 7, 2) := by decide +kernel
theorem dX5_move_145 : decode cX5_move 145 = .ok (.if_icmp .gt 55, 3) := by decide +kernel
theorem dX5_move_148 : decode cX5_move 148 = .ok (.iload 8, 2) := by decide +kernel
theorem dX5_move_150 : decode cX5_move 150 = .ok (.istore 9, 2) := by decide +kernel
theorem dX5_move_152 : decode cX5_move 152 = .ok (.iload 9, 2) := by decide +kernel
theorem dX5_move_154 : decode cX5_move 154 = .ok (.iload 7, 2) := by decide +kernel
theorem dX5_move_156 : decode cX5_move 156 = .ok (.if_icmp .gt 38, 3) := by decide +kernel
theorem dX5_move_159 : decode cX5_move 159 = .ok (.aload_n 0, 1) := by decide +kernel
theorem dX5_move_160 : decode cX5_move 160 = .ok (.sipush 136, 3) := by decide +kernel
theorem dX5_move_163 : decode cX5_move 163 = .ok (.iload_n 1, 1) := by decide +kernel
theorem dX5_move_164 : decode cX5_move 164 = .ok (.iload 9, 2) := by decide +kernel
theorem dX5_move_166 : decode cX5_move 166 = .ok (.invokestatic 79, 3) := by decide +kernel
theorem dX5_move_169 : decode cX5_move 169 = .ok (.sipush 135, 3) := by decide +kernel
theorem dX5_move_172 : decode cX5_move 172 = .ok (.invokevirtual 88, 3) := by decide +kernel
theorem dX5_move_175 : decode cX5_move 175 = .ok (.aload_n 0, 1) := by decide +kernel
theorem dX5_move_176 : decode cX5_move 176 = .ok (.iload_n 1, 1) := by decide +kernel
theorem dX5_move_177 : decode cX5_move 177 = .ok (.iload 9, 2) := by decide +kernel
theorem dX5_move_179 : decode cX5_move 179 = .ok (.invokestatic 79, 3) := by decide +kernel
theorem dX5_move_182 : decode cX5_move 182 = .ok (.sipush 136, 3) := by decide +kernel
theorem dX5_move_185 : decode cX5_move 185 = .ok (.invokevirtual 49, 3) := by decide +kernel
theorem dX5_move_188 : decode cX5_move 188 = .ok (.iinc 9 1, 3) := by decide +kernel
theorem dX5_move_191 : decode cX5_move 191 = .ok (.goto (-39), 3) := by decide +kernel
theorem dX5_move_194 : decode cX5_move 194 = .ok (.iinc 8 1, 3) := by decide +kernel
theorem dX5_move_197 : decode cX5_move 197 = .ok (.goto (-56), 3) := by decide +kernel
theorem dX5_move_200 : decode cX5_move 200 = .ok (.return_, 1) := by decide +kernel
theorem dX5_shiftRow_0 : decode cX5_shiftRow 0 = .ok (.iconst 0, 1) := by decide +kernel
theorem dX5_shiftRow_1 : decode cX5_shiftRow 1 = .ok (.istore_n 2, 1) := by decide +kernel
theorem dX5_shiftRow_2 : decode cX5_shiftRow 2 = .ok (.iload_n 2, 1) := by decide +kernel
theorem dX5_shiftRow_3 : decode cX5_shiftRow 3 = .ok (.aload_n 0, 1) := by decide +kernel
theorem dX5_shiftRow_4 : decode cX5_shiftRow 4 = .ok (.getfield 25, 3) := by decide +kernel
theorem dX5_shiftRow_7 : decode cX5_shiftRow 7 = .ok (.iload_n 1, 1) := by decide +kernel
theorem dX5_shiftRow_8 : decode cX5_shiftRow 8 = .ok (.iaload, 1) := by decide +kernel
theorem dX5_shiftRow_9 : decode cX5_shiftRow 9 = .ok (.if_icmp .ge 51, 3) := by decide +kernel
theorem dX5_shiftRow_12 : decode cX5_shiftRow 12 = .ok (.aload_n 0, 1) := by decide +kernel
theorem dX5_shiftRow_13 : decode cX5_shiftRow 13 = .ok (.getfield 25, 3) := by decide +kernel
theorem dX5_shiftRow_16 : decode cX5_shiftRow 16 = .ok (.iload_n 1, 1) := by decide +kernel
theorem dX5_shiftRow_17 : decode cX5_shiftRow 17 = .ok (.iaload, 1) := by decide +kernel
theorem dX5_shiftRow_18 : decode cX5_shiftRow 18 = .ok (.iconst 1, 1) := by decide +kernel
theorem dX5_shiftRow_19 : decode cX5_shiftRow 19 = .ok (.isub, 1) := by decide +kernel
theorem dX5_shiftRow_20 : decode cX5_shiftRow 20 = .ok (.istore_n 3, 1) := by decide +kernel
theorem dX5_shiftRow_21 : decode cX5_shiftRow 21 = .ok (.iload_n 3, 1) := by decide +kernel
theorem dX5_shiftRow_22 : decode cX5_shiftRow 22 = .ok (.iload_n 2, 1) := by decide +kernel
theorem dX5_shiftRow_23 : decode cX5_shiftRow 23 = .ok (.if_icmp .lt 31, 3) := by decide +kernel
theorem dX5_shiftRow_26 : decode cX5_shiftRow 26 = .ok (.aload_n 0, 1) := by decide +kernel
theorem dX5_shiftRow_27 : decode cX5_shiftRow 27 = .ok (.iload_n 1, 1) := by decide +kernel
theorem dX5_shiftRow_28 : decode cX5_shiftRow 28 = .ok (.iload_n 3, 1) := by decide +kernel
theorem dX5_shiftRow_29 : decode cX5_shiftRow 29 = .ok (.invokestatic 79, 3) := by decide +kernel
theorem dX5_shiftRow_32 : decode cX5_shiftRow 32 = .ok (.iload_n 1, 1) := by decide +kernel
theorem dX5_shiftRow_33 : decode cX5_shiftRow 33 = .ok (.iload_n 3, 1) := by decide +kernel
theorem dX5_shiftRow_34 : decode cX5_shiftRow 34 = .ok (.invokestatic 79, 3) := by decide +kernel
theorem dX5_shiftRow_37 : decode cX5_shiftRow 37 = .ok (.iload_n 1, 1) := by decide +kernel
theorem dX5_shiftRow_38 : decode cX5_shiftRow 38 = .ok (.iload_n 3, 1) := by decide +kernel
theorem dX5_shiftRow_39 : decode cX5_shiftRow 39 = .ok (.iconst 1, 1) := by decide +kernel
theorem dX5_shiftRow_40 : decode cX5_shiftRow 40 = .ok (.iadd, 1) := by decide +kernel
theorem dX5_shiftRow_41 : decode cX5_shiftRow 41 = .ok (.invokestatic 79, 3) := by decide +kernel
theorem dX5_shiftRow_44 : decode cX5_shiftRow 44 = .ok (.iconst 1, 1) := by decide +kernel
theorem dX5_shiftRow_45 : decode cX5_shiftRow 45 = .ok (.invokevirtual 91, 3) := by decide +kernel
theorem dX5_shiftRow_48 : decode cX5_shiftRow 48 = .ok (.iinc 3 (-1), 3) := by decide +kernel
theorem dX5_shiftRow_51 : decode cX5_shiftRow 51 = .ok (.goto (-30), 3) := by decide +kernel
theorem dX5_shiftRow_54 : decode cX5_shiftRow 54 = .ok (.iinc 2 1, 3) := by decide +kernel
theorem dX5_shiftRow_57 : decode cX5_shiftRow 57 = .ok (.goto (-55), 3) := by decide +kernel
theorem dX5_shiftRow_60 : decode cX5_shiftRow 60 = .ok (.return_, 1) := by decide +kernel
theorem dX5_halve_0 : decode cX5_halve 0 = .ok (.iconst 0, 1) := by decide +kernel
theorem dX5_halve_1 : decode cX5_halve 1 = .ok (.istore_n 2, 1) := by decide +kernel
theorem dX5_halve_2 : decode cX5_halve 2 = .ok (.iload_n 2, 1) := by decide +kernel
theorem dX5_halve_3 : decode cX5_halve 3 = .ok (.aload_n 0, 1) := by decide +kernel
theorem dX5_halve_4 : decode cX5_halve 4 = .ok (.getfield 25, 3) := by decide +kernel
theorem dX5_halve_7 : decode cX5_halve 7 = .ok (.iload_n 1, 1) := by decide +kernel
theorem dX5_halve_8 : decode cX5_halve 8 = .ok (.iaload, 1) := by decide +kernel
theorem dX5_halve_9 : decode cX5_halve 9 = .ok (.if_icmp .gt 26, 3) := by decide +kernel
theorem dX5_halve_12 : decode cX5_halve 12 = .ok (.aload_n 0, 1) := by decide +kernel
theorem dX5_halve_13 : decode cX5_halve 13 = .ok (.iload_n 1, 1) := by decide +kernel
theorem dX5_halve_14 : decode cX5_halve 14 = .ok (.iload_n 2, 1) := by decide +kernel
theorem dX5_halve_15 : decode cX5_halve 15 = .ok (.invokestatic 79, 3) := by decide +kernel
theorem dX5_halve_18 : decode cX5_halve 18 = .ok (.aload_n 0, 1) := by decide +kernel
theorem dX5_halve_19 : decode cX5_halve 19 = .ok (.getfield 25, 3) := by decide +kernel
theorem dX5_halve_22 : decode cX5_halve 22 = .ok (.iload_n 1, 1) := by decide +kernel
theorem dX5_halve_23 : decode cX5_halve 23 = .ok (.iaload, 1) := by decide +kernel
theorem dX5_halve_24 : decode cX5_halve 24 = .ok (.iload_n 2, 1) := by decide +kernel
theorem dX5_halve_25 : decode cX5_halve 25 = .ok (.isub, 1) := by decide +kernel
theorem dX5_halve_26 : decode cX5_halve 26 = .ok (.invokevirtual 68, 3) := by decide +kernel
theorem dX5_halve_29 : decode cX5_halve 29 = .ok (.iinc 2 1, 3) := by decide +kernel
theorem dX5_halve_32 : decode cX5_halve 32 = .ok (.goto (-30), 3) := by decide +kernel
theorem dX5_halve_35 : decode cX5_halve 35 = .ok (.return_, 1) := by decide +kernel
theorem dX5_twice_0 : decode cX5_twice 0 = .ok (.iconst 0, 1) := by decide +kernel
theorem dX5_twice_1 : decode cX5_twice 1 = .ok (.istore_n 2, 1) := by decide +kernel
theorem dX5_twice_2 : decode cX5_twice 2 = .ok (.iload_n 2, 1) := by decide +kernel
theorem dX5_twice_3 : decode cX5_twice 3 = .ok (.aload_n 0, 1) := by decide +kernel
theorem dX5_twice_4 : decode cX5_twice 4 = .ok (.getfield 25, 3) := by decide +kernel
theorem dX5_twice_7 : decode cX5_twice 7 = .ok (.iload_n 1, 1) := by decide +kernel
theorem dX5_twice_8 : decode cX5_twice 8 = .ok (.iaload, 1) := by decide +kernel
theorem dX5_twice_9 : decode cX5_twice 9 = .ok (.if_icmp .ge 26, 3) := by decide +kernel
theorem dX5_twice_12 : decode cX5_twice 12 = .ok (.aload_n 0, 1) := by decide +kernel
theorem dX5_twice_13 : decode cX5_twice 13 = .ok (.iload_n 1, 1) := by decide +kernel
theorem dX5_twice_14 : decode cX5_twice 14 = .ok (.iload_n 2, 1) := by decide +kernel
theorem dX5_twice_15 : decode cX5_twice 15 = .ok (.invokestatic 79, 3) := by decide +kernel
theorem dX5_twice_18 : decode cX5_twice 18 = .ok (.aload_n 0, 1) := by decide +kernel
theorem dX5_twice_19 : decode cX5_twice 19 = .ok (.getfield 25, 3) := by decide +kernel
theorem dX5_twice_22 : decode cX5_twice 22 = .ok (.iload_n 1, 1) := by decide +kernel
theorem dX5_twice_23 : decode cX5_twice 23 = .ok (.iaload, 1) := by decide +kernel
theorem dX5_twice_24 : decode cX5_twice 24 = .ok (.iload_n 2, 1) := by decide +kernel
theorem dX5_twice_25 : decode cX5_twice 25 = .ok (.isub, 1) := by decide +kernel
theorem dX5_twice_26 : decode cX5_twice 26 = .ok (.invokevirtual 110, 3) := by decide +kernel
theorem dX5_twice_29 : decode cX5_twice 29 = .ok (.iinc 2 1, 3) := by decide +kernel
theorem dX5_twice_32 : decode cX5_twice 32 = .ok (.goto (-30), 3) := by decide +kernel
theorem dX5_twice_35 : decode cX5_twice 35 = .ok (.return_, 1) := by decide +kernel
theorem dX5_signAtOne_0 : decode cX5_signAtOne 0 = .ok (.aload_n 0, 1) := by decide +kernel
theorem dX5_signAtOne_1 : decode cX5_signAtOne 1 = .ok (.sipush 135, 3) := by decide +kernel
theorem dX5_signAtOne_4 : decode cX5_signAtOne 4 = .ok (.lconst 0, 1) := by decide +kernel
theorem dX5_signAtOne_5 : decode cX5_signAtOne 5 = .ok (.invokevirtual 64, 3) := by decide +kernel
theorem dX5_signAtOne_8 : decode cX5_signAtOne 8 = .ok (.iconst 0, 1) := by decide +kernel
theorem dX5_signAtOne_9 : decode cX5_signAtOne 9 = .ok (.istore_n 2, 1) := by decide +kernel
theorem dX5_signAtOne_10 : decode cX5_signAtOne 10 = .ok (.iload_n 2, 1) := by decide +kernel
theorem dX5_signAtOne_11 : decode cX5_signAtOne 11 = .ok (.aload_n 0, 1) := by decide +kernel
theorem dX5_signAtOne_12 : decode cX5_signAtOne 12 = .ok (.getfield 25, 3) := by decide +kernel
theorem dX5_signAtOne_15 : decode cX5_signAtOne 15 = .ok (.iload_n 1, 1) := by decide +kernel
theorem dX5_signAtOne_16 : decode cX5_signAtOne 16 = .ok (.iaload, 1) := by decide +kernel
theorem dX5_signAtOne_17 : decode cX5_signAtOne 17 = .ok (.if_icmp .gt 25, 3) := by decide +kernel
theorem dX5_signAtOne_20 : decode cX5_signAtOne 20 = .ok (.aload_n 0, 1) := by decide +kernel
theorem dX5_signAtOne_21 : decode cX5_signAtOne 21 = .ok (.sipush 135, 3) := by decide +kernel
theorem dX5_signAtOne_24 : decode cX5_signAtOne 24 = .ok (.sipush 135, 3) := by decide +kernel
theorem dX5_signAtOne_27 : decode cX5_signAtOne 27 = .ok (.iload_n 1, 1) := by decide +kernel
theorem dX5_signAtOne_28 : decode cX5_signAtOne 28 = .ok (.iload_n 2, 1) := by decide +kernel
theorem dX5_signAtOne_29 : decode cX5_signAtOne 29 = .ok (.invokestatic 79, 3) := by decide +kernel
theorem dX5_signAtOne_32 : decode cX5_signAtOne 32 = .ok (.iconst 1, 1) := by decide +kernel
theorem dX5_signAtOne_33 : decode cX5_signAtOne 33 = .ok (.invokevirtual 91, 3) := by decide +kernel
theorem dX5_signAtOne_36 : decode cX5_signAtOne 36 = .ok (.iinc 2 1, 3) := by decide +kernel
theorem dX5_signAtOne_39 : decode cX5_signAtOne 39 = .ok (.goto (-29), 3) := by decide +kernel
theorem dX5_signAtOne_42 : decode cX5_signAtOne 42 = .ok (.aload_n 0, 1) := by decide +kernel
theorem dX5_signAtOne_43 : decode cX5_signAtOne 43 = .ok (.getfield 22, 3) := by decide +kernel
theorem dX5_signAtOne_46 : decode cX5_signAtOne 46 = .ok (.sipush 135, 3) := by decide +kernel
theorem dX5_signAtOne_49 : decode cX5_signAtOne 49 = .ok (.iaload, 1) := by decide +kernel
theorem dX5_signAtOne_50 : decode cX5_signAtOne 50 = .ok (.ireturn, 1) := by decide +kernel
theorem dX5_changes_0 : decode cX5_changes 0 = .ok (.aload_n 0, 1) := by decide +kernel
theorem dX5_changes_1 : decode cX5_changes 1 = .ok (.getfield 25, 3) := by decide +kernel
theorem dX5_changes_4 : decode cX5_changes 4 = .ok (.iload_n 1, 1) := by decide +kernel
theorem dX5_changes_5 : decode cX5_changes 5 = .ok (.iaload, 1) := by decide +kernel
theorem dX5_changes_6 : decode cX5_changes 6 = .ok (.istore_n 2, 1) := by decide +kernel
theorem dX5_changes_7 : decode cX5_changes 7 = .ok (.iconst 0, 1) := by decide +kernel
theorem dX5_changes_8 : decode cX5_changes 8 = .ok (.istore_n 3, 1) := by decide +kernel
theorem dX5_changes_9 : decode cX5_changes 9 = .ok (.iload_n 3, 1) := by decide +kernel
theorem dX5_changes_10 : decode cX5_changes 10 = .ok (.iload_n 2, 1) := by decide +kernel
theorem dX5_changes_11 : decode cX5_changes 11 = .ok (.if_icmp .gt 26, 3) := by decide +kernel
theorem dX5_changes_14 : decode cX5_changes 14 = .ok (.aload_n 0, 1) := by decide +kernel
theorem dX5_changes_15 : decode cX5_changes 15 = .ok (.bipush 12, 2) := by decide +kernel
theorem dX5_changes_17 : decode cX5_changes 17 = .ok (.iload_n 3, 1) := by decide +kernel
theorem dX5_changes_18 : decode cX5_changes 18 = .ok (.invokestatic 79, 3) := by decide +kernel
theorem dX5_changes_21 : decode cX5_changes 21 = .ok (.iload_n 1, 1) := by decide +kernel
theorem dX5_changes_22 : decode cX5_changes 22 = .ok (.iload_n 2, 1) := by decide +kernel
theorem dX5_changes_23 : decode cX5_changes 23 = .ok (.iload_n 3, 1) := by decide +kernel
theorem dX5_changes_24 : decode cX5_changes 24 = .ok (.isub, 1) := by decide +kernel
theorem dX5_changes_25 : decode cX5_changes 25 = .ok (.invokestatic 79, 3) := by decide +kernel
theorem dX5_changes_28 : decode cX5_changes 28 = .ok (.invokevirtual 49, 3) := by decide +kernel
theorem dX5_changes_31 : decode cX5_changes 31 = .ok (.iinc 3 1, 3) := by decide +kernel
theorem dX5_changes_34 : decode cX5_changes 34 = .ok (.goto (-25), 3) := by decide +kernel
theorem dX5_changes_37 : decode cX5_changes 37 = .ok (.aload_n 0, 1) := by decide +kernel
theorem dX5_changes_38 : decode cX5_changes 38 = .ok (.getfield 25, 3) := by decide +kernel
theorem dX5_changes_41 : decode cX5_changes 41 = .ok (.bipush 12, 2) := by decide +kernel
theorem dX5_changes_43 : decode cX5_changes 43 = .ok (.iload_n 2, 1) := by decide +kernel
theorem dX5_changes_44 : decode cX5_changes 44 = .ok (.iastore, 1) := by decide +kernel
theorem dX5_changes_45 : decode cX5_changes 45 = .ok (.aload_n 0, 1) := by decide +kernel
theorem dX5_changes_46 : decode cX5_changes 46 = .ok (.bipush 12, 2) := by decide +kernel
theorem dX5_changes_48 : decode cX5_changes 48 = .ok (.invokevirtual 113, 3) := by decide +kernel
theorem dX5_changes_51 : decode cX5_changes 51 = .ok (.iconst 0, 1) := by decide +kernel
theorem dX5_changes_52 : decode cX5_changes 52 = .ok (.istore_n 3, 1) := by decide +kernel
theorem dX5_changes_53 : decode cX5_changes 53 = .ok (.iconst 0, 1) := by decide +kernel
theorem dX5_changes_54 : decode cX5_changes 54 = .ok (.istore 4, 2) := by decide +kernel
theorem dX5_changes_56 : decode cX5_changes 56 = .ok (.iconst 0, 1) := by decide +kernel
theorem dX5_changes_57 : decode cX5_changes 57 = .ok (.istore 5, 2) := by decide +kernel
theorem dX5_changes_59 : decode cX5_changes 59 = .ok (.iload 5, 2) := by decide +kernel
theorem dX5_changes_61 : decode cX5_changes 61 = .ok (.iload_n 2, 1) := by decide +kernel
theorem dX5_changes_62 : decode cX5_changes 62 = .ok (.if_icmp .gt 62, 3) := by decide +kernel
theorem dX5_changes_65 : decode cX5_changes 65 = .ok (.aload_n 0, 1) := by decide +kernel
theorem dX5_changes_66 : decode cX5_changes 66 = .ok (.getfield 22, 3) := by decide +kernel
theorem dX5_changes_69 : decode cX5_changes 69 = .ok (.bipush 12, 2) := by decide +kernel
theorem dX5_changes_71 : decode cX5_changes 71 = .ok (.iload 5, 2) := by decide +kernel
theorem dX5_changes_73 : decode cX5_changes 73 = .ok (.invokestatic 79, 3) := by decide +kernel
theorem dX5_changes_76 : decode cX5_changes 76 = .ok (.iaload, 1) := by decide +kernel
theorem dX5_changes_77 : decode cX5_changes 77 = .ok (.istore 6, 2) := by decide +kernel
theorem dX5_changes_79 : decode cX5_changes 79 = .ok (.iload 6, 2) := by decide +kernel
theorem dX5_changes_81 : decode cX5_changes 81 = .ok (.ifCond .eq 21, 3) := by decide +kernel
theorem dX5_changes_84 : decode cX5_changes 84 = .ok (.iload 4, 2) := by decide +kernel
theorem dX5_changes_86 : decode cX5_changes 86 = .ok (.ifCond .eq 16, 3) := by decide +kernel
theorem dX5_changes_89 : decode cX5_changes 89 = .ok (.iload 6, 2) := by decide +kernel
theorem dX5_changes_91 : decode cX5_changes 91 = .ok (.iload 4, 2) := by decide +kernel
theorem dX5_changes_93 : decode cX5_changes 93 = .ok (.if_icmp .eq 9, 3) := by decide +kernel
theorem dX5_changes_96 : decode cX5_changes 96 = .ok (.iload_n 3, 1) := by decide +kernel
theorem dX5_changes_97 : decode cX5_changes 97 = .ok (.iconst 1, 1) := by decide +kernel
theorem dX5_changes_98 : decode cX5_changes 98 = .ok (.iadd, 1) := by decide +kernel
theorem dX5_changes_99 : decode cX5_changes 99 = .ok (.goto 4, 3) := by decide +kernel
theorem dX5_changes_102 : decode cX5_changes 102 = .ok (.iload_n 3, 1) := by decide +kernel
theorem dX5_changes_103 : decode cX5_changes 103 = .ok (.istore_n 3, 1) := by decide +kernel
theorem dX5_changes_104 : decode cX5_changes 104 = .ok (.iload 6, 2) := by decide +kernel
theorem dX5_changes_106 : decode cX5_changes 106 = .ok (.ifCond .ne 8, 3) := by decide +kernel
theorem dX5_changes_109 : decode cX5_changes 109 = .ok (.iload 4, 2) := by decide +kernel
theorem dX5_changes_111 : decode cX5_changes 111 = .ok (.goto 5, 3) := by decide +kernel
theorem dX5_changes_114 : decode cX5_changes 114 = .ok (.iload 6, 2) := by decide +kernel
theorem dX5_changes_116 : decode cX5_changes 116 = .ok (.istore 4, 2) := by decide +kernel
theorem dX5_changes_118 : decode cX5_changes 118 = .ok (.iinc 5 1, 3) := by decide +kernel
theorem dX5_changes_121 : decode cX5_changes 121 = .ok (.goto (-62), 3) := by decide +kernel
theorem dX5_changes_124 : decode cX5_changes 124 = .ok (.iload_n 3, 1) := by decide +kernel
theorem dX5_changes_125 : decode cX5_changes 125 = .ok (.ireturn, 1) := by decide +kernel
theorem dX5_between_0 : decode cX5_between 0 = .ok (.aload_n 0, 1) := by decide +kernel
theorem dX5_between_1 : decode cX5_between 1 = .ok (.bipush 11, 2) := by decide +kernel
theorem dX5_between_3 : decode cX5_between 3 = .ok (.iload_n 1, 1) := by decide +kernel
theorem dX5_between_4 : decode cX5_between 4 = .ok (.invokevirtual 94, 3) := by decide +kernel
theorem dX5_between_7 : decode cX5_between 7 = .ok (.iconst 0, 1) := by decide +kernel
theorem dX5_between_8 : decode cX5_between 8 = .ok (.istore_n 2, 1) := by decide +kernel
theorem dX5_between_9 : decode cX5_between 9 = .ok (.iconst 0, 1) := by decide +kernel
theorem dX5_between_10 : decode cX5_between 10 = .ok (.istore_n 3, 1) := by decide +kernel
theorem dX5_between_11 : decode cX5_between 11 = .ok (.aload_n 0, 1) := by decide +kernel
theorem dX5_between_12 : decode cX5_between 12 = .ok (.getfield 25, 3) := by decide +kernel
theorem dX5_between_15 : decode cX5_between 15 = .ok (.bipush 11, 2) := by decide +kernel
theorem dX5_between_17 : decode cX5_between 17 = .ok (.iaload, 1) := by decide +kernel
theorem dX5_between_18 : decode cX5_between 18 = .ok (.ifCond .le 7, 3) := by decide +kernel
theorem dX5_between_21 : decode cX5_between 21 = .ok (.iconst 1, 1) := by decide +kernel
theorem dX5_between_22 : decode cX5_between 22 = .ok (.goto 4, 3) := by decide +kernel
theorem dX5_between_25 : decode cX5_between 25 = .ok (.iconst 0, 1) := by decide +kernel
theorem dX5_between_26 : decode cX5_between 26 = .ok (.istore 4, 2) := by decide +kernel
theorem dX5_between_28 : decode cX5_between 28 = .ok (.iload 4, 2) := by decide +kernel
theorem dX5_between_30 : decode cX5_between 30 = .ok (.ifCond .eq 120, 3) := by decide +kernel
theorem dX5_between_33 : decode cX5_between 33 = .ok (.aload_n 0, 1) := by decide +kernel
theorem dX5_between_34 : decode cX5_between 34 = .ok (.bipush 11, 2) := by decide +kernel
theorem dX5_between_36 : decode cX5_between 36 = .ok (.invokevirtual 116, 3) := by decide +kernel
theorem dX5_between_39 : decode cX5_between 39 = .ok (.istore 5, 2) := by decide +kernel
theorem dX5_between_41 : decode cX5_between 41 = .ok (.iload 5, 2) := by decide +kernel
theorem dX5_between_43 : decode cX5_between 43 = .ok (.iconst 1, 1) := by decide +kernel
theorem dX5_between_44 : decode cX5_between 44 = .ok (.if_icmp .le 22, 3) := by decide +kernel
theorem dX5_between_47 : decode cX5_between 47 = .ok (.aload_n 0, 1) := by decide +kernel
theorem dX5_between_48 : decode cX5_between 48 = .ok (.bipush 11, 2) := by decide +kernel
theorem dX5_between_50 : decode cX5_between 50 = .ok (.invokevirtual 120, 3) := by decide +kernel
theorem dX5_between_53 : decode cX5_between 53 = .ok (.iinc 3 1, 3) := by decide +kernel
theorem dX5_between_56 : decode cX5_between 56 = .ok (.aload_n 0, 1) := by decide +kernel
theorem dX5_between_57 : decode cX5_between 57 = .ok (.getfield 35, 3) := by decide +kernel
theorem dX5_between_60 : decode cX5_between 60 = .ok (.iload_n 3, 1) := by decide +kernel
theorem dX5_between_61 : decode cX5_between 61 = .ok (.iconst 0, 1) := by decide +kernel
theorem dX5_between_62 : decode cX5_between 62 = .ok (.bastore, 1) := by decide +kernel
theorem dX5_between_63 : decode cX5_between 63 = .ok (.goto 84, 3) := by decide +kernel
theorem dX5_between_66 : decode cX5_between 66 = .ok (.iload_n 2, 1) := by decide +kernel
theorem dX5_between_67 : decode cX5_between 67 = .ok (.iload 5, 2) := by decide +kernel
theorem dX5_between_69 : decode cX5_between 69 = .ok (.iadd, 1) := by decide +kernel
theorem dX5_between_70 : decode cX5_between 70 = .ok (.istore_n 2, 1) := by decide +kernel
theorem dX5_between_71 : decode cX5_between 71 = .ok (.aload_n 0, 1) := by decide +kernel
theorem dX5_between_72 : decode cX5_between 72 = .ok (.bipush 11, 2) := by decide +kernel
theorem dX5_between_74 : decode cX5_between 74 = .ok (.invokevirtual 113, 3) := by decide +kernel
theorem dX5_between_77 : decode cX5_between 77 = .ok (.iload_n 3, 1) := by decide +kernel
theorem dX5_between_78 : decode cX5_between 78 = .ok (.ifCond .le 24, 3) := by decide +kernel
theorem dX5_between_81 : decode cX5_between 81 = .ok (.aload_n 0, 1) := by decide +kernel
theorem dX5_between_82 : decode cX5_between 82 = .ok (.getfield 35, 3) := by decide +kernel
theorem dX5_between_85 : decode cX5_between 85 = .ok (.iload_n 3, 1) := by decide +kernel
theorem dX5_between_86 : decode cX5_between 86 = .ok (.baload, 1) := by decide +kernel
theorem dX5_between_87 : decode cX5_between 87 = .ok (.ifCond .eq 15, 3) := by decide +kernel
theorem dX5_between_90 : decode cX5_between 90 = .ok (.aload_n 0, 1) := by decide +kernel
theorem dX5_between_91 : decode cX5_between 91 = .ok (.bipush 11, 2) := by decide +kernel
theorem dX5_between_93 : decode cX5_between 93 = .ok (.invokevirtual 123, 3) := by decide +kernel
theorem dX5_between_96 : decode cX5_between 96 = .ok (.iinc 3 (-1), 3) := by decide +kernel
theorem dX5_between_99 : decode cX5_between 99 = .ok (.goto (-22), 3) := by decide +kernel
theorem dX5_between_102 : decode cX5_between 102 = .ok (.iload_n 3, 1) := by decide +kernel
theorem dX5_between_103 : decode cX5_between 103 = .ok (.ifCond .le 7, 3) := by decide +kernel
theorem dX5_between_106 : decode cX5_between 106 = .ok (.iconst 1, 1) := by decide +kernel
theorem dX5_between_107 : decode cX5_between 107 = .ok (.goto 4, 3) := by decide +kernel
theorem dX5_between_110 : decode cX5_between 110 = .ok (.iconst 0, 1) := by decide +kernel
theorem dX5_between_111 : decode cX5_between 111 = .ok (.istore 4, 2) := by decide +kernel
theorem dX5_between_113 : decode cX5_between 113 = .ok (.iload 4, 2) := by decide +kernel
theorem dX5_between_115 : decode cX5_between 115 = .ok (.ifCond .eq 32, 3) := by decide +kernel
theorem dX5_between_118 : decode cX5_between 118 = .ok (.aload_n 0, 1) := by decide +kernel
theorem dX5_between_119 : decode cX5_between 119 = .ok (.getfield 35, 3) := by decide +kernel
theorem dX5_between_122 : decode cX5_between 122 = .ok (.iload_n 3, 1) := by decide +kernel
theorem dX5_between_123 : decode cX5_between 123 = .ok (.iconst 1, 1) := by decide +kernel
theorem dX5_between_124 : decode cX5_between 124 = .ok (.bastore, 1) := by decide +kernel
theorem dX5_between_125 : decode cX5_between 125 = .ok (.aload_n 0, 1) := by decide +kernel
theorem dX5_between_126 : decode cX5_between 126 = .ok (.getfield 22, 3) := by decide +kernel
theorem dX5_between_129 : decode cX5_between 129 = .ok (.bipush 11, 2) := by decide +kernel
theorem dX5_between_131 : decode cX5_between 131 = .ok (.iconst 0, 1) := by decide +kernel
theorem dX5_between_132 : decode cX5_between 132 = .ok (.invokestatic 79, 3) := by decide +kernel
theorem dX5_between_135 : decode cX5_between 135 = .ok (.iaload, 1) := by decide +kernel
theorem dX5_between_136 : decode cX5_between 136 = .ok (.ifCond .ne 9, 3) := by decide +kernel
theorem dX5_between_139 : decode cX5_between 139 = .ok (.iload_n 2, 1) := by decide +kernel
theorem dX5_between_140 : decode cX5_between 140 = .ok (.iconst 1, 1) := by decide +kernel
theorem dX5_between_141 : decode cX5_between 141 = .ok (.iadd, 1) := by decide +kernel
theorem dX5_between_142 : decode cX5_between 142 = .ok (.goto 4, 3) := by decide +kernel
theorem dX5_between_145 : decode cX5_between 145 = .ok (.iload_n 2, 1) := by decide +kernel
theorem dX5_between_146 : decode cX5_between 146 = .ok (.istore_n 2, 1) := by decide +kernel
theorem dX5_between_147 : decode cX5_between 147 = .ok (.goto (-119), 3) := by decide +kernel
theorem dX5_between_150 : decode cX5_between 150 = .ok (.iload_n 2, 1) := by decide +kernel
theorem dX5_between_151 : decode cX5_between 151 = .ok (.ireturn, 1) := by decide +kernel
theorem dX5_upTo_0 : decode cX5_upTo 0 = .ok (.aload_n 0, 1) := by decide +kernel
theorem dX5_upTo_1 : decode cX5_upTo 1 = .ok (.getfield 25, 3) := by decide +kernel
theorem dX5_upTo_4 : decode cX5_upTo 4 = .ok (.iload_n 1, 1) := by decide +kernel
theorem dX5_upTo_5 : decode cX5_upTo 5 = .ok (.iaload, 1) := by decide +kernel
theorem dX5_upTo_6 : decode cX5_upTo 6 = .ok (.ifCond .le 15, 3) := by decide +kernel
theorem dX5_upTo_9 : decode cX5_upTo 9 = .ok (.aload_n 0, 1) := by decide +kernel
theorem dX5_upTo_10 : decode cX5_upTo 10 = .ok (.iload_n 1, 1) := by decide +kernel
theorem dX5_upTo_11 : decode cX5_upTo 11 = .ok (.invokevirtual 126, 3) := by decide +kernel
theorem dX5_upTo_14 : decode cX5_upTo 14 = .ok (.ifCond .ne 7, 3) := by decide +kernel
theorem dX5_upTo_17 : decode cX5_upTo 17 = .ok (.iconst 1, 1) := by decide +kernel
theorem dX5_upTo_18 : decode cX5_upTo 18 = .ok (.goto 4, 3) := by decide +kernel
theorem dX5_upTo_21 : decode cX5_upTo 21 = .ok (.iconst 0, 1) := by decide +kernel
theorem dX5_upTo_22 : decode cX5_upTo 22 = .ok (.istore_n 2, 1) := by decide +kernel
theorem dX5_upTo_23 : decode cX5_upTo 23 = .ok (.iload_n 2, 1) := by decide +kernel
theorem dX5_upTo_24 : decode cX5_upTo 24 = .ok (.aload_n 0, 1) := by decide +kernel
theorem dX5_upTo_25 : decode cX5_upTo 25 = .ok (.iload_n 1, 1) := by decide +kernel
theorem dX5_upTo_26 : decode cX5_upTo 26 = .ok (.invokevirtual 129, 3) := by decide +kernel
theorem dX5_upTo_29 : decode cX5_upTo 29 = .ok (.iadd, 1) := by decide +kernel
theorem dX5_upTo_30 : decode cX5_upTo 30 = .ok (.ireturn, 1) := by decide +kernel
theorem dX5_isWhich_0 : decode cX5_isWhich 0 = .ok (.iload_n 0, 1) := by decide +kernel
theorem dX5_isWhich_1 : decode cX5_isWhich 1 = .ok (.i2l, 1) := by decide +kernel
theorem dX5_isWhich_2 : decode cX5_isWhich 2 = .ok (.lconst 0, 1) := by decide +kernel
theorem dX5_isWhich_3 : decode cX5_isWhich 3 = .ok (.lconst 1, 1) := by decide +kernel
theorem dX5_isWhich_4 : decode cX5_isWhich 4 = .ok (.invokestatic 132, 3) := by decide +kernel
theorem dX5_isWhich_7 : decode cX5_isWhich 7 = .ok (.ireturn, 1) := by decide +kernel
theorem dX5_forget_0 : decode cX5_forget 0 = .ok (.aload_n 0, 1) := by decide +kernel
theorem dX5_forget_1 : decode cX5_forget 1 = .ok (.iconst 0, 1) := by decide +kernel
theorem dX5_forget_2 : decode cX5_forget 2 = .ok (.putfield 136, 3) := by decide +kernel
theorem dX5_forget_5 : decode cX5_forget 5 = .ok (.aload_n 0, 1) := by decide +kernel
theorem dX5_forget_6 : decode cX5_forget 6 = .ok (.iconst 0, 1) := by decide +kernel
theorem dX5_forget_7 : decode cX5_forget 7 = .ok (.putfield 39, 3) := by decide +kernel
theorem dX5_forget_10 : decode cX5_forget 10 = .ok (.return_, 1) := by decide +kernel
theorem dX5_set_0 : decode cX5_set 0 = .ok (.iload_n 1, 1) := by decide +kernel
theorem dX5_set_1 : decode cX5_set 1 = .ok (.invokestatic 140, 3) := by decide +kernel
theorem dX5_set_4 : decode cX5_set 4 = .ok (.ifCond .eq 29, 3) := by decide +kernel
theorem dX5_set_7 : decode cX5_set 7 = .ok (.iload_n 2, 1) := by decide +kernel
theorem dX5_set_8 : decode cX5_set 8 = .ok (.i2l, 1) := by decide +kernel
theorem dX5_set_9 : decode cX5_set 9 = .ok (.lconst 0, 1) := by decide +kernel
theorem dX5_set_10 : decode cX5_set 10 = .ok (.ldc2_w 144, 3) := by decide +kernel
theorem dX5_set_13 : decode cX5_set 13 = .ok (.invokestatic 132, 3) := by decide +kernel
theorem dX5_set_16 : decode cX5_set 16 = .ok (.ifCond .eq 17, 3) := by decide +kernel
theorem dX5_set_19 : decode cX5_set 19 = .ok (.iload_n 3, 1) := by decide +kernel
theorem dX5_set_20 : decode cX5_set 20 = .ok (.i2l, 1) := by decide +kernel
theorem dX5_set_21 : decode cX5_set 21 = .ok (.ldc2_w 146, 3) := by decide +kernel
theorem dX5_set_24 : decode cX5_set 24 = .ok (.ldc2_w 148, 3) := by decide +kernel
theorem dX5_set_27 : decode cX5_set 27 = .ok (.invokestatic 132, 3) := by decide +kernel
theorem dX5_set_30 : decode cX5_set 30 = .ok (.ifCond .ne 6, 3) := by decide +kernel
theorem dX5_set_33 : decode cX5_set 33 = .ok (.bipush (-2), 2) := by decide +kernel
theorem dX5_set_35 : decode cX5_set 35 = .ok (.ireturn, 1) := by decide +kernel
theorem dX5_set_36 : decode cX5_set 36 = .ok (.aload_n 0, 1) := by decide +kernel
theorem dX5_set_37 : decode cX5_set 37 = .ok (.getfield 9, 3) := by decide +kernel
theorem dX5_set_40 : decode cX5_set 40 = .ok (.iload_n 1, 1) := by decide +kernel
theorem dX5_set_41 : decode cX5_set 41 = .ok (.aaload, 1) := by decide +kernel
theorem dX5_set_42 : decode cX5_set 42 = .ok (.iload_n 2, 1) := by decide +kernel
theorem dX5_set_43 : decode cX5_set 43 = .ok (.iload_n 3, 1) := by decide +kernel
theorem dX5_set_44 : decode cX5_set 44 = .ok (.iastore, 1) := by decide +kernel
theorem dX5_set_45 : decode cX5_set 45 = .ok (.iload_n 1, 1) := by decide +kernel
theorem dX5_set_46 : decode cX5_set 46 = .ok (.ifCond .ne 7, 3) := by decide +kernel
theorem dX5_set_49 : decode cX5_set 49 = .ok (.aload_n 0, 1) := by decide +kernel
theorem dX5_set_50 : decode cX5_set 50 = .ok (.invokevirtual 150, 3) := by decide +kernel
theorem dX5_set_53 : decode cX5_set 53 = .ok (.iconst 0, 1) := by decide +kernel
theorem dX5_set_54 : decode cX5_set 54 = .ok (.ireturn, 1) := by decide +kernel
theorem dX5_get_0 : decode cX5_get 0 = .ok (.iload_n 1, 1) := by decide +kernel
theorem dX5_get_1 : decode cX5_get 1 = .ok (.invokestatic 140, 3) := by decide +kernel
theorem dX5_get_4 : decode cX5_get 4 = .ok (.ifCond .eq 26, 3) := by decide +kernel
theorem dX5_get_7 : decode cX5_get 7 = .ok (.iload_n 2, 1) := by decide +kernel
theorem dX5_get_8 : decode cX5_get 8 = .ok (.i2l, 1) := by decide +kernel
theorem dX5_get_9 : decode cX5_get 9 = .ok (.lconst 0, 1) := by decide +kernel
theorem dX5_get_10 : decode cX5_get 10 = .ok (.ldc2_w 144, 3) := by decide +kernel
theorem dX5_get_13 : decode cX5_get 13 = .ok (.invokestatic 132, 3) := by decide +kernel
theorem dX5_get_16 : decode cX5_get 16 = .ok (.ifCond .eq 14, 3) := by decide +kernel
theorem dX5_get_19 : decode cX5_get 19 = .ok (.aload_n 0, 1) := by decide +kernel
theorem dX5_get_20 : decode cX5_get 20 = .ok (.getfield 9, 3) := by decide +kernel
theorem dX5_get_23 : decode cX5_get 23 = .ok (.iload_n 1, 1) := by decide +kernel
theorem dX5_get_24 : decode cX5_get 24 = .ok (.aaload, 1) := by decide +kernel
theorem dX5_get_25 : decode cX5_get 25 = .ok (.iload_n 2, 1) := by decide +kernel
theorem dX5_get_26 : decode cX5_get 26 = .ok (.iaload, 1) := by decide +kernel
theorem dX5_get_27 : decode cX5_get 27 = .ok (.goto 4, 3) := by decide +kernel
theorem dX5_get_30 : decode cX5_get 30 = .ok (.iconst 0, 1) := by decide +kernel
theorem dX5_get_31 : decode cX5_get 31 = .ok (.ireturn, 1) := by decide +kernel
theorem dX5_degreeOf_0 : decode cX5_degreeOf 0 = .ok (.bipush 8, 2) := by decide +kernel
theorem dX5_degreeOf_2 : decode cX5_degreeOf 2 = .ok (.istore_n 2, 1) := by decide +kernel
theorem dX5_degreeOf_3 : decode cX5_degreeOf 3 = .ok (.iload_n 2, 1) := by decide +kernel
theorem dX5_degreeOf_4 : decode cX5_degreeOf 4 = .ok (.ifCond .lt 20, 3) := by decide +kernel
theorem dX5_degreeOf_7 : decode cX5_degreeOf 7 = .ok (.aload_n 0, 1) := by decide +kernel
theorem dX5_degreeOf_8 : decode cX5_degreeOf 8 = .ok (.getfield 9, 3) := by decide +kernel
theorem dX5_degreeOf_11 : decode cX5_degreeOf 11 = .ok (.iload_n 1, 1) := by decide +kernel
theorem dX5_degreeOf_12 : decode cX5_degreeOf 12 = .ok (.aaload, 1) := by decide +kernel
theorem dX5_degreeOf_13 : decode cX5_degreeOf 13 = .ok (.iload_n 2, 1) := by decide +kernel
theorem dX5_degreeOf_14 : decode cX5_degreeOf 14 = .ok (.iaload, 1) := by decide +kernel
theorem dX5_degreeOf_15 : decode cX5_degreeOf 15 = .ok (.ifCond .ne 9, 3) := by decide +kernel
theorem dX5_degreeOf_18 : decode cX5_degreeOf 18 = .ok (.iinc 2 (-1), 3) := by decide +kernel
theorem dX5_degreeOf_21 : decode cX5_degreeOf 21 = .ok (.goto (-18), 3) := by decide +kernel
theorem dX5_degreeOf_24 : decode cX5_degreeOf 24 = .ok (.iload_n 2, 1) := by decide +kernel
theorem dX5_degreeOf_25 : decode cX5_degreeOf 25 = .ok (.ireturn, 1) := by decide +kernel
theorem dX5_told_0 : decode cX5_told 0 = .ok (.aload_n 0, 1) := by decide +kernel
theorem dX5_told_1 : decode cX5_told 1 = .ok (.iload_n 1, 1) := by decide +kernel
theorem dX5_told_2 : decode cX5_told 2 = .ok (.invokevirtual 153, 3) := by decide +kernel
theorem dX5_told_5 : decode cX5_told 5 = .ok (.istore_n 2, 1) := by decide +kernel
theorem dX5_told_6 : decode cX5_told 6 = .ok (.iload_n 2, 1) := by decide +kernel
theorem dX5_told_7 : decode cX5_told 7 = .ok (.ifCond .ge 8, 3) := by decide +kernel
theorem dX5_told_10 : decode cX5_told 10 = .ok (.bipush (-3), 2) := by decide +kernel
theorem dX5_told_12 : decode cX5_told 12 = .ok (.goto 4, 3) := by decide +kernel
theorem dX5_told_15 : decode cX5_told 15 = .ok (.iload_n 2, 1) := by decide +kernel
theorem dX5_told_16 : decode cX5_told 16 = .ok (.ireturn, 1) := by decide +kernel
theorem dX5_degree_0 : decode cX5_degree 0 = .ok (.iload_n 1, 1) := by decide +kernel
theorem dX5_degree_1 : decode cX5_degree 1 = .ok (.invokestatic 140, 3) := by decide +kernel
theorem dX5_degree_4 : decode cX5_degree 4 = .ok (.ifCond .eq 11, 3) := by decide +kernel
theorem dX5_degree_7 : decode cX5_degree 7 = .ok (.aload_n 0, 1) := by decide +kernel
theorem dX5_degree_8 : decode cX5_degree 8 = .ok (.iload_n 1, 1) := by decide +kernel
theorem dX5_degree_9 : decode cX5_degree 9 = .ok (.invokevirtual 156, 3) := by decide +kernel
theorem dX5_degree_12 : decode cX5_degree 12 = .ok (.goto 5, 3) := by decide +kernel
theorem dX5_degree_15 : decode cX5_degree 15 = .ok (.bipush (-2), 2) := by decide +kernel
theorem dX5_degree_17 : decode cX5_degree 17 = .ok (.ireturn, 1) := by decide +kernel
theorem dX5_sign_0 : decode cX5_sign 0 = .ok (.iload_n 1, 1) := by decide +kernel
theorem dX5_sign_1 : decode cX5_sign 1 = .ok (.invokestatic 140, 3) := by decide +kernel
theorem dX5_sign_4 : decode cX5_sign 4 = .ok (.ifCond .eq 16, 3) := by decide +kernel
theorem dX5_sign_7 : decode cX5_sign 7 = .ok (.iload 4, 2) := by decide +kernel
theorem dX5_sign_9 : decode cX5_sign 9 = .ok (.i2l, 1) := by decide +kernel
theorem dX5_sign_10 : decode cX5_sign 10 = .ok (.lconst 0, 1) := by decide +kernel
theorem dX5_sign_11 : decode cX5_sign 11 = .ok (.ldc2_w 159, 3) := by decide +kernel
theorem dX5_sign_14 : decode cX5_sign 14 = .ok (.invokestatic 132, 3) := by decide +kernel
theorem dX5_sign_17 : decode cX5_sign 17 = .ok (.ifCond .ne 6, 3) := by decide +kernel
theorem dX5_sign_20 : decode cX5_sign 20 = .ok (.bipush (-2), 2) := by decide +kernel
theorem dX5_sign_22 : decode cX5_sign 22 = .ok (.ireturn, 1) := by decide +kernel
theorem dX5_sign_23 : decode cX5_sign 23 = .ok (.aload_n 0, 1) := by decide +kernel
theorem dX5_sign_24 : decode cX5_sign 24 = .ok (.iload_n 1, 1) := by decide +kernel
theorem dX5_sign_25 : decode cX5_sign 25 = .ok (.invokevirtual 153, 3) := by decide +kernel
theorem dX5_sign_28 : decode cX5_sign 28 = .ok (.istore 5, 2) := by decide +kernel
theorem dX5_sign_30 : decode cX5_sign 30 = .ok (.iload 5, 2) := by decide +kernel
theorem dX5_sign_32 : decode cX5_sign 32 = .ok (.ifCond .ge 5, 3) := by decide +kernel
theorem dX5_sign_35 : decode cX5_sign 35 = .ok (.iconst 0, 1) := by decide +kernel
theorem dX5_sign_36 : decode cX5_sign 36 = .ok (.ireturn, 1) := by decide +kernel
theorem dX5_sign_37 : decode cX5_sign 37 = .ok (.aload_n 0, 1) := by decide +kernel
theorem dX5_sign_38 : decode cX5_sign 38 = .ok (.sipush 135, 3) := by decide +kernel
theorem dX5_sign_41 : decode cX5_sign 41 = .ok (.aload_n 0, 1) := by decide +kernel
theorem dX5_sign_42 : decode cX5_sign 42 = .ok (.getfield 9, 3) := by decide +kernel
theorem dX5_sign_45 : decode cX5_sign 45 = .ok (.iload_n 1, 1) := by decide +kernel
theorem dX5_sign_46 : decode cX5_sign 46 = .ok (.aaload, 1) := by decide +kernel
theorem dX5_sign_47 : decode cX5_sign 47 = .ok (.iload 5, 2) := by decide +kernel
theorem dX5_sign_49 : decode cX5_sign 49 = .ok (.iaload, 1) := by decide +kernel
theorem dX5_sign_50 : decode cX5_sign 50 = .ok (.i2l, 1) := by decide +kernel
theorem dX5_sign_51 : decode cX5_sign 51 = .ok (.invokevirtual 64, 3) := by decide +kernel
theorem dX5_sign_54 : decode cX5_sign 54 = .ok (.aload_n 0, 1) := by decide +kernel
theorem dX5_sign_55 : decode cX5_sign 55 = .ok (.sipush 137, 3) := by decide +kernel
theorem dX5_sign_58 : decode cX5_sign 58 = .ok (.lload_n 2, 1) := by decide +kernel
theorem dX5_sign_59 : decode cX5_sign 59 = .ok (.invokevirtual 64, 3) := by decide +kernel
theorem dX5_sign_62 : decode cX5_sign 62 = .ok (.iload 5, 2) := by decide +kernel
theorem dX5_sign_64 : decode cX5_sign 64 = .ok (.iconst 1, 1) := by decide +kernel
theorem dX5_sign_65 : decode cX5_sign 65 = .ok (.isub, 1) := by decide +kernel
theorem dX5_sign_66 : decode cX5_sign 66 = .ok (.istore 6, 2) := by decide +kernel
theorem dX5_sign_68 : decode cX5_sign 68 = .ok (.iload 6, 2) := by decide +kernel
theorem dX5_sign_70 : decode cX5_sign 70 = .ok (.ifCond .lt 68, 3) := by decide +kernel
theorem dX5_sign_73 : decode cX5_sign 73 = .ok (.aload_n 0, 1) := by decide +kernel
theorem dX5_sign_74 : decode cX5_sign 74 = .ok (.sipush 136, 3) := by decide +kernel
theorem dX5_sign_77 : decode cX5_sign 77 = .ok (.sipush 135, 3) := by decide +kernel
theorem dX5_sign_80 : decode cX5_sign 80 = .ok (.sipush 137, 3) := by decide +kernel
theorem dX5_sign_83 : decode cX5_sign 83 = .ok (.invokevirtual 88, 3) := by decide +kernel
theorem dX5_sign_86 : decode cX5_sign 86 = .ok (.aload_n 0, 1) := by decide +kernel
theorem dX5_sign_87 : decode cX5_sign 87 = .ok (.sipush 138, 3) := by decide +kernel
theorem dX5_sign_90 : decode cX5_sign 90 = .ok (.aload_n 0, 1) := by decide +kernel
theorem dX5_sign_91 : decode cX5_sign 91 = .ok (.getfield 9, 3) := by decide +kernel
theorem dX5_sign_94 : decode cX5_sign 94 = .ok (.iload_n 1, 1) := by decide +kernel
theorem dX5_sign_95 : decode cX5_sign 95 = .ok (.aaload, 1) := by decide +kernel
theorem dX5_sign_96 : decode cX5_sign 96 = .ok (.iload 6, 2) := by decide +kernel
theorem dX5_sign_98 : decode cX5_sign 98 = .ok (.iaload, 1) := by decide +kernel
theorem dX5_sign_99 : decode cX5_sign 99 = .ok (.i2l, 1) := by decide +kernel
theorem dX5_sign_100 : decode cX5_sign 100 = .ok (.invokevirtual 64, 3) := by decide +kernel
theorem dX5_sign_103 : decode cX5_sign 103 = .ok (.aload_n 0, 1) := by decide +kernel
theorem dX5_sign_104 : decode cX5_sign 104 = .ok (.sipush 138, 3) := by decide +kernel
theorem dX5_sign_107 : decode cX5_sign 107 = .ok (.iload 4, 2) := by decide +kernel
theorem dX5_sign_109 : decode cX5_sign 109 = .ok (.iload 5, 2) := by decide +kernel
theorem dX5_sign_111 : decode cX5_sign 111 = .ok (.iload 6, 2) := by decide +kernel
theorem dX5_sign_113 : decode cX5_sign 113 = .ok (.isub, 1) := by decide +kernel
theorem dX5_sign_114 : decode cX5_sign 114 = .ok (.imul, 1) := by decide +kernel
theorem dX5_sign_115 : decode cX5_sign 115 = .ok (.invokevirtual 68, 3) := by decide +kernel
theorem dX5_sign_118 : decode cX5_sign 118 = .ok (.aload_n 0, 1) := by decide +kernel
theorem dX5_sign_119 : decode cX5_sign 119 = .ok (.sipush 135, 3) := by decide +kernel
theorem dX5_sign_122 : decode cX5_sign 122 = .ok (.sipush 136, 3) := by decide +kernel
theorem dX5_sign_125 : decode cX5_sign 125 = .ok (.sipush 138, 3) := by decide +kernel
theorem dX5_sign_128 : decode cX5_sign 128 = .ok (.iconst 1, 1) := by decide +kernel
theorem dX5_sign_129 : decode cX5_sign 129 = .ok (.invokevirtual 91, 3) := by decide +kernel
theorem dX5_sign_132 : decode cX5_sign 132 = .ok (.iinc 6 (-1), 3) := by decide +kernel
theorem dX5_sign_135 : decode cX5_sign 135 = .ok (.goto (-67), 3) := by decide +kernel
theorem dX5_sign_138 : decode cX5_sign 138 = .ok (.aload_n 0, 1) := by decide +kernel
theorem dX5_sign_139 : decode cX5_sign 139 = .ok (.getfield 22, 3) := by decide +kernel
theorem dX5_sign_142 : decode cX5_sign 142 = .ok (.sipush 135, 3) := by decide +kernel
theorem dX5_sign_145 : decode cX5_sign 145 = .ok (.iaload, 1) := by decide +kernel
theorem dX5_sign_146 : decode cX5_sign 146 = .ok (.ireturn, 1) := by decide +kernel
theorem dX5_fine_0 : decode cX5_fine 0 = .ok (.lconst 1, 1) := by decide +kernel
theorem dX5_fine_1 : decode cX5_fine 1 = .ok (.bipush 30, 2) := by decide +kernel
theorem dX5_fine_3 : decode cX5_fine 3 = .ok (.iload_n 2, 1) := by decide +kernel
theorem dX5_fine_4 : decode cX5_fine 4 = .ok (.iadd, 1) := by decide +kernel
theorem dX5_fine_5 : decode cX5_fine 5 = .ok (.lshl, 1) := by decide +kernel
theorem dX5_fine_6 : decode cX5_fine 6 = .ok (.lstore_n 3, 1) := by decide +kernel
theorem dX5_fine_7 : decode cX5_fine 7 = .ok (.lload_n 0, 1) := by decide +kernel
theorem dX5_fine_8 : decode cX5_fine 8 = .ok (.lload_n 3, 1) := by decide +kernel
theorem dX5_fine_9 : decode cX5_fine 9 = .ok (.lcmp, 1) := by decide +kernel
theorem dX5_fine_10 : decode cX5_fine 10 = .ok (.ifCond .le 7, 3) := by decide +kernel
theorem dX5_fine_13 : decode cX5_fine 13 = .ok (.lload_n 3, 1) := by decide +kernel
theorem dX5_fine_14 : decode cX5_fine 14 = .ok (.goto 16, 3) := by decide +kernel
theorem dX5_fine_17 : decode cX5_fine 17 = .ok (.lload_n 0, 1) := by decide +kernel
theorem dX5_fine_18 : decode cX5_fine 18 = .ok (.lload_n 3, 1) := by decide +kernel
theorem dX5_fine_19 : decode cX5_fine 19 = .ok (.lneg, 1) := by decide +kernel
theorem dX5_fine_20 : decode cX5_fine 20 = .ok (.lcmp, 1) := by decide +kernel
theorem dX5_fine_21 : decode cX5_fine 21 = .ok (.ifCond .ge 8, 3) := by decide +kernel
theorem dX5_fine_24 : decode cX5_fine 24 = .ok (.lload_n 3, 1) := by decide +kernel
theorem dX5_fine_25 : decode cX5_fine 25 = .ok (.lneg, 1) := by decide +kernel
theorem dX5_fine_26 : decode cX5_fine 26 = .ok (.goto 4, 3) := by decide +kernel
theorem dX5_fine_29 : decode cX5_fine 29 = .ok (.lload_n 0, 1) := by decide +kernel
theorem dX5_fine_30 : decode cX5_fine 30 = .ok (.lstore 5, 2) := by decide +kernel
theorem dX5_fine_32 : decode cX5_fine 32 = .ok (.lload 5, 2) := by decide +kernel
theorem dX5_fine_34 : decode cX5_fine 34 = .ok (.bipush 30, 2) := by decide +kernel
theorem dX5_fine_36 : decode cX5_fine 36 = .ok (.iload_n 2, 1) := by decide +kernel
theorem dX5_fine_37 : decode cX5_fine 37 = .ok (.isub, 1) := by decide +kernel
theorem dX5_fine_38 : decode cX5_fine 38 = .ok (.lshl, 1) := by decide +kernel
theorem dX5_fine_39 : decode cX5_fine 39 = .ok (.lreturn, 1) := by decide +kernel
theorem dX5_between__0 : decode cX5_between_ 0 = .ok (.iload_n 1, 1) := by decide +kernel
theorem dX5_between__1 : decode cX5_between_ 1 = .ok (.invokestatic 140, 3) := by decide +kernel
theorem dX5_between__4 : decode cX5_between_ 4 = .ok (.ifCond .eq 29, 3) := by decide +kernel
theorem dX5_between__7 : decode cX5_between_ 7 = .ok (.iload 4, 2) := by decide +kernel
theorem dX5_between__9 : decode cX5_between_ 9 = .ok (.i2l, 1) := by decide +kernel
theorem dX5_between__10 : decode cX5_between_ 10 = .ok (.lconst 0, 1) := by decide +kernel
theorem dX5_between__11 : decode cX5_between_ 11 = .ok (.ldc2_w 159, 3) := by decide +kernel
theorem dX5_between__14 : decode cX5_between_ 14 = .ok (.invokestatic 132, 3) := by decide +kernel
theorem dX5_between__17 : decode cX5_between_ 17 = .ok (.ifCond .eq 16, 3) := by decide +kernel
theorem dX5_between__20 : decode cX5_between_ 20 = .ok (.iload 7, 2) := by decide +kernel
theorem dX5_between__22 : decode cX5_between_ 22 = .ok (.i2l, 1) := by decide +kernel
theorem dX5_between__23 : decode cX5_between_ 23 = .ok (.lconst 0, 1) := by decide +kernel
theorem dX5_between__24 : decode cX5_between_ 24 = .ok (.ldc2_w 159, 3) := by decide +kernel
theorem dX5_between__27 : decode cX5_between_ 27 = .ok (.invokestatic 132, 3) := by decide +kernel
theorem dX5_between__30 : decode cX5_between_ 30 = .ok (.ifCond .ne 6, 3) := by decide +kernel
theorem dX5_between__33 : decode cX5_between_ 33 = .ok (.bipush (-2), 2) := by decide +kernel
theorem dX5_between__35 : decode cX5_between_ 35 = .ok (.ireturn, 1) := by decide +kernel
theorem dX5_between__36 : decode cX5_between_ 36 = .ok (.aload_n 0, 1) := by decide +kernel
theorem dX5_between__37 : decode cX5_between_ 37 = .ok (.iload_n 1, 1) := by decide +kernel
theorem dX5_between__38 : decode cX5_between_ 38 = .ok (.invokevirtual 153, 3) := by decide +kernel
theorem dX5_between__41 : decode cX5_between_ 41 = .ok (.ifCond .ge 6, 3) := by decide +kernel
theorem dX5_between__44 : decode cX5_between_ 44 = .ok (.bipush (-3), 2) := by decide +kernel
theorem dX5_between__46 : decode cX5_between_ 46 = .ok (.ireturn, 1) := by decide +kernel
theorem dX5_between__47 : decode cX5_between_ 47 = .ok (.lload_n 2, 1) := by decide +kernel
theorem dX5_between__48 : decode cX5_between_ 48 = .ok (.iload 4, 2) := by decide +kernel
theorem dX5_between__50 : decode cX5_between_ 50 = .ok (.invokestatic 161, 3) := by decide +kernel
theorem dX5_between__53 : decode cX5_between_ 53 = .ok (.lstore 8, 2) := by decide +kernel
theorem dX5_between__55 : decode cX5_between_ 55 = .ok (.lload 5, 2) := by decide +kernel
theorem dX5_between__57 : decode cX5_between_ 57 = .ok (.iload 7, 2) := by decide +kernel
theorem dX5_between__59 : decode cX5_between_ 59 = .ok (.invokestatic 161, 3) := by decide +kernel
theorem dX5_between__62 : decode cX5_between_ 62 = .ok (.lstore 10, 2) := by decide +kernel
theorem dX5_between__64 : decode cX5_between_ 64 = .ok (.lload 10, 2) := by decide +kernel
theorem dX5_between__66 : decode cX5_between_ 66 = .ok (.lload 8, 2) := by decide +kernel
theorem dX5_between__68 : decode cX5_between_ 68 = .ok (.lcmp, 1) := by decide +kernel
theorem dX5_between__69 : decode cX5_between_ 69 = .ok (.ifCond .gt 5, 3) := by decide +kernel
theorem dX5_between__72 : decode cX5_between_ 72 = .ok (.iconst 0, 1) := by decide +kernel
theorem dX5_between__73 : decode cX5_between_ 73 = .ok (.ireturn, 1) := by decide +kernel
theorem dX5_between__74 : decode cX5_between_ 74 = .ok (.aload_n 0, 1) := by decide +kernel
theorem dX5_between__75 : decode cX5_between_ 75 = .ok (.iconst 0, 1) := by decide +kernel
theorem dX5_between__76 : decode cX5_between_ 76 = .ok (.iload_n 1, 1) := by decide +kernel
theorem dX5_between__77 : decode cX5_between_ 77 = .ok (.invokevirtual 165, 3) := by decide +kernel
theorem dX5_between__80 : decode cX5_between_ 80 = .ok (.aload_n 0, 1) := by decide +kernel
theorem dX5_between__81 : decode cX5_between_ 81 = .ok (.iconst 5, 1) := by decide +kernel
theorem dX5_between__82 : decode cX5_between_ 82 = .ok (.iconst 0, 1) := by decide +kernel
theorem dX5_between__83 : decode cX5_between_ 83 = .ok (.invokevirtual 168, 3) := by decide +kernel
theorem dX5_between__86 : decode cX5_between_ 86 = .ok (.aload_n 0, 1) := by decide +kernel
theorem dX5_between__87 : decode cX5_between_ 87 = .ok (.bipush 8, 2) := by decide +kernel
theorem dX5_between__89 : decode cX5_between_ 89 = .ok (.iconst 5, 1) := by decide +kernel
theorem dX5_between__90 : decode cX5_between_ 90 = .ok (.lload 8, 2) := by decide +kernel
theorem dX5_between__92 : decode cX5_between_ 92 = .ok (.lload 10, 2) := by decide +kernel
theorem dX5_between__94 : decode cX5_between_ 94 = .ok (.lload 8, 2) := by decide +kernel
theorem dX5_between__96 : decode cX5_between_ 96 = .ok (.lsub, 1) := by decide +kernel
theorem dX5_between__97 : decode cX5_between_ 97 = .ok (.invokevirtual 171, 3) := by decide +kernel
theorem dX5_between__100 : decode cX5_between_ 100 = .ok (.aload_n 0, 1) := by decide +kernel
theorem dX5_between__101 : decode cX5_between_ 101 = .ok (.bipush 8, 2) := by decide +kernel
theorem dX5_between__103 : decode cX5_between_ 103 = .ok (.invokevirtual 175, 3) := by decide +kernel
theorem dX5_between__106 : decode cX5_between_ 106 = .ok (.ireturn, 1) := by decide +kernel
theorem dX5_roots_0 : decode cX5_roots 0 = .ok (.aload_n 0, 1) := by decide +kernel
theorem dX5_roots_1 : decode cX5_roots 1 = .ok (.iload_n 1, 1) := by decide +kernel
theorem dX5_roots_2 : decode cX5_roots 2 = .ok (.ldc2_w 180, 3) := by decide +kernel
theorem dX5_roots_5 : decode cX5_roots 5 = .ok (.iconst 0, 1) := by decide +kernel
theorem dX5_roots_6 : decode cX5_roots 6 = .ok (.ldc2_w 182, 3) := by decide +kernel
theorem dX5_roots_9 : decode cX5_roots 9 = .ok (.iconst 0, 1) := by decide +kernel
theorem dX5_roots_10 : decode cX5_roots 10 = .ok (.invokevirtual 184, 3) := by decide +kernel
theorem dX5_roots_13 : decode cX5_roots 13 = .ok (.ireturn, 1) := by decide +kernel
theorem dX5_isolate_0 : decode cX5_isolate 0 = .ok (.iload_n 1, 1) := by decide +kernel
theorem dX5_isolate_1 : decode cX5_isolate 1 = .ok (.i2l, 1) := by decide +kernel
theorem dX5_isolate_2 : decode cX5_isolate 2 = .ok (.lconst 0, 1) := by decide +kernel
theorem dX5_isolate_3 : decode cX5_isolate 3 = .ok (.ldc2_w 159, 3) := by decide +kernel
theorem dX5_isolate_6 : decode cX5_isolate 6 = .ok (.invokestatic 132, 3) := by decide +kernel
theorem dX5_isolate_9 : decode cX5_isolate 9 = .ok (.ifCond .ne 6, 3) := by decide +kernel
theorem dX5_isolate_12 : decode cX5_isolate 12 = .ok (.bipush (-2), 2) := by decide +kernel
theorem dX5_isolate_14 : decode cX5_isolate 14 = .ok (.ireturn, 1) := by decide +kernel
theorem dX5_isolate_15 : decode cX5_isolate 15 = .ok (.aload_n 0, 1) := by decide +kernel
theorem dX5_isolate_16 : decode cX5_isolate 16 = .ok (.invokevirtual 150, 3) := by decide +kernel
theorem dX5_isolate_19 : decode cX5_isolate 19 = .ok (.aload_n 0, 1) := by decide +kernel
theorem dX5_isolate_20 : decode cX5_isolate 20 = .ok (.iconst 0, 1) := by decide +kernel
theorem dX5_isolate_21 : decode cX5_isolate 21 = .ok (.invokevirtual 153, 3) := by decide +kernel
theorem dX5_isolate_24 : decode cX5_isolate 24 = .ok (.ifCond .ge 6, 3) := by decide +kernel
theorem dX5_isolate_27 : decode cX5_isolate 27 = .ok (.bipush (-3), 2) := by decide +kernel
theorem dX5_isolate_29 : decode cX5_isolate 29 = .ok (.ireturn, 1) := by decide +kernel
theorem dX5_isolate_30 : decode cX5_isolate 30 = .ok (.aload_n 0, 1) := by decide +kernel
theorem dX5_isolate_31 : decode cX5_isolate 31 = .ok (.iconst 0, 1) := by decide +kernel
theorem dX5_isolate_32 : decode cX5_isolate 32 = .ok (.iconst 0, 1) := by decide +kernel
theorem dX5_isolate_33 : decode cX5_isolate 33 = .ok (.invokevirtual 165, 3) := by decide +kernel
theorem dX5_isolate_36 : decode cX5_isolate 36 = .ok (.aload_n 0, 1) := by decide +kernel
theorem dX5_isolate_37 : decode cX5_isolate 37 = .ok (.iconst 5, 1) := by decide +kernel
theorem dX5_isolate_38 : decode cX5_isolate 38 = .ok (.iconst 0, 1) := by decide +kernel
theorem dX5_isolate_39 : decode cX5_isolate 39 = .ok (.invokevirtual 168, 3) := by decide +kernel
theorem dX5_isolate_42 : decode cX5_isolate 42 = .ok (.aload_n 0, 1) := by decide +kernel
theorem dX5_isolate_43 : decode cX5_isolate 43 = .ok (.bipush 8, 2) := by decide +kernel
theorem dX5_isolate_45 : decode cX5_isolate 45 = .ok (.iconst 5, 1) := by decide +kernel
theorem dX5_isolate_46 : decode cX5_isolate 46 = .ok (.ldc2_w 187, 3) := by decide +kernel
theorem dX5_isolate_49 : decode cX5_isolate 49 = .ok (.ldc2_w 189, 3) := by decide +kernel
theorem dX5_isolate_52 : decode cX5_isolate 52 = .ok (.invokevirtual 171, 3) := by decide +kernel
theorem dX5_isolate_55 : decode cX5_isolate 55 = .ok (.iconst 0, 1) := by decide +kernel
theorem dX5_isolate_56 : decode cX5_isolate 56 = .ok (.istore_n 2, 1) := by decide +kernel
theorem dX5_isolate_57 : decode cX5_isolate 57 = .ok (.lconst 0, 1) := by decide +kernel
theorem dX5_isolate_58 : decode cX5_isolate 58 = .ok (.lstore_n 3, 1) := by decide +kernel
theorem dX5_isolate_59 : decode cX5_isolate 59 = .ok (.iconst 1, 1) := by decide +kernel
theorem dX5_isolate_60 : decode cX5_isolate 60 = .ok (.istore 5, 2) := by decide +kernel
theorem dX5_isolate_62 : decode cX5_isolate 62 = .ok (.iload 5, 2) := by decide +kernel
theorem dX5_isolate_64 : decode cX5_isolate 64 = .ok (.ifCond .eq 185, 3) := by decide +kernel
theorem dX5_isolate_67 : decode cX5_isolate 67 = .ok (.aload_n 0, 1) := by decide +kernel
theorem dX5_isolate_68 : decode cX5_isolate 68 = .ok (.bipush 8, 2) := by decide +kernel
theorem dX5_isolate_70 : decode cX5_isolate 70 = .ok (.invokevirtual 175, 3) := by decide +kernel
theorem dX5_isolate_73 : decode cX5_isolate 73 = .ok (.istore 6, 2) := by decide +kernel
theorem dX5_isolate_75 : decode cX5_isolate 75 = .ok (.iload_n 2, 1) := by decide +kernel
theorem dX5_isolate_76 : decode cX5_isolate 76 = .ok (.bipush 31, 2) := by decide +kernel
theorem dX5_isolate_78 : decode cX5_isolate 78 = .ok (.isub, 1) := by decide +kernel
theorem dX5_isolate_79 : decode cX5_isolate 79 = .ok (.istore 7, 2) := by decide +kernel
theorem dX5_isolate_81 : decode cX5_isolate 81 = .ok (.iload 6, 2) := by decide +kernel
theorem dX5_isolate_83 : decode cX5_isolate 83 = .ok (.iconst 1, 1) := by decide +kernel
theorem dX5_isolate_84 : decode cX5_isolate 84 = .ok (.if_icmp .ne 13, 3) := by decide +kernel
theorem dX5_isolate_87 : decode cX5_isolate 87 = .ok (.iload 7, 2) := by decide +kernel
theorem dX5_isolate_89 : decode cX5_isolate 89 = .ok (.iload_n 1, 1) := by decide +kernel
theorem dX5_isolate_90 : decode cX5_isolate 90 = .ok (.if_icmp .lt 7, 3) := by decide +kernel
theorem dX5_isolate_93 : decode cX5_isolate 93 = .ok (.iconst 1, 1) := by decide +kernel
theorem dX5_isolate_94 : decode cX5_isolate 94 = .ok (.goto 4, 3) := by decide +kernel
theorem dX5_isolate_97 : decode cX5_isolate 97 = .ok (.iconst 0, 1) := by decide +kernel
theorem dX5_isolate_98 : decode cX5_isolate 98 = .ok (.istore 8, 2) := by decide +kernel
theorem dX5_isolate_100 : decode cX5_isolate 100 = .ok (.iload 6, 2) := by decide +kernel
theorem dX5_isolate_102 : decode cX5_isolate 102 = .ok (.ifCond .le 23, 3) := by decide +kernel
theorem dX5_isolate_105 : decode cX5_isolate 105 = .ok (.iload 8, 2) := by decide +kernel
theorem dX5_isolate_107 : decode cX5_isolate 107 = .ok (.ifCond .ne 18, 3) := by decide +kernel
theorem dX5_isolate_110 : decode cX5_isolate 110 = .ok (.iload 7, 2) := by decide +kernel
theorem dX5_isolate_112 : decode cX5_isolate 112 = .ok (.bipush 30, 2) := by decide +kernel
theorem dX5_isolate_114 : decode cX5_isolate 114 = .ok (.if_icmp .ne 11, 3) := by decide +kernel
theorem dX5_isolate_117 : decode cX5_isolate 117 = .ok (.aload_n 0, 1) := by decide +kernel
theorem dX5_isolate_118 : decode cX5_isolate 118 = .ok (.iconst 0, 1) := by decide +kernel
theorem dX5_isolate_119 : decode cX5_isolate 119 = .ok (.putfield 39, 3) := by decide +kernel
theorem dX5_isolate_122 : decode cX5_isolate 122 = .ok (.bipush (-4), 2) := by decide +kernel
theorem dX5_isolate_124 : decode cX5_isolate 124 = .ok (.ireturn, 1) := by decide +kernel
theorem dX5_isolate_125 : decode cX5_isolate 125 = .ok (.iload 6, 2) := by decide +kernel
theorem dX5_isolate_127 : decode cX5_isolate 127 = .ok (.ifCond .le 26, 3) := by decide +kernel
theorem dX5_isolate_130 : decode cX5_isolate 130 = .ok (.iload 8, 2) := by decide +kernel
theorem dX5_isolate_132 : decode cX5_isolate 132 = .ok (.ifCond .ne 21, 3) := by decide +kernel
theorem dX5_isolate_135 : decode cX5_isolate 135 = .ok (.aload_n 0, 1) := by decide +kernel
theorem dX5_isolate_136 : decode cX5_isolate 136 = .ok (.bipush 8, 2) := by decide +kernel
theorem dX5_isolate_138 : decode cX5_isolate 138 = .ok (.invokevirtual 120, 3) := by decide +kernel
theorem dX5_isolate_141 : decode cX5_isolate 141 = .ok (.iinc 2 1, 3) := by decide +kernel
theorem dX5_isolate_144 : decode cX5_isolate 144 = .ok (.ldc2_w 191, 3) := by decide +kernel
theorem dX5_isolate_147 : decode cX5_isolate 147 = .ok (.lload_n 3, 1) := by decide +kernel
theorem dX5_isolate_148 : decode cX5_isolate 148 = .ok (.lmul, 1) := by decide +kernel
theorem dX5_isolate_149 : decode cX5_isolate 149 = .ok (.lstore_n 3, 1) := by decide +kernel
theorem dX5_isolate_150 : decode cX5_isolate 150 = .ok (.goto 96, 3) := by decide +kernel
theorem dX5_isolate_153 : decode cX5_isolate 153 = .ok (.iload 8, 2) := by decide +kernel
theorem dX5_isolate_155 : decode cX5_isolate 155 = .ok (.ifCond .eq 42, 3) := by decide +kernel
theorem dX5_isolate_158 : decode cX5_isolate 158 = .ok (.aload_n 0, 1) := by decide +kernel
theorem dX5_isolate_159 : decode cX5_isolate 159 = .ok (.getfield 28, 3) := by decide +kernel
theorem dX5_isolate_162 : decode cX5_isolate 162 = .ok (.aload_n 0, 1) := by decide +kernel
theorem dX5_isolate_163 : decode cX5_isolate 163 = .ok (.getfield 39, 3) := by decide +kernel
theorem dX5_isolate_166 : decode cX5_isolate 166 = .ok (.iload 7, 2) := by decide +kernel
theorem dX5_isolate_168 : decode cX5_isolate 168 = .ok (.iastore, 1) := by decide +kernel
theorem dX5_isolate_169 : decode cX5_isolate 169 = .ok (.aload_n 0, 1) := by decide +kernel
theorem dX5_isolate_170 : decode cX5_isolate 170 = .ok (.getfield 31, 3) := by decide +kernel
theorem dX5_isolate_173 : decode cX5_isolate 173 = .ok (.aload_n 0, 1) := by decide +kernel
theorem dX5_isolate_174 : decode cX5_isolate 174 = .ok (.getfield 39, 3) := by decide +kernel
theorem dX5_isolate_177 : decode cX5_isolate 177 = .ok (.lload_n 3, 1) := by decide +kernel
theorem dX5_isolate_178 : decode cX5_isolate 178 = .ok (.lconst 1, 1) := by decide +kernel
theorem dX5_isolate_179 : decode cX5_isolate 179 = .ok (.bipush 30, 2) := by decide +kernel
theorem dX5_isolate_181 : decode cX5_isolate 181 = .ok (.iload 7, 2) := by decide +kernel
theorem dX5_isolate_183 : decode cX5_isolate 183 = .ok (.iadd, 1) := by decide +kernel
theorem dX5_isolate_184 : decode cX5_isolate 184 = .ok (.lshl, 1) := by decide +kernel
theorem dX5_isolate_185 : decode cX5_isolate 185 = .ok (.lsub, 1) := by decide +kernel
theorem dX5_isolate_186 : decode cX5_isolate 186 = .ok (.lastore, 1) := by decide +kernel
theorem dX5_isolate_187 : decode cX5_isolate 187 = .ok (.aload_n 0, 1) := by decide +kernel
theorem dX5_isolate_188 : decode cX5_isolate 188 = .ok (.dup, 1) := by decide +kernel
theorem dX5_isolate_189 : decode cX5_isolate 189 = .ok (.getfield 39, 3) := by decide +kernel
theorem dX5_isolate_192 : decode cX5_isolate 192 = .ok (.iconst 1, 1) := by decide +kernel
theorem dX5_isolate_193 : decode cX5_isolate 193 = .ok (.iadd, 1) := by decide +kernel
theorem dX5_isolate_194 : decode cX5_isolate 194 = .ok (.putfield 39, 3) := by decide +kernel
theorem dX5_isolate_197 : decode cX5_isolate 197 = .ok (.aload_n 0, 1) := by decide +kernel
theorem dX5_isolate_198 : decode cX5_isolate 198 = .ok (.bipush 8, 2) := by decide +kernel
theorem dX5_isolate_200 : decode cX5_isolate 200 = .ok (.invokevirtual 113, 3) := by decide +kernel
theorem dX5_isolate_203 : decode cX5_isolate 203 = .ok (.iload_n 2, 1) := by decide +kernel
theorem dX5_isolate_204 : decode cX5_isolate 204 = .ok (.ifCond .le 27, 3) := by decide +kernel
theorem dX5_isolate_207 : decode cX5_isolate 207 = .ok (.lload_n 3, 1) := by decide +kernel
theorem dX5_isolate_208 : decode cX5_isolate 208 = .ok (.lconst 1, 1) := by decide +kernel
theorem dX5_isolate_209 : decode cX5_isolate 209 = .ok (.land, 1) := by decide +kernel
theorem dX5_isolate_210 : decode cX5_isolate 210 = .ok (.lconst 1, 1) := by decide +kernel
theorem dX5_isolate_211 : decode cX5_isolate 211 = .ok (.lcmp, 1) := by decide +kernel
theorem dX5_isolate_212 : decode cX5_isolate 212 = .ok (.ifCond .ne 19, 3) := by decide +kernel
theorem dX5_isolate_215 : decode cX5_isolate 215 = .ok (.aload_n 0, 1) := by decide +kernel
theorem dX5_isolate_216 : decode cX5_isolate 216 = .ok (.bipush 8, 2) := by decide +kernel
theorem dX5_isolate_218 : decode cX5_isolate 218 = .ok (.invokevirtual 123, 3) := by decide +kernel
theorem dX5_isolate_221 : decode cX5_isolate 221 = .ok (.iinc 2 (-1), 3) := by decide +kernel
theorem dX5_isolate_224 : decode cX5_isolate 224 = .ok (.lload_n 3, 1) := by decide +kernel
theorem dX5_isolate_225 : decode cX5_isolate 225 = .ok (.iconst 1, 1) := by decide +kernel
theorem dX5_isolate_226 : decode cX5_isolate 226 = .ok (.lshr, 1) := by decide +kernel
theorem dX5_isolate_227 : decode cX5_isolate 227 = .ok (.lstore_n 3, 1) := by decide +kernel
theorem dX5_isolate_228 : decode cX5_isolate 228 = .ok (.goto (-25), 3) := by decide +kernel
theorem dX5_isolate_231 : decode cX5_isolate 231 = .ok (.iload_n 2, 1) := by decide +kernel
theorem dX5_isolate_232 : decode cX5_isolate 232 = .ok (.ifCond .le 7, 3) := by decide +kernel
theorem dX5_isolate_235 : decode cX5_isolate 235 = .ok (.iconst 1, 1) := by decide +kernel
theorem dX5_isolate_236 : decode cX5_isolate 236 = .ok (.goto 4, 3) := by decide +kernel
theorem dX5_isolate_239 : decode cX5_isolate 239 = .ok (.iconst 0, 1) := by decide +kernel
theorem dX5_isolate_240 : decode cX5_isolate 240 = .ok (.istore 5, 2) := by decide +kernel
theorem dX5_isolate_242 : decode cX5_isolate 242 = .ok (.lload_n 3, 1) := by decide +kernel
theorem dX5_isolate_243 : decode cX5_isolate 243 = .ok (.lconst 1, 1) := by decide +kernel
theorem dX5_isolate_244 : decode cX5_isolate 244 = .ok (.lor, 1) := by decide +kernel
theorem dX5_isolate_245 : decode cX5_isolate 245 = .ok (.lstore_n 3, 1) := by decide +kernel
theorem dX5_isolate_246 : decode cX5_isolate 246 = .ok (.goto (-184), 3) := by decide +kernel
theorem dX5_isolate_249 : decode cX5_isolate 249 = .ok (.aload_n 0, 1) := by decide +kernel
theorem dX5_isolate_250 : decode cX5_isolate 250 = .ok (.iconst 1, 1) := by decide +kernel
theorem dX5_isolate_251 : decode cX5_isolate 251 = .ok (.putfield 136, 3) := by decide +kernel
theorem dX5_isolate_254 : decode cX5_isolate 254 = .ok (.aload_n 0, 1) := by decide +kernel
theorem dX5_isolate_255 : decode cX5_isolate 255 = .ok (.getfield 39, 3) := by decide +kernel
theorem dX5_isolate_258 : decode cX5_isolate 258 = .ok (.ireturn, 1) := by decide +kernel
theorem dX5_isRoot_0 : decode cX5_isRoot 0 = .ok (.aload_n 0, 1) := by decide +kernel
theorem dX5_isRoot_1 : decode cX5_isRoot 1 = .ok (.getfield 136, 3) := by decide +kernel
theorem dX5_isRoot_4 : decode cX5_isRoot 4 = .ok (.ifCond .eq 23, 3) := by decide +kernel
theorem dX5_isRoot_7 : decode cX5_isRoot 7 = .ok (.iload_n 1, 1) := by decide +kernel
theorem dX5_isRoot_8 : decode cX5_isRoot 8 = .ok (.i2l, 1) := by decide +kernel
theorem dX5_isRoot_9 : decode cX5_isRoot 9 = .ok (.lconst 0, 1) := by decide +kernel
theorem dX5_isRoot_10 : decode cX5_isRoot 10 = .ok (.aload_n 0, 1) := by decide +kernel
theorem dX5_isRoot_11 : decode cX5_isRoot 11 = .ok (.getfield 39, 3) := by decide +kernel
theorem dX5_isRoot_14 : decode cX5_isRoot 14 = .ok (.iconst 1, 1) := by decide +kernel
theorem dX5_isRoot_15 : decode cX5_isRoot 15 = .ok (.isub, 1) := by decide +kernel
theorem dX5_isRoot_16 : decode cX5_isRoot 16 = .ok (.i2l, 1) := by decide +kernel
theorem dX5_isRoot_17 : decode cX5_isRoot 17 = .ok (.invokestatic 132, 3) := by decide +kernel
theorem dX5_isRoot_20 : decode cX5_isRoot 20 = .ok (.ifCond .eq 7, 3) := by decide +kernel
theorem dX5_isRoot_23 : decode cX5_isRoot 23 = .ok (.iconst 1, 1) := by decide +kernel
theorem dX5_isRoot_24 : decode cX5_isRoot 24 = .ok (.goto 4, 3) := by decide +kernel
theorem dX5_isRoot_27 : decode cX5_isRoot 27 = .ok (.iconst 0, 1) := by decide +kernel
theorem dX5_isRoot_28 : decode cX5_isRoot 28 = .ok (.ireturn, 1) := by decide +kernel
theorem dX5_level_0 : decode cX5_level 0 = .ok (.aload_n 0, 1) := by decide +kernel
theorem dX5_level_1 : decode cX5_level 1 = .ok (.iload_n 1, 1) := by decide +kernel
theorem dX5_level_2 : decode cX5_level 2 = .ok (.invokevirtual 193, 3) := by decide +kernel
theorem dX5_level_5 : decode cX5_level 5 = .ok (.ifCond .eq 12, 3) := by decide +kernel
theorem dX5_level_8 : decode cX5_level 8 = .ok (.aload_n 0, 1) := by decide +kernel
theorem dX5_level_9 : decode cX5_level 9 = .ok (.getfield 28, 3) := by decide +kernel
theorem dX5_level_12 : decode cX5_level 12 = .ok (.iload_n 1, 1) := by decide +kernel
theorem dX5_level_13 : decode cX5_level 13 = .ok (.iaload, 1) := by decide +kernel
theorem dX5_level_14 : decode cX5_level 14 = .ok (.goto 4, 3) := by decide +kernel
theorem dX5_level_17 : decode cX5_level 17 = .ok (.iconst (-1), 1) := by decide +kernel
theorem dX5_level_18 : decode cX5_level 18 = .ok (.ireturn, 1) := by decide +kernel
theorem dX5_cell_0 : decode cX5_cell 0 = .ok (.aload_n 0, 1) := by decide +kernel
theorem dX5_cell_1 : decode cX5_cell 1 = .ok (.iload_n 1, 1) := by decide +kernel
theorem dX5_cell_2 : decode cX5_cell 2 = .ok (.invokevirtual 193, 3) := by decide +kernel
theorem dX5_cell_5 : decode cX5_cell 5 = .ok (.ifCond .eq 12, 3) := by decide +kernel
theorem dX5_cell_8 : decode cX5_cell 8 = .ok (.aload_n 0, 1) := by decide +kernel
theorem dX5_cell_9 : decode cX5_cell 9 = .ok (.getfield 31, 3) := by decide +kernel
theorem dX5_cell_12 : decode cX5_cell 12 = .ok (.iload_n 1, 1) := by decide +kernel
theorem dX5_cell_13 : decode cX5_cell 13 = .ok (.laload, 1) := by decide +kernel
theorem dX5_cell_14 : decode cX5_cell 14 = .ok (.goto 4, 3) := by decide +kernel
theorem dX5_cell_17 : decode cX5_cell 17 = .ok (.lconst 0, 1) := by decide +kernel
theorem dX5_cell_18 : decode cX5_cell 18 = .ok (.lreturn, 1) := by decide +kernel
theorem dX5_exact_0 : decode cX5_exact 0 = .ok (.aload_n 0, 1) := by decide +kernel
theorem dX5_exact_1 : decode cX5_exact 1 = .ok (.iload_n 1, 1) := by decide +kernel
theorem dX5_exact_2 : decode cX5_exact 2 = .ok (.invokevirtual 193, 3) := by decide +kernel
theorem dX5_exact_5 : decode cX5_exact 5 = .ok (.ifCond .ne 5, 3) := by decide +kernel
theorem dX5_exact_8 : decode cX5_exact 8 = .ok (.iconst (-1), 1) := by decide +kernel
theorem dX5_exact_9 : decode cX5_exact 9 = .ok (.ireturn, 1) := by decide +kernel
theorem dX5_exact_10 : decode cX5_exact 10 = .ok (.aload_n 0, 1) := by decide +kernel
theorem dX5_exact_11 : decode cX5_exact 11 = .ok (.iconst 0, 1) := by decide +kernel
theorem dX5_exact_12 : decode cX5_exact 12 = .ok (.aload_n 0, 1) := by decide +kernel
theorem dX5_exact_13 : decode cX5_exact 13 = .ok (.getfield 31, 3) := by decide +kernel
theorem dX5_exact_16 : decode cX5_exact 16 = .ok (.iload_n 1, 1) := by decide +kernel
theorem dX5_exact_17 : decode cX5_exact 17 = .ok (.laload, 1) := by decide +kernel
theorem dX5_exact_18 : decode cX5_exact 18 = .ok (.lconst 1, 1) := by decide +kernel
theorem dX5_exact_19 : decode cX5_exact 19 = .ok (.ladd, 1) := by decide +kernel
theorem dX5_exact_20 : decode cX5_exact 20 = .ok (.aload_n 0, 1) := by decide +kernel
theorem dX5_exact_21 : decode cX5_exact 21 = .ok (.getfield 28, 3) := by decide +kernel
theorem dX5_exact_24 : decode cX5_exact 24 = .ok (.iload_n 1, 1) := by decide +kernel
theorem dX5_exact_25 : decode cX5_exact 25 = .ok (.iaload, 1) := by decide +kernel
theorem dX5_exact_26 : decode cX5_exact 26 = .ok (.invokevirtual 196, 3) := by decide +kernel
theorem dX5_exact_29 : decode cX5_exact 29 = .ok (.ifCond .ne 7, 3) := by decide +kernel
theorem dX5_exact_32 : decode cX5_exact 32 = .ok (.iconst 1, 1) := by decide +kernel
theorem dX5_exact_33 : decode cX5_exact 33 = .ok (.goto 4, 3) := by decide +kernel
theorem dX5_exact_36 : decode cX5_exact 36 = .ok (.iconst 0, 1) := by decide +kernel
theorem dX5_exact_37 : decode cX5_exact 37 = .ok (.ireturn, 1) := by decide +kernel
theorem dX5_moveTo_0 : decode cX5_moveTo 0 = .ok (.bipush 30, 2) := by decide +kernel
theorem dX5_moveTo_2 : decode cX5_moveTo 2 = .ok (.aload_n 0, 1) := by decide +kernel
theorem dX5_moveTo_3 : decode cX5_moveTo 3 = .ok (.getfield 28, 3) := by decide +kernel
theorem dX5_moveTo_6 : decode cX5_moveTo 6 = .ok (.iload_n 3, 1) := by decide +kernel
theorem dX5_moveTo_7 : decode cX5_moveTo 7 = .ok (.iaload, 1) := by decide +kernel
theorem dX5_moveTo_8 : decode cX5_moveTo 8 = .ok (.isub, 1) := by decide +kernel
theorem dX5_moveTo_9 : decode cX5_moveTo 9 = .ok (.istore 4, 2) := by decide +kernel
theorem dX5_moveTo_11 : decode cX5_moveTo 11 = .ok (.aload_n 0, 1) := by decide +kernel
theorem dX5_moveTo_12 : decode cX5_moveTo 12 = .ok (.iload_n 1, 1) := by decide +kernel
theorem dX5_moveTo_13 : decode cX5_moveTo 13 = .ok (.iload_n 2, 1) := by decide +kernel
theorem dX5_moveTo_14 : decode cX5_moveTo 14 = .ok (.aload_n 0, 1) := by decide +kernel
theorem dX5_moveTo_15 : decode cX5_moveTo 15 = .ok (.getfield 31, 3) := by decide +kernel
theorem dX5_moveTo_18 : decode cX5_moveTo 18 = .ok (.iload_n 3, 1) := by decide +kernel
theorem dX5_moveTo_19 : decode cX5_moveTo 19 = .ok (.laload, 1) := by decide +kernel
theorem dX5_moveTo_20 : decode cX5_moveTo 20 = .ok (.iload 4, 2) := by decide +kernel
theorem dX5_moveTo_22 : decode cX5_moveTo 22 = .ok (.lshl, 1) := by decide +kernel
theorem dX5_moveTo_23 : decode cX5_moveTo 23 = .ok (.lconst 1, 1) := by decide +kernel
theorem dX5_moveTo_24 : decode cX5_moveTo 24 = .ok (.iload 4, 2) := by decide +kernel
theorem dX5_moveTo_26 : decode cX5_moveTo 26 = .ok (.lshl, 1) := by decide +kernel
theorem dX5_moveTo_27 : decode cX5_moveTo 27 = .ok (.invokevirtual 171, 3) := by decide +kernel
theorem dX5_moveTo_30 : decode cX5_moveTo 30 = .ok (.return_, 1) := by decide +kernel
theorem dX5_multiplicity_0 : decode cX5_multiplicity 0 = .ok (.aload_n 0, 1) := by decide +kernel
theorem dX5_multiplicity_1 : decode cX5_multiplicity 1 = .ok (.iload_n 1, 1) := by decide +kernel
theorem dX5_multiplicity_2 : decode cX5_multiplicity 2 = .ok (.invokevirtual 193, 3) := by decide +kernel
theorem dX5_multiplicity_5 : decode cX5_multiplicity 5 = .ok (.ifCond .ne 5, 3) := by decide +kernel
theorem dX5_multiplicity_8 : decode cX5_multiplicity 8 = .ok (.iconst (-1), 1) := by decide +kernel
theorem dX5_multiplicity_9 : decode cX5_multiplicity 9 = .ok (.ireturn, 1) := by decide +kernel
theorem dX5_multiplicity_10 : decode cX5_multiplicity 10 = .ok (.aload_n 0, 1) := by decide +kernel
theorem dX5_multiplicity_11 : decode cX5_multiplicity 11 = .ok (.iconst 0, 1) := by decide +kernel
theorem dX5_multiplicity_12 : decode cX5_multiplicity 12 = .ok (.iconst 0, 1) := by decide +kernel
theorem dX5_multiplicity_13 : decode cX5_multiplicity 13 = .ok (.invokevirtual 165, 3) := by decide +kernel
theorem dX5_multiplicity_16 : decode cX5_multiplicity 16 = .ok (.iconst 0, 1) := by decide +kernel
theorem dX5_multiplicity_17 : decode cX5_multiplicity 17 = .ok (.istore_n 2, 1) := by decide +kernel
theorem dX5_multiplicity_18 : decode cX5_multiplicity 18 = .ok (.iconst 1, 1) := by decide +kernel
theorem dX5_multiplicity_19 : decode cX5_multiplicity 19 = .ok (.istore_n 3, 1) := by decide +kernel
theorem dX5_multiplicity_20 : decode cX5_multiplicity 20 = .ok (.iload_n 3, 1) := by decide +kernel
theorem dX5_multiplicity_21 : decode cX5_multiplicity 21 = .ok (.ifCond .eq 55, 3) := by decide +kernel
theorem dX5_multiplicity_24 : decode cX5_multiplicity 24 = .ok (.aload_n 0, 1) := by decide +kernel
theorem dX5_multiplicity_25 : decode cX5_multiplicity 25 = .ok (.iconst 5, 1) := by decide +kernel
theorem dX5_multiplicity_26 : decode cX5_multiplicity 26 = .ok (.iconst 0, 1) := by decide +kernel
theorem dX5_multiplicity_27 : decode cX5_multiplicity 27 = .ok (.invokevirtual 168, 3) := by decide +kernel
theorem dX5_multiplicity_30 : decode cX5_multiplicity 30 = .ok (.aload_n 0, 1) := by decide +kernel
theorem dX5_multiplicity_31 : decode cX5_multiplicity 31 = .ok (.iconst 0, 1) := by decide +kernel
theorem dX5_multiplicity_32 : decode cX5_multiplicity 32 = .ok (.bipush 7, 2) := by decide +kernel
theorem dX5_multiplicity_34 : decode cX5_multiplicity 34 = .ok (.invokevirtual 94, 3) := by decide +kernel
theorem dX5_multiplicity_37 : decode cX5_multiplicity 37 = .ok (.aload_n 0, 1) := by decide +kernel
theorem dX5_multiplicity_38 : decode cX5_multiplicity 38 = .ok (.bipush 8, 2) := by decide +kernel
theorem dX5_multiplicity_40 : decode cX5_multiplicity 40 = .ok (.iconst 5, 1) := by decide +kernel
theorem dX5_multiplicity_41 : decode cX5_multiplicity 41 = .ok (.iload_n 1, 1) := by decide +kernel
theorem dX5_multiplicity_42 : decode cX5_multiplicity 42 = .ok (.invokevirtual 200, 3) := by decide +kernel
theorem dX5_multiplicity_45 : decode cX5_multiplicity 45 = .ok (.aload_n 0, 1) := by decide +kernel
theorem dX5_multiplicity_46 : decode cX5_multiplicity 46 = .ok (.bipush 8, 2) := by decide +kernel
theorem dX5_multiplicity_48 : decode cX5_multiplicity 48 = .ok (.invokevirtual 175, 3) := by decide +kernel
theorem dX5_multiplicity_51 : decode cX5_multiplicity 51 = .ok (.iconst 1, 1) := by decide +kernel
theorem dX5_multiplicity_52 : decode cX5_multiplicity 52 = .ok (.if_icmp .ne 7, 3) := by decide +kernel
theorem dX5_multiplicity_55 : decode cX5_multiplicity 55 = .ok (.iconst 1, 1) := by decide +kernel
theorem dX5_multiplicity_56 : decode cX5_multiplicity 56 = .ok (.goto 4, 3) := by decide +kernel
theorem dX5_multiplicity_59 : decode cX5_multiplicity 59 = .ok (.iconst 0, 1) := by decide +kernel
theorem dX5_multiplicity_60 : decode cX5_multiplicity 60 = .ok (.istore_n 3, 1) := by decide +kernel
theorem dX5_multiplicity_61 : decode cX5_multiplicity 61 = .ok (.iload_n 3, 1) := by decide +kernel
theorem dX5_multiplicity_62 : decode cX5_multiplicity 62 = .ok (.ifCond .eq 9, 3) := by decide +kernel
theorem dX5_multiplicity_65 : decode cX5_multiplicity 65 = .ok (.iload_n 2, 1) := by decide +kernel
theorem dX5_multiplicity_66 : decode cX5_multiplicity 66 = .ok (.iconst 1, 1) := by decide +kernel
theorem dX5_multiplicity_67 : decode cX5_multiplicity 67 = .ok (.iadd, 1) := by decide +kernel
theorem dX5_multiplicity_68 : decode cX5_multiplicity 68 = .ok (.goto 4, 3) := by decide +kernel
theorem dX5_multiplicity_71 : decode cX5_multiplicity 71 = .ok (.iload_n 2, 1) := by decide +kernel
theorem dX5_multiplicity_72 : decode cX5_multiplicity 72 = .ok (.istore_n 2, 1) := by decide +kernel
theorem dX5_multiplicity_73 : decode cX5_multiplicity 73 = .ok (.goto (-53), 3) := by decide +kernel
theorem dX5_multiplicity_76 : decode cX5_multiplicity 76 = .ok (.iload_n 2, 1) := by decide +kernel
theorem dX5_multiplicity_77 : decode cX5_multiplicity 77 = .ok (.ireturn, 1) := by decide +kernel
theorem dX5_signAt_0 : decode cX5_signAt 0 = .ok (.aload_n 0, 1) := by decide +kernel
theorem dX5_signAt_1 : decode cX5_signAt 1 = .ok (.iload_n 1, 1) := by decide +kernel
theorem dX5_signAt_2 : decode cX5_signAt 2 = .ok (.invokevirtual 193, 3) := by decide +kernel
theorem dX5_signAt_5 : decode cX5_signAt 5 = .ok (.ifCond .ne 6, 3) := by decide +kernel
theorem dX5_signAt_8 : decode cX5_signAt 8 = .ok (.bipush (-9), 2) := by decide +kernel
theorem dX5_signAt_10 : decode cX5_signAt 10 = .ok (.ireturn, 1) := by decide +kernel
theorem dX5_signAt_11 : decode cX5_signAt 11 = .ok (.aload_n 0, 1) := by decide +kernel
theorem dX5_signAt_12 : decode cX5_signAt 12 = .ok (.iconst 1, 1) := by decide +kernel
theorem dX5_signAt_13 : decode cX5_signAt 13 = .ok (.invokevirtual 153, 3) := by decide +kernel
theorem dX5_signAt_16 : decode cX5_signAt 16 = .ok (.ifCond .ge 5, 3) := by decide +kernel
theorem dX5_signAt_19 : decode cX5_signAt 19 = .ok (.iconst 0, 1) := by decide +kernel
theorem dX5_signAt_20 : decode cX5_signAt 20 = .ok (.ireturn, 1) := by decide +kernel
theorem dX5_signAt_21 : decode cX5_signAt 21 = .ok (.aload_n 0, 1) := by decide +kernel
theorem dX5_signAt_22 : decode cX5_signAt 22 = .ok (.iconst 1, 1) := by decide +kernel
theorem dX5_signAt_23 : decode cX5_signAt 23 = .ok (.iconst 1, 1) := by decide +kernel
theorem dX5_signAt_24 : decode cX5_signAt 24 = .ok (.invokevirtual 165, 3) := by decide +kernel
theorem dX5_signAt_27 : decode cX5_signAt 27 = .ok (.aload_n 0, 1) := by decide +kernel
theorem dX5_signAt_28 : decode cX5_signAt 28 = .ok (.iconst 0, 1) := by decide +kernel
theorem dX5_signAt_29 : decode cX5_signAt 29 = .ok (.iconst 0, 1) := by decide +kernel
theorem dX5_signAt_30 : decode cX5_signAt 30 = .ok (.invokevirtual 165, 3) := by decide +kernel
theorem dX5_signAt_33 : decode cX5_signAt 33 = .ok (.aload_n 0, 1) := by decide +kernel
theorem dX5_signAt_34 : decode cX5_signAt 34 = .ok (.iconst 5, 1) := by decide +kernel
theorem dX5_signAt_35 : decode cX5_signAt 35 = .ok (.iconst 0, 1) := by decide +kernel
theorem dX5_signAt_36 : decode cX5_signAt 36 = .ok (.invokevirtual 168, 3) := by decide +kernel
theorem dX5_signAt_39 : decode cX5_signAt 39 = .ok (.aload_n 0, 1) := by decide +kernel
theorem dX5_signAt_40 : decode cX5_signAt 40 = .ok (.bipush 6, 2) := by decide +kernel
theorem dX5_signAt_42 : decode cX5_signAt 42 = .ok (.iconst 1, 1) := by decide +kernel
theorem dX5_signAt_43 : decode cX5_signAt 43 = .ok (.invokevirtual 168, 3) := by decide +kernel
theorem dX5_signAt_46 : decode cX5_signAt 46 = .ok (.aload_n 0, 1) := by decide +kernel
theorem dX5_signAt_47 : decode cX5_signAt 47 = .ok (.bipush 13, 2) := by decide +kernel
theorem dX5_signAt_49 : decode cX5_signAt 49 = .ok (.iconst 5, 1) := by decide +kernel
theorem dX5_signAt_50 : decode cX5_signAt 50 = .ok (.invokevirtual 94, 3) := by decide +kernel
theorem dX5_signAt_53 : decode cX5_signAt 53 = .ok (.aload_n 0, 1) := by decide +kernel
theorem dX5_signAt_54 : decode cX5_signAt 54 = .ok (.bipush 14, 2) := by decide +kernel
theorem dX5_signAt_56 : decode cX5_signAt 56 = .ok (.bipush 6, 2) := by decide +kernel
theorem dX5_signAt_58 : decode cX5_signAt 58 = .ok (.invokevirtual 94, 3) := by decide +kernel
theorem dX5_signAt_61 : decode cX5_signAt 61 = .ok (.aload_n 0, 1) := by decide +kernel
theorem dX5_signAt_62 : decode cX5_signAt 62 = .ok (.invokevirtual 107, 3) := by decide +kernel
theorem dX5_signAt_65 : decode cX5_signAt 65 = .ok (.aload_n 0, 1) := by decide +kernel
theorem dX5_signAt_66 : decode cX5_signAt 66 = .ok (.bipush 8, 2) := by decide +kernel
theorem dX5_signAt_68 : decode cX5_signAt 68 = .ok (.bipush 7, 2) := by decide +kernel
theorem dX5_signAt_70 : decode cX5_signAt 70 = .ok (.iload_n 1, 1) := by decide +kernel
theorem dX5_signAt_71 : decode cX5_signAt 71 = .ok (.invokevirtual 200, 3) := by decide +kernel
theorem dX5_signAt_74 : decode cX5_signAt 74 = .ok (.aload_n 0, 1) := by decide +kernel
theorem dX5_signAt_75 : decode cX5_signAt 75 = .ok (.bipush 8, 2) := by decide +kernel
theorem dX5_signAt_77 : decode cX5_signAt 77 = .ok (.invokevirtual 175, 3) := by decide +kernel
theorem dX5_signAt_80 : decode cX5_signAt 80 = .ok (.ifCond .le 5, 3) := by decide +kernel
theorem dX5_signAt_83 : decode cX5_signAt 83 = .ok (.iconst 0, 1) := by decide +kernel
theorem dX5_signAt_84 : decode cX5_signAt 84 = .ok (.ireturn, 1) := by decide +kernel
theorem dX5_signAt_85 : decode cX5_signAt 85 = .ok (.aload_n 0, 1) := by decide +kernel
theorem dX5_signAt_86 : decode cX5_signAt 86 = .ok (.bipush 8, 2) := by decide +kernel
theorem dX5_signAt_88 : decode cX5_signAt 88 = .ok (.iconst 5, 1) := by decide +kernel
theorem dX5_signAt_89 : decode cX5_signAt 89 = .ok (.iload_n 1, 1) := by decide +kernel
theorem dX5_signAt_90 : decode cX5_signAt 90 = .ok (.invokevirtual 200, 3) := by decide +kernel
theorem dX5_signAt_93 : decode cX5_signAt 93 = .ok (.aload_n 0, 1) := by decide +kernel
theorem dX5_signAt_94 : decode cX5_signAt 94 = .ok (.bipush 9, 2) := by decide +kernel
theorem dX5_signAt_96 : decode cX5_signAt 96 = .ok (.bipush 6, 2) := by decide +kernel
theorem dX5_signAt_98 : decode cX5_signAt 98 = .ok (.iload_n 1, 1) := by decide +kernel
theorem dX5_signAt_99 : decode cX5_signAt 99 = .ok (.invokevirtual 200, 3) := by decide +kernel
theorem dX5_signAt_102 : decode cX5_signAt 102 = .ok (.aload_n 0, 1) := by decide +kernel
theorem dX5_signAt_103 : decode cX5_signAt 103 = .ok (.bipush 10, 2) := by decide +kernel
theorem dX5_signAt_105 : decode cX5_signAt 105 = .ok (.iconst 1, 1) := by decide +kernel
theorem dX5_signAt_106 : decode cX5_signAt 106 = .ok (.iload_n 1, 1) := by decide +kernel
theorem dX5_signAt_107 : decode cX5_signAt 107 = .ok (.invokevirtual 200, 3) := by decide +kernel
theorem dX5_signAt_110 : decode cX5_signAt 110 = .ok (.aload_n 0, 1) := by decide +kernel
theorem dX5_signAt_111 : decode cX5_signAt 111 = .ok (.bipush 9, 2) := by decide +kernel
theorem dX5_signAt_113 : decode cX5_signAt 113 = .ok (.invokevirtual 175, 3) := by decide +kernel
theorem dX5_signAt_116 : decode cX5_signAt 116 = .ok (.ifCond .le 51, 3) := by decide +kernel
theorem dX5_signAt_119 : decode cX5_signAt 119 = .ok (.aload_n 0, 1) := by decide +kernel
theorem dX5_signAt_120 : decode cX5_signAt 120 = .ok (.bipush 8, 2) := by decide +kernel
theorem dX5_signAt_122 : decode cX5_signAt 122 = .ok (.invokevirtual 120, 3) := by decide +kernel
theorem dX5_signAt_125 : decode cX5_signAt 125 = .ok (.aload_n 0, 1) := by decide +kernel
theorem dX5_signAt_126 : decode cX5_signAt 126 = .ok (.bipush 9, 2) := by decide +kernel
theorem dX5_signAt_128 : decode cX5_signAt 128 = .ok (.invokevirtual 120, 3) := by decide +kernel
theorem dX5_signAt_131 : decode cX5_signAt 131 = .ok (.aload_n 0, 1) := by decide +kernel
theorem dX5_signAt_132 : decode cX5_signAt 132 = .ok (.bipush 10, 2) := by decide +kernel
theorem dX5_signAt_134 : decode cX5_signAt 134 = .ok (.invokevirtual 120, 3) := by decide +kernel
theorem dX5_signAt_137 : decode cX5_signAt 137 = .ok (.aload_n 0, 1) := by decide +kernel
theorem dX5_signAt_138 : decode cX5_signAt 138 = .ok (.bipush 8, 2) := by decide +kernel
theorem dX5_signAt_140 : decode cX5_signAt 140 = .ok (.invokevirtual 175, 3) := by decide +kernel
theorem dX5_signAt_143 : decode cX5_signAt 143 = .ok (.ifCond .ne (-33), 3) := by decide +kernel
theorem dX5_signAt_146 : decode cX5_signAt 146 = .ok (.aload_n 0, 1) := by decide +kernel
theorem dX5_signAt_147 : decode cX5_signAt 147 = .ok (.bipush 8, 2) := by decide +kernel
theorem dX5_signAt_149 : decode cX5_signAt 149 = .ok (.invokevirtual 113, 3) := by decide +kernel
theorem dX5_signAt_152 : decode cX5_signAt 152 = .ok (.aload_n 0, 1) := by decide +kernel
theorem dX5_signAt_153 : decode cX5_signAt 153 = .ok (.bipush 9, 2) := by decide +kernel
theorem dX5_signAt_155 : decode cX5_signAt 155 = .ok (.invokevirtual 113, 3) := by decide +kernel
theorem dX5_signAt_158 : decode cX5_signAt 158 = .ok (.aload_n 0, 1) := by decide +kernel
theorem dX5_signAt_159 : decode cX5_signAt 159 = .ok (.bipush 10, 2) := by decide +kernel
theorem dX5_signAt_161 : decode cX5_signAt 161 = .ok (.invokevirtual 113, 3) := by decide +kernel
theorem dX5_signAt_164 : decode cX5_signAt 164 = .ok (.goto (-54), 3) := by decide +kernel
theorem dX5_signAt_167 : decode cX5_signAt 167 = .ok (.aload_n 0, 1) := by decide +kernel
theorem dX5_signAt_168 : decode cX5_signAt 168 = .ok (.bipush 10, 2) := by decide +kernel
theorem dX5_signAt_170 : decode cX5_signAt 170 = .ok (.invokevirtual 126, 3) := by decide +kernel
theorem dX5_signAt_173 : decode cX5_signAt 173 = .ok (.ireturn, 1) := by decide +kernel
theorem dX5_findCommonOfBoth_0 : decode cX5_findCommonOfBoth 0 = .ok (.aload_n 0, 1) := by decide +kernel
theorem dX5_findCommonOfBoth_1 : decode cX5_findCommonOfBoth 1 = .ok (.bipush 13, 2) := by decide +kernel
theorem dX5_findCommonOfBoth_3 : decode cX5_findCommonOfBoth 3 = .ok (.iconst 0, 1) := by decide +kernel
theorem dX5_findCommonOfBoth_4 : decode cX5_findCommonOfBoth 4 = .ok (.invokevirtual 165, 3) := by decide +kernel
theorem dX5_findCommonOfBoth_7 : decode cX5_findCommonOfBoth 7 = .ok (.aload_n 0, 1) := by decide +kernel
theorem dX5_findCommonOfBoth_8 : decode cX5_findCommonOfBoth 8 = .ok (.bipush 14, 2) := by decide +kernel
theorem dX5_findCommonOfBoth_10 : decode cX5_findCommonOfBoth 10 = .ok (.iconst 1, 1) := by decide +kernel
theorem dX5_findCommonOfBoth_11 : decode cX5_findCommonOfBoth 11 = .ok (.invokevirtual 165, 3) := by decide +kernel
theorem dX5_findCommonOfBoth_14 : decode cX5_findCommonOfBoth 14 = .ok (.aload_n 0, 1) := by decide +kernel
theorem dX5_findCommonOfBoth_15 : decode cX5_findCommonOfBoth 15 = .ok (.invokevirtual 107, 3) := by decide +kernel
theorem dX5_findCommonOfBoth_18 : decode cX5_findCommonOfBoth 18 = .ok (.return_, 1) := by decide +kernel
theorem dX5_common_0 : decode cX5_common 0 = .ok (.aload_n 0, 1) := by decide +kernel
theorem dX5_common_1 : decode cX5_common 1 = .ok (.iconst 0, 1) := by decide +kernel
theorem dX5_common_2 : decode cX5_common 2 = .ok (.invokevirtual 153, 3) := by decide +kernel
theorem dX5_common_5 : decode cX5_common 5 = .ok (.ifCond .lt 11, 3) := by decide +kernel
theorem dX5_common_8 : decode cX5_common 8 = .ok (.aload_n 0, 1) := by decide +kernel
theorem dX5_common_9 : decode cX5_common 9 = .ok (.iconst 1, 1) := by decide +kernel
theorem dX5_common_10 : decode cX5_common 10 = .ok (.invokevirtual 153, 3) := by decide +kernel
theorem dX5_common_13 : decode cX5_common 13 = .ok (.ifCond .ge 6, 3) := by decide +kernel
theorem dX5_common_16 : decode cX5_common 16 = .ok (.bipush (-3), 2) := by decide +kernel
theorem dX5_common_18 : decode cX5_common 18 = .ok (.ireturn, 1) := by decide +kernel
theorem dX5_common_19 : decode cX5_common 19 = .ok (.aload_n 0, 1) := by decide +kernel
theorem dX5_common_20 : decode cX5_common 20 = .ok (.invokevirtual 203, 3) := by decide +kernel
theorem dX5_common_23 : decode cX5_common 23 = .ok (.aload_n 0, 1) := by decide +kernel
theorem dX5_common_24 : decode cX5_common 24 = .ok (.iconst 0, 1) := by decide +kernel
theorem dX5_common_25 : decode cX5_common 25 = .ok (.bipush 7, 2) := by decide +kernel
theorem dX5_common_27 : decode cX5_common 27 = .ok (.invokevirtual 94, 3) := by decide +kernel
theorem dX5_common_30 : decode cX5_common 30 = .ok (.aload_n 0, 1) := by decide +kernel
theorem dX5_common_31 : decode cX5_common 31 = .ok (.iconst 5, 1) := by decide +kernel
theorem dX5_common_32 : decode cX5_common 32 = .ok (.iconst 0, 1) := by decide +kernel
theorem dX5_common_33 : decode cX5_common 33 = .ok (.invokevirtual 168, 3) := by decide +kernel
theorem dX5_common_36 : decode cX5_common 36 = .ok (.aload_n 0, 1) := by decide +kernel
theorem dX5_common_37 : decode cX5_common 37 = .ok (.bipush 8, 2) := by decide +kernel
theorem dX5_common_39 : decode cX5_common 39 = .ok (.iconst 5, 1) := by decide +kernel
theorem dX5_common_40 : decode cX5_common 40 = .ok (.ldc2_w 187, 3) := by decide +kernel
theorem dX5_common_43 : decode cX5_common 43 = .ok (.ldc2_w 189, 3) := by decide +kernel
theorem dX5_common_46 : decode cX5_common 46 = .ok (.invokevirtual 171, 3) := by decide +kernel
theorem dX5_common_49 : decode cX5_common 49 = .ok (.aload_n 0, 1) := by decide +kernel
theorem dX5_common_50 : decode cX5_common 50 = .ok (.bipush 8, 2) := by decide +kernel
theorem dX5_common_52 : decode cX5_common 52 = .ok (.invokevirtual 175, 3) := by decide +kernel
theorem dX5_common_55 : decode cX5_common 55 = .ok (.ireturn, 1) := by decide +kernel
theorem dX5_divisor_0 : decode cX5_divisor 0 = .ok (.aload_n 0, 1) := by decide +kernel
theorem dX5_divisor_1 : decode cX5_divisor 1 = .ok (.iconst 0, 1) := by decide +kernel
theorem dX5_divisor_2 : decode cX5_divisor 2 = .ok (.invokevirtual 153, 3) := by decide +kernel
theorem dX5_divisor_5 : decode cX5_divisor 5 = .ok (.ifCond .ge 14, 3) := by decide +kernel
theorem dX5_divisor_8 : decode cX5_divisor 8 = .ok (.aload_n 0, 1) := by decide +kernel
theorem dX5_divisor_9 : decode cX5_divisor 9 = .ok (.iconst 1, 1) := by decide +kernel
theorem dX5_divisor_10 : decode cX5_divisor 10 = .ok (.invokevirtual 153, 3) := by decide +kernel
theorem dX5_divisor_13 : decode cX5_divisor 13 = .ok (.ifCond .ge 6, 3) := by decide +kernel
theorem dX5_divisor_16 : decode cX5_divisor 16 = .ok (.bipush (-3), 2) := by decide +kernel
theorem dX5_divisor_18 : decode cX5_divisor 18 = .ok (.ireturn, 1) := by decide +kernel
theorem dX5_divisor_19 : decode cX5_divisor 19 = .ok (.aload_n 0, 1) := by decide +kernel
theorem dX5_divisor_20 : decode cX5_divisor 20 = .ok (.invokevirtual 203, 3) := by decide +kernel
theorem dX5_divisor_23 : decode cX5_divisor 23 = .ok (.aload_n 0, 1) := by decide +kernel
theorem dX5_divisor_24 : decode cX5_divisor 24 = .ok (.getfield 25, 3) := by decide +kernel
theorem dX5_divisor_27 : decode cX5_divisor 27 = .ok (.bipush 7, 2) := by decide +kernel
theorem dX5_divisor_29 : decode cX5_divisor 29 = .ok (.iaload, 1) := by decide +kernel
theorem dX5_divisor_30 : decode cX5_divisor 30 = .ok (.ireturn, 1) := by decide +kernel
theorem dX5_derive_0 : decode cX5_derive 0 = .ok (.iconst 1, 1) := by decide +kernel
theorem dX5_derive_1 : decode cX5_derive 1 = .ok (.istore_n 1, 1) := by decide +kernel
theorem dX5_derive_2 : decode cX5_derive 2 = .ok (.iload_n 1, 1) := by decide +kernel
theorem dX5_derive_3 : decode cX5_derive 3 = .ok (.bipush 9, 2) := by decide +kernel
theorem dX5_derive_5 : decode cX5_derive 5 = .ok (.if_icmp .ge 36, 3) := by decide +kernel
theorem dX5_derive_8 : decode cX5_derive 8 = .ok (.iload_n 1, 1) := by decide +kernel
theorem dX5_derive_9 : decode cX5_derive 9 = .ok (.i2l, 1) := by decide +kernel
theorem dX5_derive_10 : decode cX5_derive 10 = .ok (.aload_n 0, 1) := by decide +kernel
theorem dX5_derive_11 : decode cX5_derive 11 = .ok (.getfield 9, 3) := by decide +kernel
theorem dX5_derive_14 : decode cX5_derive 14 = .ok (.iconst 0, 1) := by decide +kernel
theorem dX5_derive_15 : decode cX5_derive 15 = .ok (.aaload, 1) := by decide +kernel
theorem dX5_derive_16 : decode cX5_derive 16 = .ok (.iload_n 1, 1) := by decide +kernel
theorem dX5_derive_17 : decode cX5_derive 17 = .ok (.iaload, 1) := by decide +kernel
theorem dX5_derive_18 : decode cX5_derive 18 = .ok (.i2l, 1) := by decide +kernel
theorem dX5_derive_19 : decode cX5_derive 19 = .ok (.lmul, 1) := by decide +kernel
theorem dX5_derive_20 : decode cX5_derive 20 = .ok (.ldc2_w 146, 3) := by decide +kernel
theorem dX5_derive_23 : decode cX5_derive 23 = .ok (.ldc2_w 148, 3) := by decide +kernel
theorem dX5_derive_26 : decode cX5_derive 26 = .ok (.invokestatic 132, 3) := by decide +kernel
theorem dX5_derive_29 : decode cX5_derive 29 = .ok (.ifCond .ne 6, 3) := by decide +kernel
theorem dX5_derive_32 : decode cX5_derive 32 = .ok (.bipush (-5), 2) := by decide +kernel
theorem dX5_derive_34 : decode cX5_derive 34 = .ok (.ireturn, 1) := by decide +kernel
theorem dX5_derive_35 : decode cX5_derive 35 = .ok (.iinc 1 1, 3) := by decide +kernel
theorem dX5_derive_38 : decode cX5_derive 38 = .ok (.goto (-36), 3) := by decide +kernel
theorem dX5_derive_41 : decode cX5_derive 41 = .ok (.iconst 0, 1) := by decide +kernel
theorem dX5_derive_42 : decode cX5_derive 42 = .ok (.istore_n 1, 1) := by decide +kernel
theorem dX5_derive_43 : decode cX5_derive 43 = .ok (.iload_n 1, 1) := by decide +kernel
theorem dX5_derive_44 : decode cX5_derive 44 = .ok (.bipush 9, 2) := by decide +kernel
theorem dX5_derive_46 : decode cX5_derive 46 = .ok (.if_icmp .ge 43, 3) := by decide +kernel
theorem dX5_derive_49 : decode cX5_derive 49 = .ok (.aload_n 0, 1) := by decide +kernel
theorem dX5_derive_50 : decode cX5_derive 50 = .ok (.getfield 9, 3) := by decide +kernel
theorem dX5_derive_53 : decode cX5_derive 53 = .ok (.iconst 1, 1) := by decide +kernel
theorem dX5_derive_54 : decode cX5_derive 54 = .ok (.aaload, 1) := by decide +kernel
theorem dX5_derive_55 : decode cX5_derive 55 = .ok (.iload_n 1, 1) := by decide +kernel
theorem dX5_derive_56 : decode cX5_derive 56 = .ok (.iload_n 1, 1) := by decide +kernel
theorem dX5_derive_57 : decode cX5_derive 57 = .ok (.iconst 1, 1) := by decide +kernel
theorem dX5_derive_58 : decode cX5_derive 58 = .ok (.iadd, 1) := by decide +kernel
theorem dX5_derive_59 : decode cX5_derive 59 = .ok (.bipush 9, 2) := by decide +kernel
theorem dX5_derive_61 : decode cX5_derive 61 = .ok (.if_icmp .ge 20, 3) := by decide +kernel
theorem dX5_derive_64 : decode cX5_derive 64 = .ok (.iload_n 1, 1) := by decide +kernel
theorem dX5_derive_65 : decode cX5_derive 65 = .ok (.iconst 1, 1) := by decide +kernel
theorem dX5_derive_66 : decode cX5_derive 66 = .ok (.iadd, 1) := by decide +kernel
theorem dX5_derive_67 : decode cX5_derive 67 = .ok (.aload_n 0, 1) := by decide +kernel
theorem dX5_derive_68 : decode cX5_derive 68 = .ok (.getfield 9, 3) := by decide +kernel
theorem dX5_derive_71 : decode cX5_derive 71 = .ok (.iconst 0, 1) := by decide +kernel
theorem dX5_derive_72 : decode cX5_derive 72 = .ok (.aaload, 1) := by decide +kernel
theorem dX5_derive_73 : decode cX5_derive 73 = .ok (.iload_n 1, 1) := by decide +kernel
theorem dX5_derive_74 : decode cX5_derive 74 = .ok (.iconst 1, 1) := by decide +kernel
theorem dX5_derive_75 : decode cX5_derive 75 = .ok (.iadd, 1) := by decide +kernel
theorem dX5_derive_76 : decode cX5_derive 76 = .ok (.iaload, 1) := by decide +kernel
theorem dX5_derive_77 : decode cX5_derive 77 = .ok (.imul, 1) := by decide +kernel
theorem dX5_derive_78 : decode cX5_derive 78 = .ok (.goto 4, 3) := by decide +kernel
theorem dX5_derive_81 : decode cX5_derive 81 = .ok (.iconst 0, 1) := by decide +kernel
theorem dX5_derive_82 : decode cX5_derive 82 = .ok (.iastore, 1) := by decide +kernel
theorem dX5_derive_83 : decode cX5_derive 83 = .ok (.iinc 1 1, 3) := by decide +kernel
theorem dX5_derive_86 : decode cX5_derive 86 = .ok (.goto (-43), 3) := by decide +kernel
theorem dX5_derive_89 : decode cX5_derive 89 = .ok (.aload_n 0, 1) := by decide +kernel
theorem dX5_derive_90 : decode cX5_derive 90 = .ok (.iconst 1, 1) := by decide +kernel
theorem dX5_derive_91 : decode cX5_derive 91 = .ok (.invokevirtual 156, 3) := by decide +kernel
theorem dX5_derive_94 : decode cX5_derive 94 = .ok (.ireturn, 1) := by decide +kernel
theorem dX5_timesAt_0 : decode cX5_timesAt 0 = .ok (.iload_n 1, 1) := by decide +kernel
theorem dX5_timesAt_1 : decode cX5_timesAt 1 = .ok (.ifCond .le 17, 3) := by decide +kernel
theorem dX5_timesAt_4 : decode cX5_timesAt 4 = .ok (.aload_n 0, 1) := by decide +kernel
theorem dX5_timesAt_5 : decode cX5_timesAt 5 = .ok (.getfield 9, 3) := by decide +kernel
theorem dX5_timesAt_8 : decode cX5_timesAt 8 = .ok (.iconst 0, 1) := by decide +kernel
theorem dX5_timesAt_9 : decode cX5_timesAt 9 = .ok (.aaload, 1) := by decide +kernel
theorem dX5_timesAt_10 : decode cX5_timesAt 10 = .ok (.iload_n 1, 1) := by decide +kernel
theorem dX5_timesAt_11 : decode cX5_timesAt 11 = .ok (.iconst 1, 1) := by decide +kernel
theorem dX5_timesAt_12 : decode cX5_timesAt 12 = .ok (.isub, 1) := by decide +kernel
theorem dX5_timesAt_13 : decode cX5_timesAt 13 = .ok (.iaload, 1) := by decide +kernel
theorem dX5_timesAt_14 : decode cX5_timesAt 14 = .ok (.i2l, 1) := by decide +kernel
theorem dX5_timesAt_15 : decode cX5_timesAt 15 = .ok (.goto 4, 3) := by decide +kernel
theorem dX5_timesAt_18 : decode cX5_timesAt 18 = .ok (.lconst 0, 1) := by decide +kernel
theorem dX5_timesAt_19 : decode cX5_timesAt 19 = .ok (.iload_n 2, 1) := by decide +kernel
theorem dX5_timesAt_20 : decode cX5_timesAt 20 = .ok (.i2l, 1) := by decide +kernel
theorem dX5_timesAt_21 : decode cX5_timesAt 21 = .ok (.aload_n 0, 1) := by decide +kernel
theorem dX5_timesAt_22 : decode cX5_timesAt 22 = .ok (.getfield 9, 3) := by decide +kernel
theorem dX5_timesAt_25 : decode cX5_timesAt 25 = .ok (.iconst 0, 1) := by decide +kernel
theorem dX5_timesAt_26 : decode cX5_timesAt 26 = .ok (.aaload, 1) := by decide +kernel
theorem dX5_timesAt_27 : decode cX5_timesAt 27 = .ok (.iload_n 1, 1) := by decide +kernel
theorem dX5_timesAt_28 : decode cX5_timesAt 28 = .ok (.iaload, 1) := by decide +kernel
theorem dX5_timesAt_29 : decode cX5_timesAt 29 = .ok (.i2l, 1) := by decide +kernel
theorem dX5_timesAt_30 : decode cX5_timesAt 30 = .ok (.lmul, 1) := by decide +kernel
theorem dX5_timesAt_31 : decode cX5_timesAt 31 = .ok (.lsub, 1) := by decide +kernel
theorem dX5_timesAt_32 : decode cX5_timesAt 32 = .ok (.lreturn, 1) := by decide +kernel
theorem dX5_times_0 : decode cX5_times 0 = .ok (.aload_n 0, 1) := by decide +kernel
theorem dX5_times_1 : decode cX5_times 1 = .ok (.iconst 0, 1) := by decide +kernel
theorem dX5_times_2 : decode cX5_times 2 = .ok (.invokevirtual 153, 3) := by decide +kernel
theorem dX5_times_5 : decode cX5_times 5 = .ok (.istore_n 2, 1) := by decide +kernel
theorem dX5_times_6 : decode cX5_times 6 = .ok (.iload_n 2, 1) := by decide +kernel
theorem dX5_times_7 : decode cX5_times 7 = .ok (.ifCond .ge 6, 3) := by decide +kernel
theorem dX5_times_10 : decode cX5_times 10 = .ok (.bipush (-3), 2) := by decide +kernel
theorem dX5_times_12 : decode cX5_times 12 = .ok (.ireturn, 1) := by decide +kernel
theorem dX5_times_13 : decode cX5_times 13 = .ok (.iload_n 2, 1) := by decide +kernel
theorem dX5_times_14 : decode cX5_times 14 = .ok (.bipush 8, 2) := by decide +kernel
theorem dX5_times_16 : decode cX5_times 16 = .ok (.if_icmp .ge 7, 3) := by decide +kernel
theorem dX5_times_19 : decode cX5_times 19 = .ok (.iconst 1, 1) := by decide +kernel
theorem dX5_times_20 : decode cX5_times 20 = .ok (.goto 4, 3) := by decide +kernel
theorem dX5_times_23 : decode cX5_times 23 = .ok (.iconst 0, 1) := by decide +kernel
theorem dX5_times_24 : decode cX5_times 24 = .ok (.istore_n 3, 1) := by decide +kernel
theorem dX5_times_25 : decode cX5_times 25 = .ok (.iconst 0, 1) := by decide +kernel
theorem dX5_times_26 : decode cX5_times 26 = .ok (.istore 4, 2) := by decide +kernel
theorem dX5_times_28 : decode cX5_times 28 = .ok (.iload 4, 2) := by decide +kernel
theorem dX5_times_30 : decode cX5_times 30 = .ok (.bipush 9, 2) := by decide +kernel
theorem dX5_times_32 : decode cX5_times 32 = .ok (.if_icmp .ge 30, 3) := by decide +kernel
theorem dX5_times_35 : decode cX5_times 35 = .ok (.iload_n 3, 1) := by decide +kernel
theorem dX5_times_36 : decode cX5_times 36 = .ok (.ifCond .eq 26, 3) := by decide +kernel
theorem dX5_times_39 : decode cX5_times 39 = .ok (.aload_n 0, 1) := by decide +kernel
theorem dX5_times_40 : decode cX5_times 40 = .ok (.iload 4, 2) := by decide +kernel
theorem dX5_times_42 : decode cX5_times 42 = .ok (.iload_n 1, 1) := by decide +kernel
theorem dX5_times_43 : decode cX5_times 43 = .ok (.invokevirtual 206, 3) := by decide +kernel
theorem dX5_times_46 : decode cX5_times 46 = .ok (.ldc2_w 146, 3) := by decide +kernel
theorem dX5_times_49 : decode cX5_times 49 = .ok (.ldc2_w 148, 3) := by decide +kernel
theorem dX5_times_52 : decode cX5_times 52 = .ok (.invokestatic 132, 3) := by decide +kernel
theorem dX5_times_55 : decode cX5_times 55 = .ok (.istore_n 3, 1) := by decide +kernel
theorem dX5_times_56 : decode cX5_times 56 = .ok (.iinc 4 1, 3) := by decide +kernel
theorem dX5_times_59 : decode cX5_times 59 = .ok (.goto (-31), 3) := by decide +kernel
theorem dX5_times_62 : decode cX5_times 62 = .ok (.iload_n 3, 1) := by decide +kernel
theorem dX5_times_63 : decode cX5_times 63 = .ok (.ifCond .ne 6, 3) := by decide +kernel
theorem dX5_times_66 : decode cX5_times 66 = .ok (.bipush (-5), 2) := by decide +kernel
theorem dX5_times_68 : decode cX5_times 68 = .ok (.ireturn, 1) := by decide +kernel
theorem dX5_times_69 : decode cX5_times 69 = .ok (.bipush 8, 2) := by decide +kernel
theorem dX5_times_71 : decode cX5_times 71 = .ok (.istore 4, 2) := by decide +kernel
theorem dX5_times_73 : decode cX5_times 73 = .ok (.iload 4, 2) := by decide +kernel
theorem dX5_times_75 : decode cX5_times 75 = .ok (.ifCond .lt 26, 3) := by decide +kernel
theorem dX5_times_78 : decode cX5_times 78 = .ok (.aload_n 0, 1) := by decide +kernel
theorem dX5_times_79 : decode cX5_times 79 = .ok (.getfield 9, 3) := by decide +kernel
theorem dX5_times_82 : decode cX5_times 82 = .ok (.iconst 0, 1) := by decide +kernel
theorem dX5_times_83 : decode cX5_times 83 = .ok (.aaload, 1) := by decide +kernel
theorem dX5_times_84 : decode cX5_times 84 = .ok (.iload 4, 2) := by decide +kernel
theorem dX5_times_86 : decode cX5_times 86 = .ok (.aload_n 0, 1) := by decide +kernel
theorem dX5_times_87 : decode cX5_times 87 = .ok (.iload 4, 2) := by decide +kernel
theorem dX5_times_89 : decode cX5_times 89 = .ok (.iload_n 1, 1) := by decide +kernel
theorem dX5_times_90 : decode cX5_times 90 = .ok (.invokevirtual 206, 3) := by decide +kernel
theorem dX5_times_93 : decode cX5_times 93 = .ok (.l2i, 1) := by decide +kernel
theorem dX5_times_94 : decode cX5_times 94 = .ok (.iastore, 1) := by decide +kernel
theorem dX5_times_95 : decode cX5_times 95 = .ok (.iinc 4 (-1), 3) := by decide +kernel
theorem dX5_times_98 : decode cX5_times 98 = .ok (.goto (-25), 3) := by decide +kernel
theorem dX5_times_101 : decode cX5_times 101 = .ok (.aload_n 0, 1) := by decide +kernel
theorem dX5_times_102 : decode cX5_times 102 = .ok (.invokevirtual 150, 3) := by decide +kernel
theorem dX5_times_105 : decode cX5_times 105 = .ok (.aload_n 0, 1) := by decide +kernel
theorem dX5_times_106 : decode cX5_times 106 = .ok (.iconst 0, 1) := by decide +kernel
theorem dX5_times_107 : decode cX5_times 107 = .ok (.invokevirtual 156, 3) := by decide +kernel
theorem dX5_times_110 : decode cX5_times 110 = .ok (.ireturn, 1) := by decide +kernel
theorem dX5_isSmall_0 : decode cX5_isSmall 0 = .ok (.aload_n 0, 1) := by decide +kernel
theorem dX5_isSmall_1 : decode cX5_isSmall 1 = .ok (.sipush 138, 3) := by decide +kernel
theorem dX5_isSmall_4 : decode cX5_isSmall 4 = .ok (.ldc2_w 148, 3) := by decide +kernel
theorem dX5_isSmall_7 : decode cX5_isSmall 7 = .ok (.invokevirtual 64, 3) := by decide +kernel
theorem dX5_isSmall_10 : decode cX5_isSmall 10 = .ok (.aload_n 0, 1) := by decide +kernel
theorem dX5_isSmall_11 : decode cX5_isSmall 11 = .ok (.getfield 22, 3) := by decide +kernel
theorem dX5_isSmall_14 : decode cX5_isSmall 14 = .ok (.iload_n 1, 1) := by decide +kernel
theorem dX5_isSmall_15 : decode cX5_isSmall 15 = .ok (.iaload, 1) := by decide +kernel
theorem dX5_isSmall_16 : decode cX5_isSmall 16 = .ok (.ifCond .eq 14, 3) := by decide +kernel
theorem dX5_isSmall_19 : decode cX5_isSmall 19 = .ok (.aload_n 0, 1) := by decide +kernel
theorem dX5_isSmall_20 : decode cX5_isSmall 20 = .ok (.iload_n 1, 1) := by decide +kernel
theorem dX5_isSmall_21 : decode cX5_isSmall 21 = .ok (.sipush 138, 3) := by decide +kernel
theorem dX5_isSmall_24 : decode cX5_isSmall 24 = .ok (.invokevirtual 57, 3) := by decide +kernel
theorem dX5_isSmall_27 : decode cX5_isSmall 27 = .ok (.ifCond .gt 7, 3) := by decide +kernel
theorem dX5_isSmall_30 : decode cX5_isSmall 30 = .ok (.iconst 1, 1) := by decide +kernel
theorem dX5_isSmall_31 : decode cX5_isSmall 31 = .ok (.goto 4, 3) := by decide +kernel
theorem dX5_isSmall_34 : decode cX5_isSmall 34 = .ok (.iconst 0, 1) := by decide +kernel
theorem dX5_isSmall_35 : decode cX5_isSmall 35 = .ok (.ireturn, 1) := by decide +kernel
theorem dX5_shift_0 : decode cX5_shift 0 = .ok (.aload_n 0, 1) := by decide +kernel
theorem dX5_shift_1 : decode cX5_shift 1 = .ok (.iconst 0, 1) := by decide +kernel
theorem dX5_shift_2 : decode cX5_shift 2 = .ok (.invokevirtual 153, 3) := by decide +kernel
theorem dX5_shift_5 : decode cX5_shift 5 = .ok (.istore_n 2, 1) := by decide +kernel
theorem dX5_shift_6 : decode cX5_shift 6 = .ok (.iload_n 2, 1) := by decide +kernel
theorem dX5_shift_7 : decode cX5_shift 7 = .ok (.ifCond .ge 6, 3) := by decide +kernel
theorem dX5_shift_10 : decode cX5_shift 10 = .ok (.bipush (-3), 2) := by decide +kernel
theorem dX5_shift_12 : decode cX5_shift 12 = .ok (.ireturn, 1) := by decide +kernel
theorem dX5_shift_13 : decode cX5_shift 13 = .ok (.aload_n 0, 1) := by decide +kernel
theorem dX5_shift_14 : decode cX5_shift 14 = .ok (.iconst 0, 1) := by decide +kernel
theorem dX5_shift_15 : decode cX5_shift 15 = .ok (.iconst 0, 1) := by decide +kernel
theorem dX5_shift_16 : decode cX5_shift 16 = .ok (.invokevirtual 165, 3) := by decide +kernel
theorem dX5_shift_19 : decode cX5_shift 19 = .ok (.aload_n 0, 1) := by decide +kernel
theorem dX5_shift_20 : decode cX5_shift 20 = .ok (.sipush 135, 3) := by decide +kernel
theorem dX5_shift_23 : decode cX5_shift 23 = .ok (.iload_n 1, 1) := by decide +kernel
theorem dX5_shift_24 : decode cX5_shift 24 = .ok (.i2l, 1) := by decide +kernel
theorem dX5_shift_25 : decode cX5_shift 25 = .ok (.invokevirtual 64, 3) := by decide +kernel
theorem dX5_shift_28 : decode cX5_shift 28 = .ok (.iconst 0, 1) := by decide +kernel
theorem dX5_shift_29 : decode cX5_shift 29 = .ok (.istore_n 3, 1) := by decide +kernel
theorem dX5_shift_30 : decode cX5_shift 30 = .ok (.iload_n 3, 1) := by decide +kernel
theorem dX5_shift_31 : decode cX5_shift 31 = .ok (.iload_n 2, 1) := by decide +kernel
theorem dX5_shift_32 : decode cX5_shift 32 = .ok (.if_icmp .ge 64, 3) := by decide +kernel
theorem dX5_shift_35 : decode cX5_shift 35 = .ok (.iload_n 2, 1) := by decide +kernel
theorem dX5_shift_36 : decode cX5_shift 36 = .ok (.iconst 1, 1) := by decide +kernel
theorem dX5_shift_37 : decode cX5_shift 37 = .ok (.isub, 1) := by decide +kernel
theorem dX5_shift_38 : decode cX5_shift 38 = .ok (.istore 4, 2) := by decide +kernel
theorem dX5_shift_40 : decode cX5_shift 40 = .ok (.iload 4, 2) := by decide +kernel
theorem dX5_shift_42 : decode cX5_shift 42 = .ok (.iload_n 3, 1) := by decide +kernel
theorem dX5_shift_43 : decode cX5_shift 43 = .ok (.if_icmp .lt 47, 3) := by decide +kernel
theorem dX5_shift_46 : decode cX5_shift 46 = .ok (.aload_n 0, 1) := by decide +kernel
theorem dX5_shift_47 : decode cX5_shift 47 = .ok (.sipush 136, 3) := by decide +kernel
theorem dX5_shift_50 : decode cX5_shift 50 = .ok (.iconst 0, 1) := by decide +kernel
theorem dX5_shift_51 : decode cX5_shift 51 = .ok (.iload 4, 2) := by decide +kernel
theorem dX5_shift_53 : decode cX5_shift 53 = .ok (.iconst 1, 1) := by decide +kernel
theorem dX5_shift_54 : decode cX5_shift 54 = .ok (.iadd, 1) := by decide +kernel
theorem dX5_shift_55 : decode cX5_shift 55 = .ok (.invokestatic 79, 3) := by decide +kernel
theorem dX5_shift_58 : decode cX5_shift 58 = .ok (.sipush 135, 3) := by decide +kernel
theorem dX5_shift_61 : decode cX5_shift 61 = .ok (.invokevirtual 88, 3) := by decide +kernel
theorem dX5_shift_64 : decode cX5_shift 64 = .ok (.aload_n 0, 1) := by decide +kernel
theorem dX5_shift_65 : decode cX5_shift 65 = .ok (.iconst 0, 1) := by decide +kernel
theorem dX5_shift_66 : decode cX5_shift 66 = .ok (.iload 4, 2) := by decide +kernel
theorem dX5_shift_68 : decode cX5_shift 68 = .ok (.invokestatic 79, 3) := by decide +kernel
theorem dX5_shift_71 : decode cX5_shift 71 = .ok (.iconst 0, 1) := by decide +kernel
theorem dX5_shift_72 : decode cX5_shift 72 = .ok (.iload 4, 2) := by decide +kernel
theorem dX5_shift_74 : decode cX5_shift 74 = .ok (.invokestatic 79, 3) := by decide +kernel
theorem dX5_shift_77 : decode cX5_shift 77 = .ok (.sipush 136, 3) := by decide +kernel
theorem dX5_shift_80 : decode cX5_shift 80 = .ok (.iconst 1, 1) := by decide +kernel
theorem dX5_shift_81 : decode cX5_shift 81 = .ok (.invokevirtual 91, 3) := by decide +kernel
theorem dX5_shift_84 : decode cX5_shift 84 = .ok (.iinc 4 (-1), 3) := by decide +kernel
theorem dX5_shift_87 : decode cX5_shift 87 = .ok (.goto (-47), 3) := by decide +kernel
theorem dX5_shift_90 : decode cX5_shift 90 = .ok (.iinc 3 1, 3) := by decide +kernel
theorem dX5_shift_93 : decode cX5_shift 93 = .ok (.goto (-63), 3) := by decide +kernel
theorem dX5_shift_96 : decode cX5_shift 96 = .ok (.iconst 0, 1) := by decide +kernel
theorem dX5_shift_97 : decode cX5_shift 97 = .ok (.istore_n 3, 1) := by decide +kernel
theorem dX5_shift_98 : decode cX5_shift 98 = .ok (.iload_n 3, 1) := by decide +kernel
theorem dX5_shift_99 : decode cX5_shift 99 = .ok (.iload_n 2, 1) := by decide +kernel
theorem dX5_shift_100 : decode cX5_shift 100 = .ok (.if_icmp .gt 24, 3) := by decide +kernel
theorem dX5_shift_103 : decode cX5_shift 103 = .ok (.aload_n 0, 1) := by decide +kernel
theorem dX5_shift_104 : decode cX5_shift 104 = .ok (.iconst 0, 1) := by decide +kernel
theorem dX5_shift_105 : decode cX5_shift 105 = .ok (.iload_n 3, 1) := by decide +kernel
theorem dX5_shift_106 : decode cX5_shift 106 = .ok (.invokestatic 79, 3) := by decide +kernel
theorem dX5_shift_109 : decode cX5_shift 109 = .ok (.invokevirtual 210, 3) := by decide +kernel
theorem dX5_shift_112 : decode cX5_shift 112 = .ok (.ifCond .ne 6, 3) := by decide +kernel
theorem dX5_shift_115 : decode cX5_shift 115 = .ok (.bipush (-5), 2) := by decide +kernel
theorem dX5_shift_117 : decode cX5_shift 117 = .ok (.ireturn, 1) := by decide +kernel
theorem dX5_shift_118 : decode cX5_shift 118 = .ok (.iinc 3 1, 3) := by decide +kernel
theorem dX5_shift_121 : decode cX5_shift 121 = .ok (.goto (-23), 3) := by decide +kernel
theorem dX5_shift_124 : decode cX5_shift 124 = .ok (.iconst 0, 1) := by decide +kernel
theorem dX5_shift_125 : decode cX5_shift 125 = .ok (.istore_n 3, 1) := by decide +kernel
theorem dX5_shift_126 : decode cX5_shift 126 = .ok (.iload_n 3, 1) := by decide +kernel
theorem dX5_shift_127 : decode cX5_shift 127 = .ok (.iload_n 2, 1) := by decide +kernel
theorem dX5_shift_128 : decode cX5_shift 128 = .ok (.if_icmp .gt 57, 3) := by decide +kernel
theorem dX5_shift_131 : decode cX5_shift 131 = .ok (.iconst 0, 1) := by decide +kernel
theorem dX5_shift_132 : decode cX5_shift 132 = .ok (.iload_n 3, 1) := by decide +kernel
theorem dX5_shift_133 : decode cX5_shift 133 = .ok (.invokestatic 79, 3) := by decide +kernel
theorem dX5_shift_136 : decode cX5_shift 136 = .ok (.istore 4, 2) := by decide +kernel
theorem dX5_shift_138 : decode cX5_shift 138 = .ok (.aload_n 0, 1) := by decide +kernel
theorem dX5_shift_139 : decode cX5_shift 139 = .ok (.getfield 9, 3) := by decide +kernel
theorem dX5_shift_142 : decode cX5_shift 142 = .ok (.iconst 0, 1) := by decide +kernel
theorem dX5_shift_143 : decode cX5_shift 143 = .ok (.aaload, 1) := by decide +kernel
theorem dX5_shift_144 : decode cX5_shift 144 = .ok (.iload_n 3, 1) := by decide +kernel
theorem dX5_shift_145 : decode cX5_shift 145 = .ok (.aload_n 0, 1) := by decide +kernel
theorem dX5_shift_146 : decode cX5_shift 146 = .ok (.getfield 19, 3) := by decide +kernel
theorem dX5_shift_149 : decode cX5_shift 149 = .ok (.iload 4, 2) := by decide +kernel
theorem dX5_shift_151 : decode cX5_shift 151 = .ok (.iaload, 1) := by decide +kernel
theorem dX5_shift_152 : decode cX5_shift 152 = .ok (.ifCond .ne 7, 3) := by decide +kernel
theorem dX5_shift_155 : decode cX5_shift 155 = .ok (.iconst 0, 1) := by decide +kernel
theorem dX5_shift_156 : decode cX5_shift 156 = .ok (.goto 22, 3) := by decide +kernel
theorem dX5_shift_159 : decode cX5_shift 159 = .ok (.aload_n 0, 1) := by decide +kernel
theorem dX5_shift_160 : decode cX5_shift 160 = .ok (.getfield 22, 3) := by decide +kernel
theorem dX5_shift_163 : decode cX5_shift 163 = .ok (.iload 4, 2) := by decide +kernel
theorem dX5_shift_165 : decode cX5_shift 165 = .ok (.iaload, 1) := by decide +kernel
theorem dX5_shift_166 : decode cX5_shift 166 = .ok (.aload_n 0, 1) := by decide +kernel
theorem dX5_shift_167 : decode cX5_shift 167 = .ok (.getfield 15, 3) := by decide +kernel
theorem dX5_shift_170 : decode cX5_shift 170 = .ok (.sipush 640, 3) := by decide +kernel
theorem dX5_shift_173 : decode cX5_shift 173 = .ok (.iload 4, 2) := by decide +kernel
theorem dX5_shift_175 : decode cX5_shift 175 = .ok (.imul, 1) := by decide +kernel
theorem dX5_shift_176 : decode cX5_shift 176 = .ok (.iaload, 1) := by decide +kernel
theorem dX5_shift_177 : decode cX5_shift 177 = .ok (.imul, 1) := by decide +kernel
theorem dX5_shift_178 : decode cX5_shift 178 = .ok (.iastore, 1) := by decide +kernel
theorem dX5_shift_179 : decode cX5_shift 179 = .ok (.iinc 3 1, 3) := by decide +kernel
theorem dX5_shift_182 : decode cX5_shift 182 = .ok (.goto (-56), 3) := by decide +kernel
theorem dX5_shift_185 : decode cX5_shift 185 = .ok (.aload_n 0, 1) := by decide +kernel
theorem dX5_shift_186 : decode cX5_shift 186 = .ok (.invokevirtual 150, 3) := by decide +kernel
theorem dX5_shift_189 : decode cX5_shift 189 = .ok (.aload_n 0, 1) := by decide +kernel
theorem dX5_shift_190 : decode cX5_shift 190 = .ok (.iconst 0, 1) := by decide +kernel
theorem dX5_shift_191 : decode cX5_shift 191 = .ok (.invokevirtual 156, 3) := by decide +kernel
theorem dX5_shift_194 : decode cX5_shift 194 = .ok (.ireturn, 1) := by decide +kernel
theorem dX5_swap_0 : decode cX5_swap 0 = .ok (.iconst 0, 1) := by decide +kernel
theorem dX5_swap_1 : decode cX5_swap 1 = .ok (.istore_n 1, 1) := by decide +kernel
theorem dX5_swap_2 : decode cX5_swap 2 = .ok (.iload_n 1, 1) := by decide +kernel
theorem dX5_swap_3 : decode cX5_swap 3 = .ok (.bipush 9, 2) := by decide +kernel
theorem dX5_swap_5 : decode cX5_swap 5 = .ok (.if_icmp .ge 43, 3) := by decide +kernel
theorem dX5_swap_8 : decode cX5_swap 8 = .ok (.aload_n 0, 1) := by decide +kernel
theorem dX5_swap_9 : decode cX5_swap 9 = .ok (.getfield 9, 3) := by decide +kernel
theorem dX5_swap_12 : decode cX5_swap 12 = .ok (.iconst 0, 1) := by decide +kernel
theorem dX5_swap_13 : decode cX5_swap 13 = .ok (.aaload, 1) := by decide +kernel
theorem dX5_swap_14 : decode cX5_swap 14 = .ok (.iload_n 1, 1) := by decide +kernel
theorem dX5_swap_15 : decode cX5_swap 15 = .ok (.iaload, 1) := by decide +kernel
theorem dX5_swap_16 : decode cX5_swap 16 = .ok (.istore_n 2, 1) := by decide +kernel
theorem dX5_swap_17 : decode cX5_swap 17 = .ok (.aload_n 0, 1) := by decide +kernel
theorem dX5_swap_18 : decode cX5_swap 18 = .ok (.getfield 9, 3) := by decide +kernel
theorem dX5_swap_21 : decode cX5_swap 21 = .ok (.iconst 0, 1) := by decide +kernel
theorem dX5_swap_22 : decode cX5_swap 22 = .ok (.aaload, 1) := by decide +kernel
theorem dX5_swap_23 : decode cX5_swap 23 = .ok (.iload_n 1, 1) := by decide +kernel
theorem dX5_swap_24 : decode cX5_swap 24 = .ok (.aload_n 0, 1) := by decide +kernel
theorem dX5_swap_25 : decode cX5_swap 25 = .ok (.getfield 9, 3) := by decide +kernel
theorem dX5_swap_28 : decode cX5_swap 28 = .ok (.iconst 1, 1) := by decide +kernel
theorem dX5_swap_29 : decode cX5_swap 29 = .ok (.aaload, 1) := by decide +kernel
theorem dX5_swap_30 : decode cX5_swap 30 = .ok (.iload_n 1, 1) := by decide +kernel
theorem dX5_swap_31 : decode cX5_swap 31 = .ok (.iaload, 1) := by decide +kernel
theorem dX5_swap_32 : decode cX5_swap 32 = .ok (.iastore, 1) := by decide +kernel
theorem dX5_swap_33 : decode cX5_swap 33 = .ok (.aload_n 0, 1) := by decide +kernel
theorem dX5_swap_34 : decode cX5_swap 34 = .ok (.getfield 9, 3) := by decide +kernel
theorem dX5_swap_37 : decode cX5_swap 37 = .ok (.iconst 1, 1) := by decide +kernel
theorem dX5_swap_38 : decode cX5_swap 38 = .ok (.aaload, 1) := by decide +kernel
theorem dX5_swap_39 : decode cX5_swap 39 = .ok (.iload_n 1, 1) := by decide +kernel
theorem dX5_swap_40 : decode cX5_swap 40 = .ok (.iload_n 2, 1) := by decide +kernel
theorem dX5_swap_41 : decode cX5_swap 41 = .ok (.iastore, 1) := by decide +kernel
theorem dX5_swap_42 : decode cX5_swap 42 = .ok (.iinc 1 1, 3) := by decide +kernel
theorem dX5_swap_45 : decode cX5_swap 45 = .ok (.goto (-43), 3) := by decide +kernel
theorem dX5_swap_48 : decode cX5_swap 48 = .ok (.aload_n 0, 1) := by decide +kernel
theorem dX5_swap_49 : decode cX5_swap 49 = .ok (.invokevirtual 150, 3) := by decide +kernel
theorem dX5_swap_52 : decode cX5_swap 52 = .ok (.aload_n 0, 1) := by decide +kernel
theorem dX5_swap_53 : decode cX5_swap 53 = .ok (.iconst 0, 1) := by decide +kernel
theorem dX5_swap_54 : decode cX5_swap 54 = .ok (.invokevirtual 156, 3) := by decide +kernel
theorem dX5_swap_57 : decode cX5_swap 57 = .ok (.ireturn, 1) := by decide +kernel
