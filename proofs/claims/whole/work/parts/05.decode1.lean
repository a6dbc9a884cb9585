theorem dX11_shells_0 : decode cX11_shells 0 = .ok (.aload_n 0, 1) := by decide +kernel
theorem dX11_shells_1 : decode cX11_shells 1 = .ok (.iload_n 1, 1) := by decide +kernel
theorem dX11_shells_2 : decode cX11_shells 2 = .ok (.invokevirtual 227, 3) := by decide +kernel
theorem dX11_shells_5 : decode cX11_shells 5 = .ok (.ifCond .eq 12, 3) := by decide +kernel
theorem dX11_shells_8 : decode cX11_shells 8 = .ok (.iload_n 2, 1) := by decide +kernel
theorem dX11_shells_9 : decode cX11_shells 9 = .ok (.iconst 0, 1) := by decide +kernel
theorem dX11_shells_10 : decode cX11_shells 10 = .ok (.iconst 1, 1) := by decide +kernel
theorem dX11_shells_11 : decode cX11_shells 11 = .ok (.invokestatic 75, 3) := by decide +kernel
theorem dX11_shells_14 : decode cX11_shells 14 = .ok (.ifCond .ne 12, 3) := by decide +kernel
theorem dX11_shells_17 : decode cX11_shells 17 = .ok (.aload_n 0, 1) := by decide +kernel
theorem dX11_shells_18 : decode cX11_shells 18 = .ok (.bipush (-2), 2) := by decide +kernel
theorem dX11_shells_20 : decode cX11_shells 20 = .ok (.bipush (-10), 2) := by decide +kernel
theorem dX11_shells_22 : decode cX11_shells 22 = .ok (.invokevirtual 79, 3) := by decide +kernel
theorem dX11_shells_25 : decode cX11_shells 25 = .ok (.ireturn, 1) := by decide +kernel
theorem dX11_shells_26 : decode cX11_shells 26 = .ok (.iconst (-1), 1) := by decide +kernel
theorem dX11_shells_27 : decode cX11_shells 27 = .ok (.istore_n 3, 1) := by decide +kernel
theorem dX11_shells_28 : decode cX11_shells 28 = .ok (.iconst 0, 1) := by decide +kernel
theorem dX11_shells_29 : decode cX11_shells 29 = .ok (.istore 4, 2) := by decide +kernel
theorem dX11_shells_31 : decode cX11_shells 31 = .ok (.iconst 0, 1) := by decide +kernel
theorem dX11_shells_32 : decode cX11_shells 32 = .ok (.istore 5, 2) := by decide +kernel
theorem dX11_shells_34 : decode cX11_shells 34 = .ok (.iload 5, 2) := by decide +kernel
theorem dX11_shells_36 : decode cX11_shells 36 = .ok (.aload_n 0, 1) := by decide +kernel
theorem dX11_shells_37 : decode cX11_shells 37 = .ok (.getfield 30, 3) := by decide +kernel
theorem dX11_shells_40 : decode cX11_shells 40 = .ok (.getfield 100, 3) := by decide +kernel
theorem dX11_shells_43 : decode cX11_shells 43 = .ok (.getfield 230, 3) := by decide +kernel
theorem dX11_shells_46 : decode cX11_shells 46 = .ok (.if_icmp .gt 32, 3) := by decide +kernel
theorem dX11_shells_49 : decode cX11_shells 49 = .ok (.iload 5, 2) := by decide +kernel
theorem dX11_shells_51 : decode cX11_shells 51 = .ok (.iload_n 1, 1) := by decide +kernel
theorem dX11_shells_52 : decode cX11_shells 52 = .ok (.invokestatic 270, 3) := by decide +kernel
theorem dX11_shells_55 : decode cX11_shells 55 = .ok (.ifCond .ne 6, 3) := by decide +kernel
theorem dX11_shells_58 : decode cX11_shells 58 = .ok (.goto 14, 3) := by decide +kernel
theorem dX11_shells_61 : decode cX11_shells 61 = .ok (.iload 4, 2) := by decide +kernel
theorem dX11_shells_63 : decode cX11_shells 63 = .ok (.ifCond .ne 6, 3) := by decide +kernel
theorem dX11_shells_66 : decode cX11_shells 66 = .ok (.iload 5, 2) := by decide +kernel
theorem dX11_shells_68 : decode cX11_shells 68 = .ok (.istore_n 3, 1) := by decide +kernel
theorem dX11_shells_69 : decode cX11_shells 69 = .ok (.iinc 4 1, 3) := by decide +kernel
theorem dX11_shells_72 : decode cX11_shells 72 = .ok (.iinc 5 1, 3) := by decide +kernel
theorem dX11_shells_75 : decode cX11_shells 75 = .ok (.goto (-41), 3) := by decide +kernel
theorem dX11_shells_78 : decode cX11_shells 78 = .ok (.iload_n 2, 1) := by decide +kernel
theorem dX11_shells_79 : decode cX11_shells 79 = .ok (.ifCond .ne 8, 3) := by decide +kernel
theorem dX11_shells_82 : decode cX11_shells 82 = .ok (.iload 4, 2) := by decide +kernel
theorem dX11_shells_84 : decode cX11_shells 84 = .ok (.goto 4, 3) := by decide +kernel
theorem dX11_shells_87 : decode cX11_shells 87 = .ok (.iload_n 3, 1) := by decide +kernel
theorem dX11_shells_88 : decode cX11_shells 88 = .ok (.ireturn, 1) := by decide +kernel
theorem dX11_vote_0 : decode cX11_vote 0 = .ok (.iload_n 1, 1) := by decide +kernel
theorem dX11_vote_1 : decode cX11_vote 1 = .ok (.iconst 1, 1) := by decide +kernel
theorem dX11_vote_2 : decode cX11_vote 2 = .ok (.bipush 12, 2) := by decide +kernel
theorem dX11_vote_4 : decode cX11_vote 4 = .ok (.invokestatic 75, 3) := by decide +kernel
theorem dX11_vote_7 : decode cX11_vote 7 = .ok (.ifCond .eq 22, 3) := by decide +kernel
theorem dX11_vote_10 : decode cX11_vote 10 = .ok (.iload_n 2, 1) := by decide +kernel
theorem dX11_vote_11 : decode cX11_vote 11 = .ok (.iconst 0, 1) := by decide +kernel
theorem dX11_vote_12 : decode cX11_vote 12 = .ok (.bipush 12, 2) := by decide +kernel
theorem dX11_vote_14 : decode cX11_vote 14 = .ok (.invokestatic 75, 3) := by decide +kernel
theorem dX11_vote_17 : decode cX11_vote 17 = .ok (.ifCond .eq 12, 3) := by decide +kernel
theorem dX11_vote_20 : decode cX11_vote 20 = .ok (.iload_n 3, 1) := by decide +kernel
theorem dX11_vote_21 : decode cX11_vote 21 = .ok (.iconst 0, 1) := by decide +kernel
theorem dX11_vote_22 : decode cX11_vote 22 = .ok (.iconst 1, 1) := by decide +kernel
theorem dX11_vote_23 : decode cX11_vote 23 = .ok (.invokestatic 75, 3) := by decide +kernel
theorem dX11_vote_26 : decode cX11_vote 26 = .ok (.ifCond .ne 12, 3) := by decide +kernel
theorem dX11_vote_29 : decode cX11_vote 29 = .ok (.aload_n 0, 1) := by decide +kernel
theorem dX11_vote_30 : decode cX11_vote 30 = .ok (.bipush (-2), 2) := by decide +kernel
theorem dX11_vote_32 : decode cX11_vote 32 = .ok (.bipush (-2), 2) := by decide +kernel
theorem dX11_vote_34 : decode cX11_vote 34 = .ok (.invokevirtual 79, 3) := by decide +kernel
theorem dX11_vote_37 : decode cX11_vote 37 = .ok (.ireturn, 1) := by decide +kernel
theorem dX11_vote_38 : decode cX11_vote 38 = .ok (.aload_n 0, 1) := by decide +kernel
theorem dX11_vote_39 : decode cX11_vote 39 = .ok (.getfield 36, 3) := by decide +kernel
theorem dX11_vote_42 : decode cX11_vote 42 = .ok (.getfield 82, 3) := by decide +kernel
theorem dX11_vote_45 : decode cX11_vote 45 = .ok (.aload_n 0, 1) := by decide +kernel
theorem dX11_vote_46 : decode cX11_vote 46 = .ok (.getfield 30, 3) := by decide +kernel
theorem dX11_vote_49 : decode cX11_vote 49 = .ok (.getfield 82, 3) := by decide +kernel
theorem dX11_vote_52 : decode cX11_vote 52 = .ok (.invokevirtual 142, 3) := by decide +kernel
theorem dX11_vote_55 : decode cX11_vote 55 = .ok (.iconst 0, 1) := by decide +kernel
theorem dX11_vote_56 : decode cX11_vote 56 = .ok (.istore 4, 2) := by decide +kernel
theorem dX11_vote_58 : decode cX11_vote 58 = .ok (.iload 4, 2) := by decide +kernel
theorem dX11_vote_60 : decode cX11_vote 60 = .ok (.iload_n 1, 1) := by decide +kernel
theorem dX11_vote_61 : decode cX11_vote 61 = .ok (.if_icmp .ge 21, 3) := by decide +kernel
theorem dX11_vote_64 : decode cX11_vote 64 = .ok (.aload_n 0, 1) := by decide +kernel
theorem dX11_vote_65 : decode cX11_vote 65 = .ok (.aload_n 0, 1) := by decide +kernel
theorem dX11_vote_66 : decode cX11_vote 66 = .ok (.getfield 30, 3) := by decide +kernel
theorem dX11_vote_69 : decode cX11_vote 69 = .ok (.getfield 100, 3) := by decide +kernel
theorem dX11_vote_72 : decode cX11_vote 72 = .ok (.invokevirtual 206, 3) := by decide +kernel
theorem dX11_vote_75 : decode cX11_vote 75 = .ok (.pop, 1) := by decide +kernel
theorem dX11_vote_76 : decode cX11_vote 76 = .ok (.iinc 4 1, 3) := by decide +kernel
theorem dX11_vote_79 : decode cX11_vote 79 = .ok (.goto (-21), 3) := by decide +kernel
theorem dX11_vote_82 : decode cX11_vote 82 = .ok (.iconst 0, 1) := by decide +kernel
theorem dX11_vote_83 : decode cX11_vote 83 = .ok (.istore 4, 2) := by decide +kernel
theorem dX11_vote_85 : decode cX11_vote 85 = .ok (.iconst 0, 1) := by decide +kernel
theorem dX11_vote_86 : decode cX11_vote 86 = .ok (.istore 5, 2) := by decide +kernel
theorem dX11_vote_88 : decode cX11_vote 88 = .ok (.iconst 0, 1) := by decide +kernel
theorem dX11_vote_89 : decode cX11_vote 89 = .ok (.istore 6, 2) := by decide +kernel
theorem dX11_vote_91 : decode cX11_vote 91 = .ok (.iload 6, 2) := by decide +kernel
theorem dX11_vote_93 : decode cX11_vote 93 = .ok (.aload_n 0, 1) := by decide +kernel
theorem dX11_vote_94 : decode cX11_vote 94 = .ok (.getfield 30, 3) := by decide +kernel
theorem dX11_vote_97 : decode cX11_vote 97 = .ok (.getfield 100, 3) := by decide +kernel
theorem dX11_vote_100 : decode cX11_vote 100 = .ok (.getfield 230, 3) := by decide +kernel
theorem dX11_vote_103 : decode cX11_vote 103 = .ok (.if_icmp .ge 93, 3) := by decide +kernel
theorem dX11_vote_106 : decode cX11_vote 106 = .ok (.aload_n 0, 1) := by decide +kernel
theorem dX11_vote_107 : decode cX11_vote 107 = .ok (.getfield 30, 3) := by decide +kernel
theorem dX11_vote_110 : decode cX11_vote 110 = .ok (.getfield 82, 3) := by decide +kernel
theorem dX11_vote_113 : decode cX11_vote 113 = .ok (.iload 6, 2) := by decide +kernel
theorem dX11_vote_115 : decode cX11_vote 115 = .ok (.invokevirtual 177, 3) := by decide +kernel
theorem dX11_vote_118 : decode cX11_vote 118 = .ok (.ifCond .eq 6, 3) := by decide +kernel
theorem dX11_vote_121 : decode cX11_vote 121 = .ok (.goto 69, 3) := by decide +kernel
theorem dX11_vote_124 : decode cX11_vote 124 = .ok (.aload_n 0, 1) := by decide +kernel
theorem dX11_vote_125 : decode cX11_vote 125 = .ok (.getfield 30, 3) := by decide +kernel
theorem dX11_vote_128 : decode cX11_vote 128 = .ok (.getfield 100, 3) := by decide +kernel
theorem dX11_vote_131 : decode cX11_vote 131 = .ok (.getfield 165, 3) := by decide +kernel
theorem dX11_vote_134 : decode cX11_vote 134 = .ok (.iload 6, 2) := by decide +kernel
theorem dX11_vote_136 : decode cX11_vote 136 = .ok (.iaload, 1) := by decide +kernel
theorem dX11_vote_137 : decode cX11_vote 137 = .ok (.bipush 10, 2) := by decide +kernel
theorem dX11_vote_139 : decode cX11_vote 139 = .ok (.idiv, 1) := by decide +kernel
theorem dX11_vote_140 : decode cX11_vote 140 = .ok (.istore 7, 2) := by decide +kernel
theorem dX11_vote_142 : decode cX11_vote 142 = .ok (.aload_n 0, 1) := by decide +kernel
theorem dX11_vote_143 : decode cX11_vote 143 = .ok (.getfield 36, 3) := by decide +kernel
theorem dX11_vote_146 : decode cX11_vote 146 = .ok (.getfield 82, 3) := by decide +kernel
theorem dX11_vote_149 : decode cX11_vote 149 = .ok (.getfield 174, 3) := by decide +kernel
theorem dX11_vote_152 : decode cX11_vote 152 = .ok (.iload 6, 2) := by decide +kernel
theorem dX11_vote_154 : decode cX11_vote 154 = .ok (.iaload, 1) := by decide +kernel
theorem dX11_vote_155 : decode cX11_vote 155 = .ok (.aload_n 0, 1) := by decide +kernel
theorem dX11_vote_156 : decode cX11_vote 156 = .ok (.getfield 30, 3) := by decide +kernel
theorem dX11_vote_159 : decode cX11_vote 159 = .ok (.getfield 82, 3) := by decide +kernel
theorem dX11_vote_162 : decode cX11_vote 162 = .ok (.getfield 174, 3) := by decide +kernel
theorem dX11_vote_165 : decode cX11_vote 165 = .ok (.iload 6, 2) := by decide +kernel
theorem dX11_vote_167 : decode cX11_vote 167 = .ok (.iaload, 1) := by decide +kernel
theorem dX11_vote_168 : decode cX11_vote 168 = .ok (.isub, 1) := by decide +kernel
theorem dX11_vote_169 : decode cX11_vote 169 = .ok (.iload_n 2, 1) := by decide +kernel
theorem dX11_vote_170 : decode cX11_vote 170 = .ok (.if_icmp .le 13, 3) := by decide +kernel
theorem dX11_vote_173 : decode cX11_vote 173 = .ok (.iload 4, 2) := by decide +kernel
theorem dX11_vote_175 : decode cX11_vote 175 = .ok (.iload 7, 2) := by decide +kernel
theorem dX11_vote_177 : decode cX11_vote 177 = .ok (.iadd, 1) := by decide +kernel
theorem dX11_vote_178 : decode cX11_vote 178 = .ok (.istore 4, 2) := by decide +kernel
theorem dX11_vote_180 : decode cX11_vote 180 = .ok (.goto 10, 3) := by decide +kernel
theorem dX11_vote_183 : decode cX11_vote 183 = .ok (.iload 5, 2) := by decide +kernel
theorem dX11_vote_185 : decode cX11_vote 185 = .ok (.iload 7, 2) := by decide +kernel
theorem dX11_vote_187 : decode cX11_vote 187 = .ok (.iadd, 1) := by decide +kernel
theorem dX11_vote_188 : decode cX11_vote 188 = .ok (.istore 5, 2) := by decide +kernel
theorem dX11_vote_190 : decode cX11_vote 190 = .ok (.iinc 6 1, 3) := by decide +kernel
theorem dX11_vote_193 : decode cX11_vote 193 = .ok (.goto (-102), 3) := by decide +kernel
theorem dX11_vote_196 : decode cX11_vote 196 = .ok (.iload_n 3, 1) := by decide +kernel
theorem dX11_vote_197 : decode cX11_vote 197 = .ok (.ifCond .ne 8, 3) := by decide +kernel
theorem dX11_vote_200 : decode cX11_vote 200 = .ok (.iload 4, 2) := by decide +kernel
theorem dX11_vote_202 : decode cX11_vote 202 = .ok (.goto 5, 3) := by decide +kernel
theorem dX11_vote_205 : decode cX11_vote 205 = .ok (.iload 5, 2) := by decide +kernel
theorem dX11_vote_207 : decode cX11_vote 207 = .ok (.ireturn, 1) := by decide +kernel
theorem dX11_drawn_0 : decode cX11_drawn 0 = .ok (.iload_n 1, 1) := by decide +kernel
theorem dX11_drawn_1 : decode cX11_drawn 1 = .ok (.iconst 0, 1) := by decide +kernel
theorem dX11_drawn_2 : decode cX11_drawn 2 = .ok (.bipush 30, 2) := by decide +kernel
theorem dX11_drawn_4 : decode cX11_drawn 4 = .ok (.invokestatic 75, 3) := by decide +kernel
theorem dX11_drawn_7 : decode cX11_drawn 7 = .ok (.ifCond .eq 23, 3) := by decide +kernel
theorem dX11_drawn_10 : decode cX11_drawn 10 = .ok (.iload_n 2, 1) := by decide +kernel
theorem dX11_drawn_11 : decode cX11_drawn 11 = .ok (.iconst 0, 1) := by decide +kernel
theorem dX11_drawn_12 : decode cX11_drawn 12 = .ok (.ldc_w 273, 3) := by decide +kernel
theorem dX11_drawn_15 : decode cX11_drawn 15 = .ok (.invokestatic 75, 3) := by decide +kernel
theorem dX11_drawn_18 : decode cX11_drawn 18 = .ok (.ifCond .eq 12, 3) := by decide +kernel
theorem dX11_drawn_21 : decode cX11_drawn 21 = .ok (.iload_n 3, 1) := by decide +kernel
theorem dX11_drawn_22 : decode cX11_drawn 22 = .ok (.iconst 0, 1) := by decide +kernel
theorem dX11_drawn_23 : decode cX11_drawn 23 = .ok (.iconst 4, 1) := by decide +kernel
theorem dX11_drawn_24 : decode cX11_drawn 24 = .ok (.invokestatic 75, 3) := by decide +kernel
theorem dX11_drawn_27 : decode cX11_drawn 27 = .ok (.ifCond .ne 12, 3) := by decide +kernel
theorem dX11_drawn_30 : decode cX11_drawn 30 = .ok (.aload_n 0, 1) := by decide +kernel
theorem dX11_drawn_31 : decode cX11_drawn 31 = .ok (.bipush (-2), 2) := by decide +kernel
theorem dX11_drawn_33 : decode cX11_drawn 33 = .ok (.bipush (-2), 2) := by decide +kernel
theorem dX11_drawn_35 : decode cX11_drawn 35 = .ok (.invokevirtual 79, 3) := by decide +kernel
theorem dX11_drawn_38 : decode cX11_drawn 38 = .ok (.ireturn, 1) := by decide +kernel
theorem dX11_drawn_39 : decode cX11_drawn 39 = .ok (.aload_n 0, 1) := by decide +kernel
theorem dX11_drawn_40 : decode cX11_drawn 40 = .ok (.getfield 36, 3) := by decide +kernel
theorem dX11_drawn_43 : decode cX11_drawn 43 = .ok (.getfield 82, 3) := by decide +kernel
theorem dX11_drawn_46 : decode cX11_drawn 46 = .ok (.aload_n 0, 1) := by decide +kernel
theorem dX11_drawn_47 : decode cX11_drawn 47 = .ok (.getfield 30, 3) := by decide +kernel
theorem dX11_drawn_50 : decode cX11_drawn 50 = .ok (.getfield 82, 3) := by decide +kernel
theorem dX11_drawn_53 : decode cX11_drawn 53 = .ok (.invokevirtual 142, 3) := by decide +kernel
theorem dX11_drawn_56 : decode cX11_drawn 56 = .ok (.iload_n 2, 1) := by decide +kernel
theorem dX11_drawn_57 : decode cX11_drawn 57 = .ok (.i2l, 1) := by decide +kernel
theorem dX11_drawn_58 : decode cX11_drawn 58 = .ok (.lstore 4, 2) := by decide +kernel
theorem dX11_drawn_60 : decode cX11_drawn 60 = .ok (.iconst 0, 1) := by decide +kernel
theorem dX11_drawn_61 : decode cX11_drawn 61 = .ok (.istore 6, 2) := by decide +kernel
theorem dX11_drawn_63 : decode cX11_drawn 63 = .ok (.iconst 0, 1) := by decide +kernel
theorem dX11_drawn_64 : decode cX11_drawn 64 = .ok (.istore 7, 2) := by decide +kernel
theorem dX11_drawn_66 : decode cX11_drawn 66 = .ok (.iload 7, 2) := by decide +kernel
theorem dX11_drawn_68 : decode cX11_drawn 68 = .ok (.iload_n 1, 1) := by decide +kernel
theorem dX11_drawn_69 : decode cX11_drawn 69 = .ok (.if_icmp .ge 80, 3) := by decide +kernel
theorem dX11_drawn_72 : decode cX11_drawn 72 = .ok (.lload 4, 2) := by decide +kernel
theorem dX11_drawn_74 : decode cX11_drawn 74 = .ok (.ldc2_w 274, 3) := by decide +kernel
theorem dX11_drawn_77 : decode cX11_drawn 77 = .ok (.lmul, 1) := by decide +kernel
theorem dX11_drawn_78 : decode cX11_drawn 78 = .ok (.ldc2_w 276, 3) := by decide +kernel
theorem dX11_drawn_81 : decode cX11_drawn 81 = .ok (.ladd, 1) := by decide +kernel
theorem dX11_drawn_82 : decode cX11_drawn 82 = .ok (.ldc2_w 278, 3) := by decide +kernel
theorem dX11_drawn_85 : decode cX11_drawn 85 = .ok (.lrem, 1) := by decide +kernel
theorem dX11_drawn_86 : decode cX11_drawn 86 = .ok (.lstore 4, 2) := by decide +kernel
theorem dX11_drawn_88 : decode cX11_drawn 88 = .ok (.lload 4, 2) := by decide +kernel
theorem dX11_drawn_90 : decode cX11_drawn 90 = .ok (.ldc2_w 280, 3) := by decide +kernel
theorem dX11_drawn_93 : decode cX11_drawn 93 = .ok (.ldiv, 1) := by decide +kernel
theorem dX11_drawn_94 : decode cX11_drawn 94 = .ok (.ldc2_w 282, 3) := by decide +kernel
theorem dX11_drawn_97 : decode cX11_drawn 97 = .ok (.lrem, 1) := by decide +kernel
theorem dX11_drawn_98 : decode cX11_drawn 98 = .ok (.l2i, 1) := by decide +kernel
theorem dX11_drawn_99 : decode cX11_drawn 99 = .ok (.aload_n 0, 1) := by decide +kernel
theorem dX11_drawn_100 : decode cX11_drawn 100 = .ok (.getfield 30, 3) := by decide +kernel
theorem dX11_drawn_103 : decode cX11_drawn 103 = .ok (.getfield 100, 3) := by decide +kernel
theorem dX11_drawn_106 : decode cX11_drawn 106 = .ok (.aload_n 0, 1) := by decide +kernel
theorem dX11_drawn_107 : decode cX11_drawn 107 = .ok (.getfield 36, 3) := by decide +kernel
theorem dX11_drawn_110 : decode cX11_drawn 110 = .ok (.getfield 82, 3) := by decide +kernel
theorem dX11_drawn_113 : decode cX11_drawn 113 = .ok (.getfield 110, 3) := by decide +kernel
theorem dX11_drawn_116 : decode cX11_drawn 116 = .ok (.invokevirtual 284, 3) := by decide +kernel
theorem dX11_drawn_119 : decode cX11_drawn 119 = .ok (.iadd, 1) := by decide +kernel
theorem dX11_drawn_120 : decode cX11_drawn 120 = .ok (.istore 8, 2) := by decide +kernel
theorem dX11_drawn_122 : decode cX11_drawn 122 = .ok (.aload_n 0, 1) := by decide +kernel
theorem dX11_drawn_123 : decode cX11_drawn 123 = .ok (.getfield 30, 3) := by decide +kernel
theorem dX11_drawn_126 : decode cX11_drawn 126 = .ok (.getfield 100, 3) := by decide +kernel
theorem dX11_drawn_129 : decode cX11_drawn 129 = .ok (.aload_n 0, 1) := by decide +kernel
theorem dX11_drawn_130 : decode cX11_drawn 130 = .ok (.getfield 36, 3) := by decide +kernel
theorem dX11_drawn_133 : decode cX11_drawn 133 = .ok (.getfield 82, 3) := by decide +kernel
theorem dX11_drawn_136 : decode cX11_drawn 136 = .ok (.iload 8, 2) := by decide +kernel
theorem dX11_drawn_138 : decode cX11_drawn 138 = .ok (.invokevirtual 151, 3) := by decide +kernel
theorem dX11_drawn_141 : decode cX11_drawn 141 = .ok (.istore 6, 2) := by decide +kernel
theorem dX11_drawn_143 : decode cX11_drawn 143 = .ok (.iinc 7 1, 3) := by decide +kernel
theorem dX11_drawn_146 : decode cX11_drawn 146 = .ok (.goto (-80), 3) := by decide +kernel
theorem dX11_drawn_149 : decode cX11_drawn 149 = .ok (.aload_n 0, 1) := by decide +kernel
theorem dX11_drawn_150 : decode cX11_drawn 150 = .ok (.iload 6, 2) := by decide +kernel
theorem dX11_drawn_152 : decode cX11_drawn 152 = .ok (.iload_n 3, 1) := by decide +kernel
theorem dX11_drawn_153 : decode cX11_drawn 153 = .ok (.invokevirtual 210, 3) := by decide +kernel
theorem dX11_drawn_156 : decode cX11_drawn 156 = .ok (.ireturn, 1) := by decide +kernel
theorem dX11_burn_0 : decode cX11_burn 0 = .ok (.iload_n 1, 1) := by decide +kernel
theorem dX11_burn_1 : decode cX11_burn 1 = .ok (.iconst 0, 1) := by decide +kernel
theorem dX11_burn_2 : decode cX11_burn 2 = .ok (.iconst 1, 1) := by decide +kernel
theorem dX11_burn_3 : decode cX11_burn 3 = .ok (.invokestatic 75, 3) := by decide +kernel
theorem dX11_burn_6 : decode cX11_burn 6 = .ok (.ifCond .ne 12, 3) := by decide +kernel
theorem dX11_burn_9 : decode cX11_burn 9 = .ok (.aload_n 0, 1) := by decide +kernel
theorem dX11_burn_10 : decode cX11_burn 10 = .ok (.bipush (-2), 2) := by decide +kernel
theorem dX11_burn_12 : decode cX11_burn 12 = .ok (.bipush (-2), 2) := by decide +kernel
theorem dX11_burn_14 : decode cX11_burn 14 = .ok (.invokevirtual 79, 3) := by decide +kernel
theorem dX11_burn_17 : decode cX11_burn 17 = .ok (.ireturn, 1) := by decide +kernel
theorem dX11_burn_18 : decode cX11_burn 18 = .ok (.aload_n 0, 1) := by decide +kernel
theorem dX11_burn_19 : decode cX11_burn 19 = .ok (.iload_n 1, 1) := by decide +kernel
theorem dX11_burn_20 : decode cX11_burn 20 = .ok (.ifCond .ne 13, 3) := by decide +kernel
theorem dX11_burn_23 : decode cX11_burn 23 = .ok (.aload_n 0, 1) := by decide +kernel
theorem dX11_burn_24 : decode cX11_burn 24 = .ok (.getfield 30, 3) := by decide +kernel
theorem dX11_burn_27 : decode cX11_burn 27 = .ok (.invokevirtual 287, 3) := by decide +kernel
theorem dX11_burn_30 : decode cX11_burn 30 = .ok (.goto 13, 3) := by decide +kernel
theorem dX11_burn_33 : decode cX11_burn 33 = .ok (.aload_n 0, 1) := by decide +kernel
theorem dX11_burn_34 : decode cX11_burn 34 = .ok (.getfield 30, 3) := by decide +kernel
theorem dX11_burn_37 : decode cX11_burn 37 = .ok (.getfield 100, 3) := by decide +kernel
theorem dX11_burn_40 : decode cX11_burn 40 = .ok (.invokevirtual 290, 3) := by decide +kernel
theorem dX11_burn_43 : decode cX11_burn 43 = .ok (.invokevirtual 58, 3) := by decide +kernel
theorem dX11_burn_46 : decode cX11_burn 46 = .ok (.ireturn, 1) := by decide +kernel
theorem dX11_image_0 : decode cX11_image 0 = .ok (.iload_n 1, 1) := by decide +kernel
theorem dX11_image_1 : decode cX11_image 1 = .ok (.iconst 0, 1) := by decide +kernel
theorem dX11_image_2 : decode cX11_image 2 = .ok (.iconst 1, 1) := by decide +kernel
theorem dX11_image_3 : decode cX11_image 3 = .ok (.invokestatic 75, 3) := by decide +kernel
theorem dX11_image_6 : decode cX11_image 6 = .ok (.ifCond .ne 12, 3) := by decide +kernel
theorem dX11_image_9 : decode cX11_image 9 = .ok (.aload_n 0, 1) := by decide +kernel
theorem dX11_image_10 : decode cX11_image 10 = .ok (.bipush (-2), 2) := by decide +kernel
theorem dX11_image_12 : decode cX11_image 12 = .ok (.bipush (-2), 2) := by decide +kernel
theorem dX11_image_14 : decode cX11_image 14 = .ok (.invokevirtual 79, 3) := by decide +kernel
theorem dX11_image_17 : decode cX11_image 17 = .ok (.ireturn, 1) := by decide +kernel
theorem dX11_image_18 : decode cX11_image 18 = .ok (.aload_n 0, 1) := by decide +kernel
theorem dX11_image_19 : decode cX11_image 19 = .ok (.getfield 39, 3) := by decide +kernel
theorem dX11_image_22 : decode cX11_image 22 = .ok (.iload_n 1, 1) := by decide +kernel
theorem dX11_image_23 : decode cX11_image 23 = .ok (.aaload, 1) := by decide +kernel
theorem dX11_image_24 : decode cX11_image 24 = .ok (.ifnonnull 26, 3) := by decide +kernel
theorem dX11_image_27 : decode cX11_image 27 = .ok (.aload_n 0, 1) := by decide +kernel
theorem dX11_image_28 : decode cX11_image 28 = .ok (.getfield 39, 3) := by decide +kernel
theorem dX11_image_31 : decode cX11_image 31 = .ok (.iload_n 1, 1) := by decide +kernel
theorem dX11_image_32 : decode cX11_image 32 = .ok (.new 25, 3) := by decide +kernel
theorem dX11_image_35 : decode cX11_image 35 = .ok (.dup, 1) := by decide +kernel
theorem dX11_image_36 : decode cX11_image 36 = .ok (.aload_n 0, 1) := by decide +kernel
theorem dX11_image_37 : decode cX11_image 37 = .ok (.getfield 30, 3) := by decide +kernel
theorem dX11_image_40 : decode cX11_image 40 = .ok (.getfield 100, 3) := by decide +kernel
theorem dX11_image_43 : decode cX11_image 43 = .ok (.getfield 293, 3) := by decide +kernel
theorem dX11_image_46 : decode cX11_image 46 = .ok (.invokespecial 27, 3) := by decide +kernel
theorem dX11_image_49 : decode cX11_image 49 = .ok (.aastore, 1) := by decide +kernel
theorem dX11_image_50 : decode cX11_image 50 = .ok (.aload_n 0, 1) := by decide +kernel
theorem dX11_image_51 : decode cX11_image 51 = .ok (.getfield 39, 3) := by decide +kernel
theorem dX11_image_54 : decode cX11_image 54 = .ok (.iload_n 1, 1) := by decide +kernel
theorem dX11_image_55 : decode cX11_image 55 = .ok (.aaload, 1) := by decide +kernel
theorem dX11_image_56 : decode cX11_image 56 = .ok (.aload_n 0, 1) := by decide +kernel
theorem dX11_image_57 : decode cX11_image 57 = .ok (.getfield 30, 3) := by decide +kernel
theorem dX11_image_60 : decode cX11_image 60 = .ok (.invokevirtual 297, 3) := by decide +kernel
theorem dX11_image_63 : decode cX11_image 63 = .ok (.iconst 1, 1) := by decide +kernel
theorem dX11_image_64 : decode cX11_image 64 = .ok (.ireturn, 1) := by decide +kernel
theorem dX11_from_0 : decode cX11_from 0 = .ok (.iload_n 1, 1) := by decide +kernel
theorem dX11_from_1 : decode cX11_from 1 = .ok (.iconst 0, 1) := by decide +kernel
theorem dX11_from_2 : decode cX11_from 2 = .ok (.iconst 1, 1) := by decide +kernel
theorem dX11_from_3 : decode cX11_from 3 = .ok (.invokestatic 75, 3) := by decide +kernel
theorem dX11_from_6 : decode cX11_from 6 = .ok (.ifCond .ne 12, 3) := by decide +kernel
theorem dX11_from_9 : decode cX11_from 9 = .ok (.aload_n 0, 1) := by decide +kernel
theorem dX11_from_10 : decode cX11_from 10 = .ok (.bipush (-2), 2) := by decide +kernel
theorem dX11_from_12 : decode cX11_from 12 = .ok (.bipush (-2), 2) := by decide +kernel
theorem dX11_from_14 : decode cX11_from 14 = .ok (.invokevirtual 79, 3) := by decide +kernel
theorem dX11_from_17 : decode cX11_from 17 = .ok (.ireturn, 1) := by decide +kernel
theorem dX11_from_18 : decode cX11_from 18 = .ok (.aload_n 0, 1) := by decide +kernel
theorem dX11_from_19 : decode cX11_from 19 = .ok (.getfield 39, 3) := by decide +kernel
theorem dX11_from_22 : decode cX11_from 22 = .ok (.iload_n 1, 1) := by decide +kernel
theorem dX11_from_23 : decode cX11_from 23 = .ok (.aaload, 1) := by decide +kernel
theorem dX11_from_24 : decode cX11_from 24 = .ok (.ifnonnull 12, 3) := by decide +kernel
theorem dX11_from_27 : decode cX11_from 27 = .ok (.aload_n 0, 1) := by decide +kernel
theorem dX11_from_28 : decode cX11_from 28 = .ok (.bipush (-3), 2) := by decide +kernel
theorem dX11_from_30 : decode cX11_from 30 = .ok (.bipush (-3), 2) := by decide +kernel
theorem dX11_from_32 : decode cX11_from 32 = .ok (.invokevirtual 79, 3) := by decide +kernel
theorem dX11_from_35 : decode cX11_from 35 = .ok (.ireturn, 1) := by decide +kernel
theorem dX11_from_36 : decode cX11_from 36 = .ok (.aload_n 0, 1) := by decide +kernel
theorem dX11_from_37 : decode cX11_from 37 = .ok (.getfield 30, 3) := by decide +kernel
theorem dX11_from_40 : decode cX11_from 40 = .ok (.aload_n 0, 1) := by decide +kernel
theorem dX11_from_41 : decode cX11_from 41 = .ok (.getfield 39, 3) := by decide +kernel
theorem dX11_from_44 : decode cX11_from 44 = .ok (.iload_n 1, 1) := by decide +kernel
theorem dX11_from_45 : decode cX11_from 45 = .ok (.aaload, 1) := by decide +kernel
theorem dX11_from_46 : decode cX11_from 46 = .ok (.invokevirtual 297, 3) := by decide +kernel
theorem dX11_from_49 : decode cX11_from 49 = .ok (.iconst 1, 1) := by decide +kernel
theorem dX11_from_50 : decode cX11_from 50 = .ok (.ireturn, 1) := by decide +kernel
theorem dX11_status_0 : decode cX11_status 0 = .ok (.iload_n 1, 1) := by decide +kernel
theorem dX11_status_1 : decode cX11_status 1 = .ok (.tableswitch 42 0 2 #[27, 32, 37], 27) := by decide +kernel
theorem dX11_status_28 : decode cX11_status 28 = .ok (.aload_n 0, 1) := by decide +kernel
theorem dX11_status_29 : decode cX11_status 29 = .ok (.getfield 300, 3) := by decide +kernel
theorem dX11_status_32 : decode cX11_status 32 = .ok (.ireturn, 1) := by decide +kernel
theorem dX11_status_33 : decode cX11_status 33 = .ok (.aload_n 0, 1) := by decide +kernel
theorem dX11_status_34 : decode cX11_status 34 = .ok (.getfield 303, 3) := by decide +kernel
theorem dX11_status_37 : decode cX11_status 37 = .ok (.ireturn, 1) := by decide +kernel
theorem dX11_status_38 : decode cX11_status 38 = .ok (.aload_n 0, 1) := by decide +kernel
theorem dX11_status_39 : decode cX11_status 39 = .ok (.getfield 306, 3) := by decide +kernel
theorem dX11_status_42 : decode cX11_status 42 = .ok (.ireturn, 1) := by decide +kernel
theorem dX11_status_43 : decode cX11_status 43 = .ok (.aload_n 0, 1) := by decide +kernel
theorem dX11_status_44 : decode cX11_status 44 = .ok (.bipush (-2), 2) := by decide +kernel
theorem dX11_status_46 : decode cX11_status 46 = .ok (.iconst (-1), 1) := by decide +kernel
theorem dX11_status_47 : decode cX11_status 47 = .ok (.invokevirtual 79, 3) := by decide +kernel
theorem dX11_status_50 : decode cX11_status 50 = .ok (.ireturn, 1) := by decide +kernel
theorem dX11_count_0 : decode cX11_count 0 = .ok (.iload_n 1, 1) := by decide +kernel
theorem dX11_count_1 : decode cX11_count 1 = .ok (.iconst 0, 1) := by decide +kernel
theorem dX11_count_2 : decode cX11_count 2 = .ok (.bipush 7, 2) := by decide +kernel
theorem dX11_count_4 : decode cX11_count 4 = .ok (.invokestatic 75, 3) := by decide +kernel
theorem dX11_count_7 : decode cX11_count 7 = .ok (.ifCond .eq 11, 3) := by decide +kernel
theorem dX11_count_10 : decode cX11_count 10 = .ok (.aload_n 0, 1) := by decide +kernel
theorem dX11_count_11 : decode cX11_count 11 = .ok (.iload_n 1, 1) := by decide +kernel
theorem dX11_count_12 : decode cX11_count 12 = .ok (.invokevirtual 309, 3) := by decide +kernel
theorem dX11_count_15 : decode cX11_count 15 = .ok (.goto 11, 3) := by decide +kernel
theorem dX11_count_18 : decode cX11_count 18 = .ok (.aload_n 0, 1) := by decide +kernel
theorem dX11_count_19 : decode cX11_count 19 = .ok (.bipush (-2), 2) := by decide +kernel
theorem dX11_count_21 : decode cX11_count 21 = .ok (.bipush (-2), 2) := by decide +kernel
theorem dX11_count_23 : decode cX11_count 23 = .ok (.invokevirtual 79, 3) := by decide +kernel
theorem dX11_count_26 : decode cX11_count 26 = .ok (.ireturn, 1) := by decide +kernel
theorem dX11_digest_0 : decode cX11_digest 0 = .ok (.ldc2_w 312, 3) := by decide +kernel
theorem dX11_digest_3 : decode cX11_digest 3 = .ok (.lstore_n 1, 1) := by decide +kernel
theorem dX11_digest_4 : decode cX11_digest 4 = .ok (.iconst 0, 1) := by decide +kernel
theorem dX11_digest_5 : decode cX11_digest 5 = .ok (.istore_n 3, 1) := by decide +kernel
theorem dX11_digest_6 : decode cX11_digest 6 = .ok (.iload_n 3, 1) := by decide +kernel
theorem dX11_digest_7 : decode cX11_digest 7 = .ok (.bipush 7, 2) := by decide +kernel
theorem dX11_digest_9 : decode cX11_digest 9 = .ok (.if_icmp .gt 22, 3) := by decide +kernel
theorem dX11_digest_12 : decode cX11_digest 12 = .ok (.ldc2_w 314, 3) := by decide +kernel
theorem dX11_digest_15 : decode cX11_digest 15 = .ok (.lload_n 1, 1) := by decide +kernel
theorem dX11_digest_16 : decode cX11_digest 16 = .ok (.lmul, 1) := by decide +kernel
theorem dX11_digest_17 : decode cX11_digest 17 = .ok (.aload_n 0, 1) := by decide +kernel
theorem dX11_digest_18 : decode cX11_digest 18 = .ok (.iload_n 3, 1) := by decide +kernel
theorem dX11_digest_19 : decode cX11_digest 19 = .ok (.invokevirtual 309, 3) := by decide +kernel
theorem dX11_digest_22 : decode cX11_digest 22 = .ok (.i2l, 1) := by decide +kernel
theorem dX11_digest_23 : decode cX11_digest 23 = .ok (.ladd, 1) := by decide +kernel
theorem dX11_digest_24 : decode cX11_digest 24 = .ok (.lstore_n 1, 1) := by decide +kernel
theorem dX11_digest_25 : decode cX11_digest 25 = .ok (.iinc 3 1, 3) := by decide +kernel
theorem dX11_digest_28 : decode cX11_digest 28 = .ok (.goto (-22), 3) := by decide +kernel
theorem dX11_digest_31 : decode cX11_digest 31 = .ok (.aload_n 0, 1) := by decide +kernel
theorem dX11_digest_32 : decode cX11_digest 32 = .ok (.getfield 30, 3) := by decide +kernel
theorem dX11_digest_35 : decode cX11_digest 35 = .ok (.getfield 100, 3) := by decide +kernel
theorem dX11_digest_38 : decode cX11_digest 38 = .ok (.lload_n 1, 1) := by decide +kernel
theorem dX11_digest_39 : decode cX11_digest 39 = .ok (.invokevirtual 316, 3) := by decide +kernel
theorem dX11_digest_42 : decode cX11_digest 42 = .ok (.lstore_n 1, 1) := by decide +kernel
theorem dX11_digest_43 : decode cX11_digest 43 = .ok (.aload_n 0, 1) := by decide +kernel
theorem dX11_digest_44 : decode cX11_digest 44 = .ok (.getfield 30, 3) := by decide +kernel
theorem dX11_digest_47 : decode cX11_digest 47 = .ok (.lload_n 1, 1) := by decide +kernel
theorem dX11_digest_48 : decode cX11_digest 48 = .ok (.invokevirtual 320, 3) := by decide +kernel
theorem dX11_digest_51 : decode cX11_digest 51 = .ok (.lstore_n 1, 1) := by decide +kernel
theorem dX11_digest_52 : decode cX11_digest 52 = .ok (.aload_n 0, 1) := by decide +kernel
theorem dX11_digest_53 : decode cX11_digest 53 = .ok (.getfield 30, 3) := by decide +kernel
theorem dX11_digest_56 : decode cX11_digest 56 = .ok (.lload_n 1, 1) := by decide +kernel
theorem dX11_digest_57 : decode cX11_digest 57 = .ok (.invokevirtual 323, 3) := by decide +kernel
theorem dX11_digest_60 : decode cX11_digest 60 = .ok (.lstore_n 1, 1) := by decide +kernel
theorem dX11_digest_61 : decode cX11_digest 61 = .ok (.aload_n 0, 1) := by decide +kernel
theorem dX11_digest_62 : decode cX11_digest 62 = .ok (.getfield 30, 3) := by decide +kernel
theorem dX11_digest_65 : decode cX11_digest 65 = .ok (.getfield 100, 3) := by decide +kernel
theorem dX11_digest_68 : decode cX11_digest 68 = .ok (.lload_n 1, 1) := by decide +kernel
theorem dX11_digest_69 : decode cX11_digest 69 = .ok (.invokevirtual 326, 3) := by decide +kernel
theorem dX11_digest_72 : decode cX11_digest 72 = .ok (.lreturn, 1) := by decide +kernel
theorem dX11_within_0 : decode cX11_within 0 = .ok (.iload_n 1, 1) := by decide +kernel
theorem dX11_within_1 : decode cX11_within 1 = .ok (.iload_n 0, 1) := by decide +kernel
theorem dX11_within_2 : decode cX11_within 2 = .ok (.if_icmp .gt 12, 3) := by decide +kernel
theorem dX11_within_5 : decode cX11_within 5 = .ok (.iload_n 0, 1) := by decide +kernel
theorem dX11_within_6 : decode cX11_within 6 = .ok (.iload_n 2, 1) := by decide +kernel
theorem dX11_within_7 : decode cX11_within 7 = .ok (.if_icmp .gt 7, 3) := by decide +kernel
theorem dX11_within_10 : decode cX11_within 10 = .ok (.iconst 1, 1) := by decide +kernel
theorem dX11_within_11 : decode cX11_within 11 = .ok (.goto 4, 3) := by decide +kernel
theorem dX11_within_14 : decode cX11_within 14 = .ok (.iconst 0, 1) := by decide +kernel
theorem dX11_within_15 : decode cX11_within 15 = .ok (.ireturn, 1) := by decide +kernel
theorem dX11_isCell_0 : decode cX11_isCell 0 = .ok (.iload_n 1, 1) := by decide +kernel
theorem dX11_isCell_1 : decode cX11_isCell 1 = .ok (.iconst 0, 1) := by decide +kernel
theorem dX11_isCell_2 : decode cX11_isCell 2 = .ok (.aload_n 0, 1) := by decide +kernel
theorem dX11_isCell_3 : decode cX11_isCell 3 = .ok (.getfield 30, 3) := by decide +kernel
theorem dX11_isCell_6 : decode cX11_isCell 6 = .ok (.getfield 100, 3) := by decide +kernel
theorem dX11_isCell_9 : decode cX11_isCell 9 = .ok (.getfield 230, 3) := by decide +kernel
theorem dX11_isCell_12 : decode cX11_isCell 12 = .ok (.iconst 1, 1) := by decide +kernel
theorem dX11_isCell_13 : decode cX11_isCell 13 = .ok (.isub, 1) := by decide +kernel
theorem dX11_isCell_14 : decode cX11_isCell 14 = .ok (.invokestatic 75, 3) := by decide +kernel
theorem dX11_isCell_17 : decode cX11_isCell 17 = .ok (.ireturn, 1) := by decide +kernel
theorem dX11_isCells_0 : decode cX11_isCells 0 = .ok (.iload_n 1, 1) := by decide +kernel
theorem dX11_isCells_1 : decode cX11_isCells 1 = .ok (.iconst 0, 1) := by decide +kernel
theorem dX11_isCells_2 : decode cX11_isCells 2 = .ok (.iconst 1, 1) := by decide +kernel
theorem dX11_isCells_3 : decode cX11_isCells 3 = .ok (.aload_n 0, 1) := by decide +kernel
theorem dX11_isCells_4 : decode cX11_isCells 4 = .ok (.getfield 30, 3) := by decide +kernel
theorem dX11_isCells_7 : decode cX11_isCells 7 = .ok (.getfield 100, 3) := by decide +kernel
theorem dX11_isCells_10 : decode cX11_isCells 10 = .ok (.getfield 230, 3) := by decide +kernel
theorem dX11_isCells_13 : decode cX11_isCells 13 = .ok (.ishl, 1) := by decide +kernel
theorem dX11_isCells_14 : decode cX11_isCells 14 = .ok (.iconst 1, 1) := by decide +kernel
theorem dX11_isCells_15 : decode cX11_isCells 15 = .ok (.isub, 1) := by decide +kernel
theorem dX11_isCells_16 : decode cX11_isCells 16 = .ok (.invokestatic 75, 3) := by decide +kernel
theorem dX11_isCells_19 : decode cX11_isCells 19 = .ok (.ireturn, 1) := by decide +kernel
theorem dX11_isTreaty_0 : decode cX11_isTreaty 0 = .ok (.iload_n 1, 1) := by decide +kernel
theorem dX11_isTreaty_1 : decode cX11_isTreaty 1 = .ok (.iconst 0, 1) := by decide +kernel
theorem dX11_isTreaty_2 : decode cX11_isTreaty 2 = .ok (.aload_n 0, 1) := by decide +kernel
theorem dX11_isTreaty_3 : decode cX11_isTreaty 3 = .ok (.getfield 30, 3) := by decide +kernel
theorem dX11_isTreaty_6 : decode cX11_isTreaty 6 = .ok (.getfield 100, 3) := by decide +kernel
theorem dX11_isTreaty_9 : decode cX11_isTreaty 9 = .ok (.getfield 216, 3) := by decide +kernel
theorem dX11_isTreaty_12 : decode cX11_isTreaty 12 = .ok (.iconst 1, 1) := by decide +kernel
theorem dX11_isTreaty_13 : decode cX11_isTreaty 13 = .ok (.isub, 1) := by decide +kernel
theorem dX11_isTreaty_14 : decode cX11_isTreaty 14 = .ok (.invokestatic 75, 3) := by decide +kernel
theorem dX11_isTreaty_17 : decode cX11_isTreaty 17 = .ok (.ireturn, 1) := by decide +kernel
theorem dX11_isTown_0 : decode cX11_isTown 0 = .ok (.iload_n 0, 1) := by decide +kernel
theorem dX11_isTown_1 : decode cX11_isTown 1 = .ok (.iconst 0, 1) := by decide +kernel
theorem dX11_isTown_2 : decode cX11_isTown 2 = .ok (.iconst 2, 1) := by decide +kernel
theorem dX11_isTown_3 : decode cX11_isTown 3 = .ok (.invokestatic 75, 3) := by decide +kernel
theorem dX11_isTown_6 : decode cX11_isTown 6 = .ok (.ireturn, 1) := by decide +kernel
theorem dX11_refused_0 : decode cX11_refused 0 = .ok (.iload_n 1, 1) := by decide +kernel
theorem dX11_refused_1 : decode cX11_refused 1 = .ok (.bipush (-2), 2) := by decide +kernel
theorem dX11_refused_3 : decode cX11_refused 3 = .ok (.if_icmp .ne 16, 3) := by decide +kernel
theorem dX11_refused_6 : decode cX11_refused 6 = .ok (.aload_n 0, 1) := by decide +kernel
theorem dX11_refused_7 : decode cX11_refused 7 = .ok (.dup, 1) := by decide +kernel
theorem dX11_refused_8 : decode cX11_refused 8 = .ok (.getfield 300, 3) := by decide +kernel
theorem dX11_refused_11 : decode cX11_refused 11 = .ok (.iconst 1, 1) := by decide +kernel
theorem dX11_refused_12 : decode cX11_refused 12 = .ok (.iadd, 1) := by decide +kernel
theorem dX11_refused_13 : decode cX11_refused 13 = .ok (.putfield 300, 3) := by decide +kernel
theorem dX11_refused_16 : decode cX11_refused 16 = .ok (.goto 32, 3) := by decide +kernel
theorem dX11_refused_19 : decode cX11_refused 19 = .ok (.iload_n 1, 1) := by decide +kernel
theorem dX11_refused_20 : decode cX11_refused 20 = .ok (.bipush (-3), 2) := by decide +kernel
theorem dX11_refused_22 : decode cX11_refused 22 = .ok (.if_icmp .ne 16, 3) := by decide +kernel
theorem dX11_refused_25 : decode cX11_refused 25 = .ok (.aload_n 0, 1) := by decide +kernel
theorem dX11_refused_26 : decode cX11_refused 26 = .ok (.dup, 1) := by decide +kernel
theorem dX11_refused_27 : decode cX11_refused 27 = .ok (.getfield 303, 3) := by decide +kernel
theorem dX11_refused_30 : decode cX11_refused 30 = .ok (.iconst 1, 1) := by decide +kernel
theorem dX11_refused_31 : decode cX11_refused 31 = .ok (.iadd, 1) := by decide +kernel
theorem dX11_refused_32 : decode cX11_refused 32 = .ok (.putfield 303, 3) := by decide +kernel
theorem dX11_refused_35 : decode cX11_refused 35 = .ok (.goto 13, 3) := by decide +kernel
theorem dX11_refused_38 : decode cX11_refused 38 = .ok (.aload_n 0, 1) := by decide +kernel
theorem dX11_refused_39 : decode cX11_refused 39 = .ok (.dup, 1) := by decide +kernel
theorem dX11_refused_40 : decode cX11_refused 40 = .ok (.getfield 306, 3) := by decide +kernel
theorem dX11_refused_43 : decode cX11_refused 43 = .ok (.iconst 1, 1) := by decide +kernel
theorem dX11_refused_44 : decode cX11_refused 44 = .ok (.iadd, 1) := by decide +kernel
theorem dX11_refused_45 : decode cX11_refused 45 = .ok (.putfield 306, 3) := by decide +kernel
theorem dX11_refused_48 : decode cX11_refused 48 = .ok (.iload_n 2, 1) := by decide +kernel
theorem dX11_refused_49 : decode cX11_refused 49 = .ok (.ireturn, 1) := by decide +kernel
theorem dX11_told_0 : decode cX11_told 0 = .ok (.iload_n 1, 1) := by decide +kernel
theorem dX11_told_1 : decode cX11_told 1 = .ok (.ifCond .ge 10, 3) := by decide +kernel
theorem dX11_told_4 : decode cX11_told 4 = .ok (.aload_n 0, 1) := by decide +kernel
theorem dX11_told_5 : decode cX11_told 5 = .ok (.iload_n 1, 1) := by decide +kernel
theorem dX11_told_6 : decode cX11_told 6 = .ok (.iload_n 1, 1) := by decide +kernel
theorem dX11_told_7 : decode cX11_told 7 = .ok (.invokevirtual 79, 3) := by decide +kernel
theorem dX11_told_10 : decode cX11_told 10 = .ok (.ireturn, 1) := by decide +kernel
theorem dX11_told_11 : decode cX11_told 11 = .ok (.aload_n 0, 1) := by decide +kernel
theorem dX11_told_12 : decode cX11_told 12 = .ok (.getfield 30, 3) := by decide +kernel
theorem dX11_told_15 : decode cX11_told 15 = .ok (.iconst 0, 1) := by decide +kernel
theorem dX11_told_16 : decode cX11_told 16 = .ok (.putfield 329, 3) := by decide +kernel
theorem dX11_told_19 : decode cX11_told 19 = .ok (.iload_n 1, 1) := by decide +kernel
theorem dX11_told_20 : decode cX11_told 20 = .ok (.ireturn, 1) := by decide +kernel
theorem dX11_amount_0 : decode cX11_amount 0 = .ok (.iload_n 1, 1) := by decide +kernel
theorem dX11_amount_1 : decode cX11_amount 1 = .ok (.tableswitch 117 0 6 #[43, 54, 65, 76, 87, 98, 109], 43) := by decide +kernel
theorem dX11_amount_44 : decode cX11_amount 44 = .ok (.aload_n 0, 1) := by decide +kernel
theorem dX11_amount_45 : decode cX11_amount 45 = .ok (.getfield 30, 3) := by decide +kernel
theorem dX11_amount_48 : decode cX11_amount 48 = .ok (.getfield 100, 3) := by decide +kernel
theorem dX11_amount_51 : decode cX11_amount 51 = .ok (.getfield 230, 3) := by decide +kernel
theorem dX11_amount_54 : decode cX11_amount 54 = .ok (.ireturn, 1) := by decide +kernel
theorem dX11_amount_55 : decode cX11_amount 55 = .ok (.aload_n 0, 1) := by decide +kernel
theorem dX11_amount_56 : decode cX11_amount 56 = .ok (.getfield 30, 3) := by decide +kernel
theorem dX11_amount_59 : decode cX11_amount 59 = .ok (.getfield 82, 3) := by decide +kernel
theorem dX11_amount_62 : decode cX11_amount 62 = .ok (.getfield 110, 3) := by decide +kernel
theorem dX11_amount_65 : decode cX11_amount 65 = .ok (.ireturn, 1) := by decide +kernel
theorem dX11_amount_66 : decode cX11_amount 66 = .ok (.aload_n 0, 1) := by decide +kernel
theorem dX11_amount_67 : decode cX11_amount 67 = .ok (.getfield 30, 3) := by decide +kernel
theorem dX11_amount_70 : decode cX11_amount 70 = .ok (.getfield 82, 3) := by decide +kernel
theorem dX11_amount_73 : decode cX11_amount 73 = .ok (.getfield 86, 3) := by decide +kernel
theorem dX11_amount_76 : decode cX11_amount 76 = .ok (.ireturn, 1) := by decide +kernel
theorem dX11_amount_77 : decode cX11_amount 77 = .ok (.aload_n 0, 1) := by decide +kernel
theorem dX11_amount_78 : decode cX11_amount 78 = .ok (.getfield 30, 3) := by decide +kernel
theorem dX11_amount_81 : decode cX11_amount 81 = .ok (.getfield 100, 3) := by decide +kernel
theorem dX11_amount_84 : decode cX11_amount 84 = .ok (.getfield 332, 3) := by decide +kernel
theorem dX11_amount_87 : decode cX11_amount 87 = .ok (.ireturn, 1) := by decide +kernel
theorem dX11_amount_88 : decode cX11_amount 88 = .ok (.aload_n 0, 1) := by decide +kernel
theorem dX11_amount_89 : decode cX11_amount 89 = .ok (.getfield 30, 3) := by decide +kernel
theorem dX11_amount_92 : decode cX11_amount 92 = .ok (.getfield 100, 3) := by decide +kernel
theorem dX11_amount_95 : decode cX11_amount 95 = .ok (.getfield 216, 3) := by decide +kernel
theorem dX11_amount_98 : decode cX11_amount 98 = .ok (.ireturn, 1) := by decide +kernel
theorem dX11_amount_99 : decode cX11_amount 99 = .ok (.aload_n 0, 1) := by decide +kernel
theorem dX11_amount_100 : decode cX11_amount 100 = .ok (.getfield 30, 3) := by decide +kernel
theorem dX11_amount_103 : decode cX11_amount 103 = .ok (.getfield 100, 3) := by decide +kernel
theorem dX11_amount_106 : decode cX11_amount 106 = .ok (.getfield 335, 3) := by decide +kernel
theorem dX11_amount_109 : decode cX11_amount 109 = .ok (.ireturn, 1) := by decide +kernel
theorem dX11_amount_110 : decode cX11_amount 110 = .ok (.aload_n 0, 1) := by decide +kernel
theorem dX11_amount_111 : decode cX11_amount 111 = .ok (.getfield 30, 3) := by decide +kernel
theorem dX11_amount_114 : decode cX11_amount 114 = .ok (.getfield 329, 3) := by decide +kernel
theorem dX11_amount_117 : decode cX11_amount 117 = .ok (.ireturn, 1) := by decide +kernel
theorem dX11_amount_118 : decode cX11_amount 118 = .ok (.aload_n 0, 1) := by decide +kernel
theorem dX11_amount_119 : decode cX11_amount 119 = .ok (.getfield 46, 3) := by decide +kernel
theorem dX11_amount_122 : decode cX11_amount 122 = .ok (.getfield 121, 3) := by decide +kernel
theorem dX11_amount_125 : decode cX11_amount 125 = .ok (.ireturn, 1) := by decide +kernel
theorem dX11_wetWithout_0 : decode cX11_wetWithout 0 = .ok (.aload_n 0, 1) := by decide +kernel
theorem dX11_wetWithout_1 : decode cX11_wetWithout 1 = .ok (.getfield 30, 3) := by decide +kernel
theorem dX11_wetWithout_4 : decode cX11_wetWithout 4 = .ok (.getfield 100, 3) := by decide +kernel
theorem dX11_wetWithout_7 : decode cX11_wetWithout 7 = .ok (.aload_n 0, 1) := by decide +kernel
theorem dX11_wetWithout_8 : decode cX11_wetWithout 8 = .ok (.getfield 30, 3) := by decide +kernel
theorem dX11_wetWithout_11 : decode cX11_wetWithout 11 = .ok (.getfield 82, 3) := by decide +kernel
theorem dX11_wetWithout_14 : decode cX11_wetWithout 14 = .ok (.getfield 110, 3) := by decide +kernel
theorem dX11_wetWithout_17 : decode cX11_wetWithout 17 = .ok (.invokevirtual 148, 3) := by decide +kernel
theorem dX11_wetWithout_20 : decode cX11_wetWithout 20 = .ok (.istore_n 2, 1) := by decide +kernel
theorem dX11_wetWithout_21 : decode cX11_wetWithout 21 = .ok (.aload_n 0, 1) := by decide +kernel
theorem dX11_wetWithout_22 : decode cX11_wetWithout 22 = .ok (.getfield 30, 3) := by decide +kernel
theorem dX11_wetWithout_25 : decode cX11_wetWithout 25 = .ok (.getfield 100, 3) := by decide +kernel
theorem dX11_wetWithout_28 : decode cX11_wetWithout 28 = .ok (.iload_n 2, 1) := by decide +kernel
theorem dX11_wetWithout_29 : decode cX11_wetWithout 29 = .ok (.aload_n 0, 1) := by decide +kernel
theorem dX11_wetWithout_30 : decode cX11_wetWithout 30 = .ok (.getfield 30, 3) := by decide +kernel
theorem dX11_wetWithout_33 : decode cX11_wetWithout 33 = .ok (.getfield 100, 3) := by decide +kernel
theorem dX11_wetWithout_36 : decode cX11_wetWithout 36 = .ok (.aload_n 0, 1) := by decide +kernel
theorem dX11_wetWithout_37 : decode cX11_wetWithout 37 = .ok (.getfield 30, 3) := by decide +kernel
theorem dX11_wetWithout_40 : decode cX11_wetWithout 40 = .ok (.getfield 82, 3) := by decide +kernel
theorem dX11_wetWithout_43 : decode cX11_wetWithout 43 = .ok (.iload_n 2, 1) := by decide +kernel
theorem dX11_wetWithout_44 : decode cX11_wetWithout 44 = .ok (.invokevirtual 200, 3) := by decide +kernel
theorem dX11_wetWithout_47 : decode cX11_wetWithout 47 = .ok (.aload_n 0, 1) := by decide +kernel
theorem dX11_wetWithout_48 : decode cX11_wetWithout 48 = .ok (.getfield 30, 3) := by decide +kernel
theorem dX11_wetWithout_51 : decode cX11_wetWithout 51 = .ok (.getfield 82, 3) := by decide +kernel
theorem dX11_wetWithout_54 : decode cX11_wetWithout 54 = .ok (.getfield 171, 3) := by decide +kernel
theorem dX11_wetWithout_57 : decode cX11_wetWithout 57 = .ok (.iload_n 1, 1) := by decide +kernel
theorem dX11_wetWithout_58 : decode cX11_wetWithout 58 = .ok (.invokevirtual 338, 3) := by decide +kernel
theorem dX11_wetWithout_61 : decode cX11_wetWithout 61 = .ok (.ireturn, 1) := by decide +kernel
theorem dX11_runAhead_0 : decode cX11_runAhead 0 = .ok (.aload_n 1, 1) := by decide +kernel
theorem dX11_runAhead_1 : decode cX11_runAhead 1 = .ok (.aload_n 0, 1) := by decide +kernel
theorem dX11_runAhead_2 : decode cX11_runAhead 2 = .ok (.getfield 36, 3) := by decide +kernel
theorem dX11_runAhead_5 : decode cX11_runAhead 5 = .ok (.getfield 82, 3) := by decide +kernel
theorem dX11_runAhead_8 : decode cX11_runAhead 8 = .ok (.aload_n 1, 1) := by decide +kernel
theorem dX11_runAhead_9 : decode cX11_runAhead 9 = .ok (.aload_n 0, 1) := by decide +kernel
theorem dX11_runAhead_10 : decode cX11_runAhead 10 = .ok (.getfield 36, 3) := by decide +kernel
theorem dX11_runAhead_13 : decode cX11_runAhead 13 = .ok (.getfield 82, 3) := by decide +kernel
theorem dX11_runAhead_16 : decode cX11_runAhead 16 = .ok (.getfield 110, 3) := by decide +kernel
theorem dX11_runAhead_19 : decode cX11_runAhead 19 = .ok (.invokevirtual 148, 3) := by decide +kernel
theorem dX11_runAhead_22 : decode cX11_runAhead 22 = .ok (.invokevirtual 151, 3) := by decide +kernel
theorem dX11_runAhead_25 : decode cX11_runAhead 25 = .ok (.ireturn, 1) := by decide +kernel
theorem dX11_outcome_0 : decode cX11_outcome 0 = .ok (.iload_n 2, 1) := by decide +kernel
theorem dX11_outcome_1 : decode cX11_outcome 1 = .ok (.tableswitch 78 0 3 #[31, 42, 44, 55], 31) := by decide +kernel
theorem dX11_outcome_32 : decode cX11_outcome 32 = .ok (.aload_n 0, 1) := by decide +kernel
theorem dX11_outcome_33 : decode cX11_outcome 33 = .ok (.getfield 36, 3) := by decide +kernel
theorem dX11_outcome_36 : decode cX11_outcome 36 = .ok (.getfield 82, 3) := by decide +kernel
theorem dX11_outcome_39 : decode cX11_outcome 39 = .ok (.getfield 86, 3) := by decide +kernel
theorem dX11_outcome_42 : decode cX11_outcome 42 = .ok (.ireturn, 1) := by decide +kernel
theorem dX11_outcome_43 : decode cX11_outcome 43 = .ok (.iload_n 1, 1) := by decide +kernel
theorem dX11_outcome_44 : decode cX11_outcome 44 = .ok (.ireturn, 1) := by decide +kernel
theorem dX11_outcome_45 : decode cX11_outcome 45 = .ok (.aload_n 0, 1) := by decide +kernel
theorem dX11_outcome_46 : decode cX11_outcome 46 = .ok (.getfield 36, 3) := by decide +kernel
theorem dX11_outcome_49 : decode cX11_outcome 49 = .ok (.getfield 82, 3) := by decide +kernel
theorem dX11_outcome_52 : decode cX11_outcome 52 = .ok (.invokevirtual 213, 3) := by decide +kernel
theorem dX11_outcome_55 : decode cX11_outcome 55 = .ok (.ireturn, 1) := by decide +kernel
theorem dX11_outcome_56 : decode cX11_outcome 56 = .ok (.aload_n 0, 1) := by decide +kernel
theorem dX11_outcome_57 : decode cX11_outcome 57 = .ok (.getfield 30, 3) := by decide +kernel
theorem dX11_outcome_60 : decode cX11_outcome 60 = .ok (.getfield 100, 3) := by decide +kernel
theorem dX11_outcome_63 : decode cX11_outcome 63 = .ok (.aload_n 0, 1) := by decide +kernel
theorem dX11_outcome_64 : decode cX11_outcome 64 = .ok (.getfield 36, 3) := by decide +kernel
theorem dX11_outcome_67 : decode cX11_outcome 67 = .ok (.getfield 82, 3) := by decide +kernel
theorem dX11_outcome_70 : decode cX11_outcome 70 = .ok (.invokevirtual 213, 3) := by decide +kernel
theorem dX11_outcome_73 : decode cX11_outcome 73 = .ok (.iconst (-1), 1) := by decide +kernel
theorem dX11_outcome_74 : decode cX11_outcome 74 = .ok (.ixor, 1) := by decide +kernel
theorem dX11_outcome_75 : decode cX11_outcome 75 = .ok (.invokevirtual 342, 3) := by decide +kernel
theorem dX11_outcome_78 : decode cX11_outcome 78 = .ok (.ireturn, 1) := by decide +kernel
theorem dX11_outcome_79 : decode cX11_outcome 79 = .ok (.aload_n 0, 1) := by decide +kernel
theorem dX11_outcome_80 : decode cX11_outcome 80 = .ok (.getfield 36, 3) := by decide +kernel
theorem dX11_outcome_83 : decode cX11_outcome 83 = .ok (.getfield 82, 3) := by decide +kernel
theorem dX11_outcome_86 : decode cX11_outcome 86 = .ok (.getfield 345, 3) := by decide +kernel
theorem dX11_outcome_89 : decode cX11_outcome 89 = .ok (.ireturn, 1) := by decide +kernel
theorem dX11_isKept_0 : decode cX11_isKept 0 = .ok (.aload_n 0, 1) := by decide +kernel
theorem dX11_isKept_1 : decode cX11_isKept 1 = .ok (.getfield 36, 3) := by decide +kernel
theorem dX11_isKept_4 : decode cX11_isKept 4 = .ok (.getfield 100, 3) := by decide +kernel
theorem dX11_isKept_7 : decode cX11_isKept 7 = .ok (.aload_n 0, 1) := by decide +kernel
theorem dX11_isKept_8 : decode cX11_isKept 8 = .ok (.getfield 30, 3) := by decide +kernel
theorem dX11_isKept_11 : decode cX11_isKept 11 = .ok (.getfield 100, 3) := by decide +kernel
theorem dX11_isKept_14 : decode cX11_isKept 14 = .ok (.getfield 216, 3) := by decide +kernel
theorem dX11_isKept_17 : decode cX11_isKept 17 = .ok (.putfield 216, 3) := by decide +kernel
theorem dX11_isKept_20 : decode cX11_isKept 20 = .ok (.aload_n 0, 1) := by decide +kernel
theorem dX11_isKept_21 : decode cX11_isKept 21 = .ok (.getfield 30, 3) := by decide +kernel
theorem dX11_isKept_24 : decode cX11_isKept 24 = .ok (.getfield 82, 3) := by decide +kernel
theorem dX11_isKept_27 : decode cX11_isKept 27 = .ok (.getfield 110, 3) := by decide +kernel
theorem dX11_isKept_30 : decode cX11_isKept 30 = .ok (.istore 5, 2) := by decide +kernel
theorem dX11_isKept_32 : decode cX11_isKept 32 = .ok (.aload_n 0, 1) := by decide +kernel
theorem dX11_isKept_33 : decode cX11_isKept 33 = .ok (.getfield 36, 3) := by decide +kernel
theorem dX11_isKept_36 : decode cX11_isKept 36 = .ok (.getfield 100, 3) := by decide +kernel
theorem dX11_isKept_39 : decode cX11_isKept 39 = .ok (.iconst 0, 1) := by decide +kernel
theorem dX11_isKept_40 : decode cX11_isKept 40 = .ok (.iload_n 1, 1) := by decide +kernel
theorem dX11_isKept_41 : decode cX11_isKept 41 = .ok (.iload_n 2, 1) := by decide +kernel
theorem dX11_isKept_42 : decode cX11_isKept 42 = .ok (.iload 5, 2) := by decide +kernel
theorem dX11_isKept_44 : decode cX11_isKept 44 = .ok (.iload 5, 2) := by decide +kernel
theorem dX11_isKept_46 : decode cX11_isKept 46 = .ok (.iload_n 3, 1) := by decide +kernel
theorem dX11_isKept_47 : decode cX11_isKept 47 = .ok (.iadd, 1) := by decide +kernel
theorem dX11_isKept_48 : decode cX11_isKept 48 = .ok (.iload 4, 2) := by decide +kernel
theorem dX11_isKept_50 : decode cX11_isKept 50 = .ok (.invokevirtual 348, 3) := by decide +kernel
theorem dX11_isKept_53 : decode cX11_isKept 53 = .ok (.istore 6, 2) := by decide +kernel
theorem dX11_isKept_55 : decode cX11_isKept 55 = .ok (.aload_n 0, 1) := by decide +kernel
theorem dX11_isKept_56 : decode cX11_isKept 56 = .ok (.getfield 36, 3) := by decide +kernel
theorem dX11_isKept_59 : decode cX11_isKept 59 = .ok (.getfield 82, 3) := by decide +kernel
theorem dX11_isKept_62 : decode cX11_isKept 62 = .ok (.aload_n 0, 1) := by decide +kernel
theorem dX11_isKept_63 : decode cX11_isKept 63 = .ok (.getfield 30, 3) := by decide +kernel
theorem dX11_isKept_66 : decode cX11_isKept 66 = .ok (.getfield 82, 3) := by decide +kernel
theorem dX11_isKept_69 : decode cX11_isKept 69 = .ok (.invokevirtual 142, 3) := by decide +kernel
theorem dX11_isKept_72 : decode cX11_isKept 72 = .ok (.iconst 0, 1) := by decide +kernel
theorem dX11_isKept_73 : decode cX11_isKept 73 = .ok (.istore 7, 2) := by decide +kernel
theorem dX11_isKept_75 : decode cX11_isKept 75 = .ok (.iload 7, 2) := by decide +kernel
theorem dX11_isKept_77 : decode cX11_isKept 77 = .ok (.iload_n 3, 1) := by decide +kernel
theorem dX11_isKept_78 : decode cX11_isKept 78 = .ok (.if_icmp .ge 38, 3) := by decide +kernel
theorem dX11_isKept_81 : decode cX11_isKept 81 = .ok (.aload_n 0, 1) := by decide +kernel
theorem dX11_isKept_82 : decode cX11_isKept 82 = .ok (.aload_n 0, 1) := by decide +kernel
theorem dX11_isKept_83 : decode cX11_isKept 83 = .ok (.getfield 36, 3) := by decide +kernel
theorem dX11_isKept_86 : decode cX11_isKept 86 = .ok (.getfield 100, 3) := by decide +kernel
theorem dX11_isKept_89 : decode cX11_isKept 89 = .ok (.invokevirtual 206, 3) := by decide +kernel
theorem dX11_isKept_92 : decode cX11_isKept 92 = .ok (.pop, 1) := by decide +kernel
theorem dX11_isKept_93 : decode cX11_isKept 93 = .ok (.aload_n 0, 1) := by decide +kernel
theorem dX11_isKept_94 : decode cX11_isKept 94 = .ok (.getfield 36, 3) := by decide +kernel
theorem dX11_isKept_97 : decode cX11_isKept 97 = .ok (.getfield 82, 3) := by decide +kernel
theorem dX11_isKept_100 : decode cX11_isKept 100 = .ok (.iload 6, 2) := by decide +kernel
theorem dX11_isKept_102 : decode cX11_isKept 102 = .ok (.invokevirtual 197, 3) := by decide +kernel
theorem dX11_isKept_105 : decode cX11_isKept 105 = .ok (.ifCond .eq 5, 3) := by decide +kernel
theorem dX11_isKept_108 : decode cX11_isKept 108 = .ok (.iconst 0, 1) := by decide +kernel
theorem dX11_isKept_109 : decode cX11_isKept 109 = .ok (.ireturn, 1) := by decide +kernel
theorem dX11_isKept_110 : decode cX11_isKept 110 = .ok (.iinc 7 1, 3) := by decide +kernel
theorem dX11_isKept_113 : decode cX11_isKept 113 = .ok (.goto (-38), 3) := by decide +kernel
theorem dX11_isKept_116 : decode cX11_isKept 116 = .ok (.iconst 1, 1) := by decide +kernel
theorem dX11_isKept_117 : decode cX11_isKept 117 = .ok (.ireturn, 1) := by decide +kernel
theorem dX11_floodings_0 : decode cX11_floodings 0 = .ok (.aload_n 0, 1) := by decide +kernel
theorem dX11_floodings_1 : decode cX11_floodings 1 = .ok (.getfield 36, 3) := by decide +kernel
theorem dX11_floodings_4 : decode cX11_floodings 4 = .ok (.getfield 82, 3) := by decide +kernel
theorem dX11_floodings_7 : decode cX11_floodings 7 = .ok (.aload_n 0, 1) := by decide +kernel
theorem dX11_floodings_8 : decode cX11_floodings 8 = .ok (.getfield 30, 3) := by decide +kernel
theorem dX11_floodings_11 : decode cX11_floodings 11 = .ok (.getfield 82, 3) := by decide +kernel
theorem dX11_floodings_14 : decode cX11_floodings 14 = .ok (.invokevirtual 142, 3) := by decide +kernel
theorem dX11_floodings_17 : decode cX11_floodings 17 = .ok (.iconst 0, 1) := by decide +kernel
theorem dX11_floodings_18 : decode cX11_floodings 18 = .ok (.istore_n 3, 1) := by decide +kernel
theorem dX11_floodings_19 : decode cX11_floodings 19 = .ok (.iconst 0, 1) := by decide +kernel
theorem dX11_floodings_20 : decode cX11_floodings 20 = .ok (.istore 4, 2) := by decide +kernel
theorem dX11_floodings_22 : decode cX11_floodings 22 = .ok (.iload 4, 2) := by decide +kernel
theorem dX11_floodings_24 : decode cX11_floodings 24 = .ok (.iload_n 2, 1) := by decide +kernel
theorem dX11_floodings_25 : decode cX11_floodings 25 = .ok (.if_icmp .ge 20, 3) := by decide +kernel
theorem dX11_floodings_28 : decode cX11_floodings 28 = .ok (.iload_n 3, 1) := by decide +kernel
theorem dX11_floodings_29 : decode cX11_floodings 29 = .ok (.aload_n 0, 1) := by decide +kernel
theorem dX11_floodings_30 : decode cX11_floodings 30 = .ok (.aload_n 1, 1) := by decide +kernel
theorem dX11_floodings_31 : decode cX11_floodings 31 = .ok (.invokevirtual 206, 3) := by decide +kernel
theorem dX11_floodings_34 : decode cX11_floodings 34 = .ok (.invokestatic 262, 3) := by decide +kernel
theorem dX11_floodings_37 : decode cX11_floodings 37 = .ok (.iadd, 1) := by decide +kernel
theorem dX11_floodings_38 : decode cX11_floodings 38 = .ok (.istore_n 3, 1) := by decide +kernel
theorem dX11_floodings_39 : decode cX11_floodings 39 = .ok (.iinc 4 1, 3) := by decide +kernel
theorem dX11_floodings_42 : decode cX11_floodings 42 = .ok (.goto (-20), 3) := by decide +kernel
theorem dX11_floodings_45 : decode cX11_floodings 45 = .ok (.iload_n 3, 1) := by decide +kernel
theorem dX11_floodings_46 : decode cX11_floodings 46 = .ok (.ireturn, 1) := by decide +kernel
theorem dX11_staysDry_0 : decode cX11_staysDry 0 = .ok (.aload_n 0, 1) := by decide +kernel
theorem dX11_staysDry_1 : decode cX11_staysDry 1 = .ok (.getfield 30, 3) := by decide +kernel
theorem dX11_staysDry_4 : decode cX11_staysDry 4 = .ok (.getfield 82, 3) := by decide +kernel
theorem dX11_staysDry_7 : decode cX11_staysDry 7 = .ok (.getfield 171, 3) := by decide +kernel
theorem dX11_staysDry_10 : decode cX11_staysDry 10 = .ok (.iload_n 3, 1) := by decide +kernel
theorem dX11_staysDry_11 : decode cX11_staysDry 11 = .ok (.iaload, 1) := by decide +kernel
theorem dX11_staysDry_12 : decode cX11_staysDry 12 = .ok (.iload 4, 2) := by decide +kernel
theorem dX11_staysDry_14 : decode cX11_staysDry 14 = .ok (.iadd, 1) := by decide +kernel
theorem dX11_staysDry_15 : decode cX11_staysDry 15 = .ok (.bipush 9, 2) := by decide +kernel
theorem dX11_staysDry_17 : decode cX11_staysDry 17 = .ok (.if_icmp .le 5, 3) := by decide +kernel
theorem dX11_staysDry_20 : decode cX11_staysDry 20 = .ok (.iconst 0, 1) := by decide +kernel
theorem dX11_staysDry_21 : decode cX11_staysDry 21 = .ok (.ireturn, 1) := by decide +kernel
theorem dX11_staysDry_22 : decode cX11_staysDry 22 = .ok (.aload_n 0, 1) := by decide +kernel
theorem dX11_staysDry_23 : decode cX11_staysDry 23 = .ok (.getfield 36, 3) := by decide +kernel
theorem dX11_staysDry_26 : decode cX11_staysDry 26 = .ok (.getfield 82, 3) := by decide +kernel
theorem dX11_staysDry_29 : decode cX11_staysDry 29 = .ok (.aload_n 0, 1) := by decide +kernel
theorem dX11_staysDry_30 : decode cX11_staysDry 30 = .ok (.getfield 30, 3) := by decide +kernel
theorem dX11_staysDry_33 : decode cX11_staysDry 33 = .ok (.getfield 82, 3) := by decide +kernel
theorem dX11_staysDry_36 : decode cX11_staysDry 36 = .ok (.invokevirtual 142, 3) := by decide +kernel
theorem dX11_staysDry_39 : decode cX11_staysDry 39 = .ok (.aload_n 0, 1) := by decide +kernel
theorem dX11_staysDry_40 : decode cX11_staysDry 40 = .ok (.getfield 36, 3) := by decide +kernel
theorem dX11_staysDry_43 : decode cX11_staysDry 43 = .ok (.getfield 82, 3) := by decide +kernel
theorem dX11_staysDry_46 : decode cX11_staysDry 46 = .ok (.getfield 171, 3) := by decide +kernel
theorem dX11_staysDry_49 : decode cX11_staysDry 49 = .ok (.iload_n 3, 1) := by decide +kernel
theorem dX11_staysDry_50 : decode cX11_staysDry 50 = .ok (.dup2, 1) := by decide +kernel
theorem dX11_staysDry_51 : decode cX11_staysDry 51 = .ok (.iaload, 1) := by decide +kernel
theorem dX11_staysDry_52 : decode cX11_staysDry 52 = .ok (.iload 4, 2) := by decide +kernel
theorem dX11_staysDry_54 : decode cX11_staysDry 54 = .ok (.iadd, 1) := by decide +kernel
theorem dX11_staysDry_55 : decode cX11_staysDry 55 = .ok (.iastore, 1) := by decide +kernel
theorem dX11_staysDry_56 : decode cX11_staysDry 56 = .ok (.iconst 0, 1) := by decide +kernel
theorem dX11_staysDry_57 : decode cX11_staysDry 57 = .ok (.istore 5, 2) := by decide +kernel
theorem dX11_staysDry_59 : decode cX11_staysDry 59 = .ok (.iload 5, 2) := by decide +kernel
theorem dX11_staysDry_61 : decode cX11_staysDry 61 = .ok (.iload_n 2, 1) := by decide +kernel
theorem dX11_staysDry_62 : decode cX11_staysDry 62 = .ok (.if_icmp .ge 27, 3) := by decide +kernel
theorem dX11_staysDry_65 : decode cX11_staysDry 65 = .ok (.aload_n 0, 1) := by decide +kernel
theorem dX11_staysDry_66 : decode cX11_staysDry 66 = .ok (.aload_n 0, 1) := by decide +kernel
theorem dX11_staysDry_67 : decode cX11_staysDry 67 = .ok (.getfield 30, 3) := by decide +kernel
theorem dX11_staysDry_70 : decode cX11_staysDry 70 = .ok (.getfield 100, 3) := by decide +kernel
theorem dX11_staysDry_73 : decode cX11_staysDry 73 = .ok (.invokevirtual 206, 3) := by decide +kernel
theorem dX11_staysDry_76 : decode cX11_staysDry 76 = .ok (.iload_n 1, 1) := by decide +kernel
theorem dX11_staysDry_77 : decode cX11_staysDry 77 = .ok (.iand, 1) := by decide +kernel
theorem dX11_staysDry_78 : decode cX11_staysDry 78 = .ok (.ifCond .eq 5, 3) := by decide +kernel
theorem dX11_staysDry_81 : decode cX11_staysDry 81 = .ok (.iconst 0, 1) := by decide +kernel
theorem dX11_staysDry_82 : decode cX11_staysDry 82 = .ok (.ireturn, 1) := by decide +kernel
theorem dX11_staysDry_83 : decode cX11_staysDry 83 = .ok (.iinc 5 1, 3) := by decide +kernel
theorem dX11_staysDry_86 : decode cX11_staysDry 86 = .ok (.goto (-27), 3) := by decide +kernel
theorem dX11_staysDry_89 : decode cX11_staysDry 89 = .ok (.iconst 1, 1) := by decide +kernel
theorem dX11_staysDry_90 : decode cX11_staysDry 90 = .ok (.ireturn, 1) := by decide +kernel
theorem dX11_clash_0 : decode cX11_clash 0 = .ok (.aload_n 0, 1) := by decide +kernel
theorem dX11_clash_1 : decode cX11_clash 1 = .ok (.getfield 30, 3) := by decide +kernel
theorem dX11_clash_4 : decode cX11_clash 4 = .ok (.getfield 100, 3) := by decide +kernel
theorem dX11_clash_7 : decode cX11_clash 7 = .ok (.getfield 104, 3) := by decide +kernel
theorem dX11_clash_10 : decode cX11_clash 10 = .ok (.iload_n 1, 1) := by decide +kernel
theorem dX11_clash_11 : decode cX11_clash 11 = .ok (.aaload, 1) := by decide +kernel
theorem dX11_clash_12 : decode cX11_clash 12 = .ok (.astore_n 3, 1) := by decide +kernel
theorem dX11_clash_13 : decode cX11_clash 13 = .ok (.aload_n 0, 1) := by decide +kernel
theorem dX11_clash_14 : decode cX11_clash 14 = .ok (.getfield 30, 3) := by decide +kernel
theorem dX11_clash_17 : decode cX11_clash 17 = .ok (.getfield 100, 3) := by decide +kernel
theorem dX11_clash_20 : decode cX11_clash 20 = .ok (.getfield 104, 3) := by decide +kernel
theorem dX11_clash_23 : decode cX11_clash 23 = .ok (.iload_n 2, 1) := by decide +kernel
theorem dX11_clash_24 : decode cX11_clash 24 = .ok (.aaload, 1) := by decide +kernel
theorem dX11_clash_25 : decode cX11_clash 25 = .ok (.astore 4, 2) := by decide +kernel
theorem dX11_clash_27 : decode cX11_clash 27 = .ok (.aload_n 3, 1) := by decide +kernel
theorem dX11_clash_28 : decode cX11_clash 28 = .ok (.invokevirtual 351, 3) := by decide +kernel
theorem dX11_clash_31 : decode cX11_clash 31 = .ok (.aload 4, 2) := by decide +kernel
theorem dX11_clash_33 : decode cX11_clash 33 = .ok (.invokevirtual 351, 3) := by decide +kernel
theorem dX11_clash_36 : decode cX11_clash 36 = .ok (.iand, 1) := by decide +kernel
theorem dX11_clash_37 : decode cX11_clash 37 = .ok (.ifCond .eq 34, 3) := by decide +kernel
theorem dX11_clash_40 : decode cX11_clash 40 = .ok (.aload_n 3, 1) := by decide +kernel
theorem dX11_clash_41 : decode cX11_clash 41 = .ok (.getfield 354, 3) := by decide +kernel
theorem dX11_clash_44 : decode cX11_clash 44 = .ok (.aload 4, 2) := by decide +kernel
theorem dX11_clash_46 : decode cX11_clash 46 = .ok (.getfield 354, 3) := by decide +kernel
theorem dX11_clash_49 : decode cX11_clash 49 = .ok (.invokestatic 357, 3) := by decide +kernel
theorem dX11_clash_52 : decode cX11_clash 52 = .ok (.aload_n 3, 1) := by decide +kernel
theorem dX11_clash_53 : decode cX11_clash 53 = .ok (.getfield 118, 3) := by decide +kernel
theorem dX11_clash_56 : decode cX11_clash 56 = .ok (.aload 4, 2) := by decide +kernel
theorem dX11_clash_58 : decode cX11_clash 58 = .ok (.getfield 118, 3) := by decide +kernel
theorem dX11_clash_61 : decode cX11_clash 61 = .ok (.invokestatic 362, 3) := by decide +kernel
theorem dX11_clash_64 : decode cX11_clash 64 = .ok (.if_icmp .ge 7, 3) := by decide +kernel
theorem dX11_clash_67 : decode cX11_clash 67 = .ok (.iconst 1, 1) := by decide +kernel
theorem dX11_clash_68 : decode cX11_clash 68 = .ok (.goto 4, 3) := by decide +kernel
theorem dX11_clash_71 : decode cX11_clash 71 = .ok (.iconst 0, 1) := by decide +kernel
theorem dX11_clash_72 : decode cX11_clash 72 = .ok (.ireturn, 1) := by decide +kernel
theorem dX11_tillBesideLesser_0 : decode cX11_tillBesideLesser 0 = .ok (.aload_n 0, 1) := by decide +kernel
theorem dX11_tillBesideLesser_1 : decode cX11_tillBesideLesser 1 = .ok (.getfield 30, 3) := by decide +kernel
theorem dX11_tillBesideLesser_4 : decode cX11_tillBesideLesser 4 = .ok (.getfield 100, 3) := by decide +kernel
theorem dX11_tillBesideLesser_7 : decode cX11_tillBesideLesser 7 = .ok (.getfield 104, 3) := by decide +kernel
theorem dX11_tillBesideLesser_10 : decode cX11_tillBesideLesser 10 = .ok (.iload_n 1, 1) := by decide +kernel
theorem dX11_tillBesideLesser_11 : decode cX11_tillBesideLesser 11 = .ok (.aaload, 1) := by decide +kernel
theorem dX11_tillBesideLesser_12 : decode cX11_tillBesideLesser 12 = .ok (.astore_n 2, 1) := by decide +kernel
theorem dX11_tillBesideLesser_13 : decode cX11_tillBesideLesser 13 = .ok (.aload_n 2, 1) := by decide +kernel
theorem dX11_tillBesideLesser_14 : decode cX11_tillBesideLesser 14 = .ok (.getfield 118, 3) := by decide +kernel
theorem dX11_tillBesideLesser_17 : decode cX11_tillBesideLesser 17 = .ok (.istore_n 3, 1) := by decide +kernel
theorem dX11_tillBesideLesser_18 : decode cX11_tillBesideLesser 18 = .ok (.iconst 0, 1) := by decide +kernel
theorem dX11_tillBesideLesser_19 : decode cX11_tillBesideLesser 19 = .ok (.istore 4, 2) := by decide +kernel
theorem dX11_tillBesideLesser_21 : decode cX11_tillBesideLesser 21 = .ok (.iload 4, 2) := by decide +kernel
theorem dX11_tillBesideLesser_23 : decode cX11_tillBesideLesser 23 = .ok (.iload_n 1, 1) := by decide +kernel
theorem dX11_tillBesideLesser_24 : decode cX11_tillBesideLesser 24 = .ok (.if_icmp .ge 82, 3) := by decide +kernel
theorem dX11_tillBesideLesser_27 : decode cX11_tillBesideLesser 27 = .ok (.aload_n 0, 1) := by decide +kernel
theorem dX11_tillBesideLesser_28 : decode cX11_tillBesideLesser 28 = .ok (.getfield 30, 3) := by decide +kernel
theorem dX11_tillBesideLesser_31 : decode cX11_tillBesideLesser 31 = .ok (.getfield 100, 3) := by decide +kernel
theorem dX11_tillBesideLesser_34 : decode cX11_tillBesideLesser 34 = .ok (.getfield 104, 3) := by decide +kernel
theorem dX11_tillBesideLesser_37 : decode cX11_tillBesideLesser 37 = .ok (.iload 4, 2) := by decide +kernel
theorem dX11_tillBesideLesser_39 : decode cX11_tillBesideLesser 39 = .ok (.aaload, 1) := by decide +kernel
theorem dX11_tillBesideLesser_40 : decode cX11_tillBesideLesser 40 = .ok (.astore 5, 2) := by decide +kernel
theorem dX11_tillBesideLesser_42 : decode cX11_tillBesideLesser 42 = .ok (.aload_n 2, 1) := by decide +kernel
theorem dX11_tillBesideLesser_43 : decode cX11_tillBesideLesser 43 = .ok (.getfield 354, 3) := by decide +kernel
theorem dX11_tillBesideLesser_46 : decode cX11_tillBesideLesser 46 = .ok (.aload 5, 2) := by decide +kernel
theorem dX11_tillBesideLesser_48 : decode cX11_tillBesideLesser 48 = .ok (.getfield 354, 3) := by decide +kernel
theorem dX11_tillBesideLesser_51 : decode cX11_tillBesideLesser 51 = .ok (.invokestatic 357, 3) := by decide +kernel
theorem dX11_tillBesideLesser_54 : decode cX11_tillBesideLesser 54 = .ok (.istore 6, 2) := by decide +kernel
theorem dX11_tillBesideLesser_56 : decode cX11_tillBesideLesser 56 = .ok (.aload_n 2, 1) := by decide +kernel
theorem dX11_tillBesideLesser_57 : decode cX11_tillBesideLesser 57 = .ok (.invokevirtual 351, 3) := by decide +kernel
theorem dX11_tillBesideLesser_60 : decode cX11_tillBesideLesser 60 = .ok (.aload 5, 2) := by decide +kernel
theorem dX11_tillBesideLesser_62 : decode cX11_tillBesideLesser 62 = .ok (.invokevirtual 351, 3) := by decide +kernel
theorem dX11_tillBesideLesser_65 : decode cX11_tillBesideLesser 65 = .ok (.iand, 1) := by decide +kernel
theorem dX11_tillBesideLesser_66 : decode cX11_tillBesideLesser 66 = .ok (.ifCond .eq 7, 3) := by decide +kernel
theorem dX11_tillBesideLesser_69 : decode cX11_tillBesideLesser 69 = .ok (.iconst 1, 1) := by decide +kernel
theorem dX11_tillBesideLesser_70 : decode cX11_tillBesideLesser 70 = .ok (.goto 4, 3) := by decide +kernel
theorem dX11_tillBesideLesser_73 : decode cX11_tillBesideLesser 73 = .ok (.iconst 0, 1) := by decide +kernel
theorem dX11_tillBesideLesser_74 : decode cX11_tillBesideLesser 74 = .ok (.istore 7, 2) := by decide +kernel
theorem dX11_tillBesideLesser_76 : decode cX11_tillBesideLesser 76 = .ok (.iload 7, 2) := by decide +kernel
theorem dX11_tillBesideLesser_78 : decode cX11_tillBesideLesser 78 = .ok (.ifCond .eq 22, 3) := by decide +kernel
theorem dX11_tillBesideLesser_81 : decode cX11_tillBesideLesser 81 = .ok (.iload 6, 2) := by decide +kernel
theorem dX11_tillBesideLesser_83 : decode cX11_tillBesideLesser 83 = .ok (.iload_n 3, 1) := by decide +kernel
theorem dX11_tillBesideLesser_84 : decode cX11_tillBesideLesser 84 = .ok (.aload_n 0, 1) := by decide +kernel
theorem dX11_tillBesideLesser_85 : decode cX11_tillBesideLesser 85 = .ok (.getfield 50, 3) := by decide +kernel
theorem dX11_tillBesideLesser_88 : decode cX11_tillBesideLesser 88 = .ok (.iload 4, 2) := by decide +kernel
theorem dX11_tillBesideLesser_90 : decode cX11_tillBesideLesser 90 = .ok (.iaload, 1) := by decide +kernel
theorem dX11_tillBesideLesser_91 : decode cX11_tillBesideLesser 91 = .ok (.invokestatic 362, 3) := by decide +kernel
theorem dX11_tillBesideLesser_94 : decode cX11_tillBesideLesser 94 = .ok (.if_icmp .ge 6, 3) := by decide +kernel
theorem dX11_tillBesideLesser_97 : decode cX11_tillBesideLesser 97 = .ok (.iload 6, 2) := by decide +kernel
theorem dX11_tillBesideLesser_99 : decode cX11_tillBesideLesser 99 = .ok (.istore_n 3, 1) := by decide +kernel
theorem dX11_tillBesideLesser_100 : decode cX11_tillBesideLesser 100 = .ok (.iinc 4 1, 3) := by decide +kernel
theorem dX11_tillBesideLesser_103 : decode cX11_tillBesideLesser 103 = .ok (.goto (-82), 3) := by decide +kernel
theorem dX11_tillBesideLesser_106 : decode cX11_tillBesideLesser 106 = .ok (.iload_n 3, 1) := by decide +kernel
theorem dX11_tillBesideLesser_107 : decode cX11_tillBesideLesser 107 = .ok (.ireturn, 1) := by decide +kernel
theorem dX11_isRest_0 : decode cX11_isRest 0 = .ok (.iconst 0, 1) := by decide +kernel
theorem dX11_isRest_1 : decode cX11_isRest 1 = .ok (.istore_n 2, 1) := by decide +kernel
theorem dX11_isRest_2 : decode cX11_isRest 2 = .ok (.iload_n 2, 1) := by decide +kernel
theorem dX11_isRest_3 : decode cX11_isRest 3 = .ok (.iconst 3, 1) := by decide +kernel
theorem dX11_isRest_4 : decode cX11_isRest 4 = .ok (.if_icmp .ge 30, 3) := by decide +kernel
theorem dX11_isRest_7 : decode cX11_isRest 7 = .ok (.aload_n 0, 1) := by decide +kernel
theorem dX11_isRest_8 : decode cX11_isRest 8 = .ok (.iload_n 2, 1) := by decide +kernel
theorem dX11_isRest_9 : decode cX11_isRest 9 = .ok (.iload_n 1, 1) := by decide +kernel
theorem dX11_isRest_10 : decode cX11_isRest 10 = .ok (.iconst 1, 1) := by decide +kernel
theorem dX11_isRest_11 : decode cX11_isRest 11 = .ok (.iload_n 2, 1) := by decide +kernel
theorem dX11_isRest_12 : decode cX11_isRest 12 = .ok (.ishl, 1) := by decide +kernel
theorem dX11_isRest_13 : decode cX11_isRest 13 = .ok (.ixor, 1) := by decide +kernel
theorem dX11_isRest_14 : decode cX11_isRest 14 = .ok (.invokevirtual 365, 3) := by decide +kernel
theorem dX11_isRest_17 : decode cX11_isRest 17 = .ok (.aload_n 0, 1) := by decide +kernel
theorem dX11_isRest_18 : decode cX11_isRest 18 = .ok (.iload_n 2, 1) := by decide +kernel
theorem dX11_isRest_19 : decode cX11_isRest 19 = .ok (.iload_n 1, 1) := by decide +kernel
theorem dX11_isRest_20 : decode cX11_isRest 20 = .ok (.invokevirtual 365, 3) := by decide +kernel
theorem dX11_isRest_23 : decode cX11_isRest 23 = .ok (.if_icmp .ge 5, 3) := by decide +kernel
theorem dX11_isRest_26 : decode cX11_isRest 26 = .ok (.iconst 0, 1) := by decide +kernel
theorem dX11_isRest_27 : decode cX11_isRest 27 = .ok (.ireturn, 1) := by decide +kernel
theorem dX11_isRest_28 : decode cX11_isRest 28 = .ok (.iinc 2 1, 3) := by decide +kernel
theorem dX11_isRest_31 : decode cX11_isRest 31 = .ok (.goto (-29), 3) := by decide +kernel
theorem dX11_isRest_34 : decode cX11_isRest 34 = .ok (.iconst 1, 1) := by decide +kernel
theorem dX11_isRest_35 : decode cX11_isRest 35 = .ok (.ireturn, 1) := by decide +kernel
theorem dX11_lossOf_0 : decode cX11_lossOf 0 = .ok (.iconst 0, 1) := by decide +kernel
theorem dX11_lossOf_1 : decode cX11_lossOf 1 = .ok (.istore_n 3, 1) := by decide +kernel
theorem dX11_lossOf_2 : decode cX11_lossOf 2 = .ok (.iconst 0, 1) := by decide +kernel
theorem dX11_lossOf_3 : decode cX11_lossOf 3 = .ok (.istore 4, 2) := by decide +kernel
theorem dX11_lossOf_5 : decode cX11_lossOf 5 = .ok (.iload 4, 2) := by decide +kernel
theorem dX11_lossOf_7 : decode cX11_lossOf 7 = .ok (.iconst 3, 1) := by decide +kernel
theorem dX11_lossOf_8 : decode cX11_lossOf 8 = .ok (.if_icmp .ge 33, 3) := by decide +kernel
theorem dX11_lossOf_11 : decode cX11_lossOf 11 = .ok (.iload_n 2, 1) := by decide +kernel
theorem dX11_lossOf_12 : decode cX11_lossOf 12 = .ok (.iconst 1, 1) := by decide +kernel
theorem dX11_lossOf_13 : decode cX11_lossOf 13 = .ok (.iload 4, 2) := by decide +kernel
theorem dX11_lossOf_15 : decode cX11_lossOf 15 = .ok (.ishl, 1) := by decide +kernel
theorem dX11_lossOf_16 : decode cX11_lossOf 16 = .ok (.iand, 1) := by decide +kernel
theorem dX11_lossOf_17 : decode cX11_lossOf 17 = .ok (.ifCond .ne 18, 3) := by decide +kernel
theorem dX11_lossOf_20 : decode cX11_lossOf 20 = .ok (.iload_n 3, 1) := by decide +kernel
theorem dX11_lossOf_21 : decode cX11_lossOf 21 = .ok (.aload_n 0, 1) := by decide +kernel
theorem dX11_lossOf_22 : decode cX11_lossOf 22 = .ok (.getfield 30, 3) := by decide +kernel
theorem dX11_lossOf_25 : decode cX11_lossOf 25 = .ok (.getfield 100, 3) := by decide +kernel
theorem dX11_lossOf_28 : decode cX11_lossOf 28 = .ok (.iload 4, 2) := by decide +kernel
theorem dX11_lossOf_30 : decode cX11_lossOf 30 = .ok (.invokevirtual 246, 3) := by decide +kernel
theorem dX11_lossOf_33 : decode cX11_lossOf 33 = .ok (.ior, 1) := by decide +kernel
theorem dX11_lossOf_34 : decode cX11_lossOf 34 = .ok (.istore_n 3, 1) := by decide +kernel
theorem dX11_lossOf_35 : decode cX11_lossOf 35 = .ok (.iinc 4 1, 3) := by decide +kernel
theorem dX11_lossOf_38 : decode cX11_lossOf 38 = .ok (.goto (-33), 3) := by decide +kernel
theorem dX11_lossOf_41 : decode cX11_lossOf 41 = .ok (.aload_n 0, 1) := by decide +kernel
theorem dX11_lossOf_42 : decode cX11_lossOf 42 = .ok (.getfield 30, 3) := by decide +kernel
theorem dX11_lossOf_45 : decode cX11_lossOf 45 = .ok (.getfield 100, 3) := by decide +kernel
theorem dX11_lossOf_48 : decode cX11_lossOf 48 = .ok (.iload_n 1, 1) := by decide +kernel
theorem dX11_lossOf_49 : decode cX11_lossOf 49 = .ok (.invokevirtual 246, 3) := by decide +kernel
theorem dX11_lossOf_52 : decode cX11_lossOf 52 = .ok (.istore 4, 2) := by decide +kernel
theorem dX11_lossOf_54 : decode cX11_lossOf 54 = .ok (.aload_n 0, 1) := by decide +kernel
theorem dX11_lossOf_55 : decode cX11_lossOf 55 = .ok (.getfield 30, 3) := by decide +kernel
theorem dX11_lossOf_58 : decode cX11_lossOf 58 = .ok (.getfield 82, 3) := by decide +kernel
theorem dX11_lossOf_61 : decode cX11_lossOf 61 = .ok (.iload 4, 2) := by decide +kernel
theorem dX11_lossOf_63 : decode cX11_lossOf 63 = .ok (.iload_n 3, 1) := by decide +kernel
theorem dX11_lossOf_64 : decode cX11_lossOf 64 = .ok (.iconst (-1), 1) := by decide +kernel
theorem dX11_lossOf_65 : decode cX11_lossOf 65 = .ok (.ixor, 1) := by decide +kernel
theorem dX11_lossOf_66 : decode cX11_lossOf 66 = .ok (.iand, 1) := by decide +kernel
theorem dX11_lossOf_67 : decode cX11_lossOf 67 = .ok (.invokevirtual 368, 3) := by decide +kernel
theorem dX11_lossOf_70 : decode cX11_lossOf 70 = .ok (.aload_n 0, 1) := by decide +kernel
theorem dX11_lossOf_71 : decode cX11_lossOf 71 = .ok (.getfield 30, 3) := by decide +kernel
theorem dX11_lossOf_74 : decode cX11_lossOf 74 = .ok (.aload_n 0, 1) := by decide +kernel
theorem dX11_lossOf_75 : decode cX11_lossOf 75 = .ok (.iload_n 3, 1) := by decide +kernel
theorem dX11_lossOf_76 : decode cX11_lossOf 76 = .ok (.invokevirtual 203, 3) := by decide +kernel
theorem dX11_lossOf_79 : decode cX11_lossOf 79 = .ok (.iload 4, 2) := by decide +kernel
theorem dX11_lossOf_81 : decode cX11_lossOf 81 = .ok (.iand, 1) := by decide +kernel
theorem dX11_lossOf_82 : decode cX11_lossOf 82 = .ok (.invokevirtual 249, 3) := by decide +kernel
theorem dX11_lossOf_85 : decode cX11_lossOf 85 = .ok (.iadd, 1) := by decide +kernel
theorem dX11_lossOf_86 : decode cX11_lossOf 86 = .ok (.ireturn, 1) := by decide +kernel
theorem dX11_wetBy_0 : decode cX11_wetBy 0 = .ok (.aload_n 0, 1) := by decide +kernel
theorem dX11_wetBy_1 : decode cX11_wetBy 1 = .ok (.getfield 30, 3) := by decide +kernel
theorem dX11_wetBy_4 : decode cX11_wetBy 4 = .ok (.getfield 100, 3) := by decide +kernel
theorem dX11_wetBy_7 : decode cX11_wetBy 7 = .ok (.iload_n 1, 1) := by decide +kernel
theorem dX11_wetBy_8 : decode cX11_wetBy 8 = .ok (.iconst 0, 1) := by decide +kernel
theorem dX11_wetBy_9 : decode cX11_wetBy 9 = .ok (.aload_n 0, 1) := by decide +kernel
theorem dX11_wetBy_10 : decode cX11_wetBy 10 = .ok (.getfield 30, 3) := by decide +kernel
theorem dX11_wetBy_13 : decode cX11_wetBy 13 = .ok (.getfield 82, 3) := by decide +kernel
theorem dX11_wetBy_16 : decode cX11_wetBy 16 = .ok (.getfield 171, 3) := by decide +kernel
theorem dX11_wetBy_19 : decode cX11_wetBy 19 = .ok (.iconst 0, 1) := by decide +kernel
theorem dX11_wetBy_20 : decode cX11_wetBy 20 = .ok (.invokevirtual 338, 3) := by decide +kernel
theorem dX11_wetBy_23 : decode cX11_wetBy 23 = .ok (.ireturn, 1) := by decide +kernel
theorem dX11_fittingWants_0 : decode cX11_fittingWants 0 = .ok (.iconst 0, 1) := by decide +kernel
theorem dX11_fittingWants_1 : decode cX11_fittingWants 1 = .ok (.istore_n 2, 1) := by decide +kernel
theorem dX11_fittingWants_2 : decode cX11_fittingWants 2 = .ok (.iconst 0, 1) := by decide +kernel
theorem dX11_fittingWants_3 : decode cX11_fittingWants 3 = .ok (.istore_n 3, 1) := by decide +kernel
theorem dX11_fittingWants_4 : decode cX11_fittingWants 4 = .ok (.iload_n 3, 1) := by decide +kernel
theorem dX11_fittingWants_5 : decode cX11_fittingWants 5 = .ok (.bipush 15, 2) := by decide +kernel
theorem dX11_fittingWants_7 : decode cX11_fittingWants 7 = .ok (.if_icmp .gt 34, 3) := by decide +kernel
theorem dX11_fittingWants_10 : decode cX11_fittingWants 10 = .ok (.aload_n 0, 1) := by decide +kernel
theorem dX11_fittingWants_11 : decode cX11_fittingWants 11 = .ok (.getfield 30, 3) := by decide +kernel
theorem dX11_fittingWants_14 : decode cX11_fittingWants 14 = .ok (.getfield 100, 3) := by decide +kernel
theorem dX11_fittingWants_17 : decode cX11_fittingWants 17 = .ok (.iload_n 1, 1) := by decide +kernel
theorem dX11_fittingWants_18 : decode cX11_fittingWants 18 = .ok (.aload_n 0, 1) := by decide +kernel
theorem dX11_fittingWants_19 : decode cX11_fittingWants 19 = .ok (.iload_n 3, 1) := by decide +kernel
theorem dX11_fittingWants_20 : decode cX11_fittingWants 20 = .ok (.invokevirtual 371, 3) := by decide +kernel
theorem dX11_fittingWants_23 : decode cX11_fittingWants 23 = .ok (.invokevirtual 374, 3) := by decide +kernel
theorem dX11_fittingWants_26 : decode cX11_fittingWants 26 = .ok (.ifCond .eq 9, 3) := by decide +kernel
theorem dX11_fittingWants_29 : decode cX11_fittingWants 29 = .ok (.iload_n 2, 1) := by decide +kernel
theorem dX11_fittingWants_30 : decode cX11_fittingWants 30 = .ok (.iconst 1, 1) := by decide +kernel
theorem dX11_fittingWants_31 : decode cX11_fittingWants 31 = .ok (.iload_n 3, 1) := by decide +kernel
theorem dX11_fittingWants_32 : decode cX11_fittingWants 32 = .ok (.ishl, 1) := by decide +kernel
theorem dX11_fittingWants_33 : decode cX11_fittingWants 33 = .ok (.ior, 1) := by decide +kernel
theorem dX11_fittingWants_34 : decode cX11_fittingWants 34 = .ok (.istore_n 2, 1) := by decide +kernel
theorem dX11_fittingWants_35 : decode cX11_fittingWants 35 = .ok (.iinc 3 1, 3) := by decide +kernel
theorem dX11_fittingWants_38 : decode cX11_fittingWants 38 = .ok (.goto (-34), 3) := by decide +kernel
theorem dX11_fittingWants_41 : decode cX11_fittingWants 41 = .ok (.iload_n 2, 1) := by decide +kernel
theorem dX11_fittingWants_42 : decode cX11_fittingWants 42 = .ok (.ireturn, 1) := by decide +kernel
theorem dX11_nextToTell_0 : decode cX11_nextToTell 0 = .ok (.iload_n 1, 1) := by decide +kernel
theorem dX11_nextToTell_1 : decode cX11_nextToTell 1 = .ok (.ifCond .ne 5, 3) := by decide +kernel
theorem dX11_nextToTell_4 : decode cX11_nextToTell 4 = .ok (.iconst (-1), 1) := by decide +kernel
theorem dX11_nextToTell_5 : decode cX11_nextToTell 5 = .ok (.ireturn, 1) := by decide +kernel
theorem dX11_nextToTell_6 : decode cX11_nextToTell 6 = .ok (.iload_n 1, 1) := by decide +kernel
theorem dX11_nextToTell_7 : decode cX11_nextToTell 7 = .ok (.invokestatic 262, 3) := by decide +kernel
theorem dX11_nextToTell_10 : decode cX11_nextToTell 10 = .ok (.istore_n 2, 1) := by decide +kernel
theorem dX11_nextToTell_11 : decode cX11_nextToTell 11 = .ok (.iconst (-1), 1) := by decide +kernel
theorem dX11_nextToTell_12 : decode cX11_nextToTell 12 = .ok (.istore_n 3, 1) := by decide +kernel
theorem dX11_nextToTell_13 : decode cX11_nextToTell 13 = .ok (.iload_n 2, 1) := by decide +kernel
theorem dX11_nextToTell_14 : decode cX11_nextToTell 14 = .ok (.iconst 1, 1) := by decide +kernel
theorem dX11_nextToTell_15 : decode cX11_nextToTell 15 = .ok (.iadd, 1) := by decide +kernel
theorem dX11_nextToTell_16 : decode cX11_nextToTell 16 = .ok (.istore 4, 2) := by decide +kernel
theorem dX11_nextToTell_18 : decode cX11_nextToTell 18 = .ok (.iconst 0, 1) := by decide +kernel
theorem dX11_nextToTell_19 : decode cX11_nextToTell 19 = .ok (.istore 5, 2) := by decide +kernel
theorem dX11_nextToTell_21 : decode cX11_nextToTell 21 = .ok (.iload 5, 2) := by decide +kernel
theorem dX11_nextToTell_23 : decode cX11_nextToTell 23 = .ok (.aload_n 0, 1) := by decide +kernel
theorem dX11_nextToTell_24 : decode cX11_nextToTell 24 = .ok (.getfield 30, 3) := by decide +kernel
theorem dX11_nextToTell_27 : decode cX11_nextToTell 27 = .ok (.getfield 100, 3) := by decide +kernel
theorem dX11_nextToTell_30 : decode cX11_nextToTell 30 = .ok (.getfield 230, 3) := by decide +kernel
theorem dX11_nextToTell_33 : decode cX11_nextToTell 33 = .ok (.if_icmp .ge 43, 3) := by decide +kernel
theorem dX11_nextToTell_36 : decode cX11_nextToTell 36 = .ok (.aload_n 0, 1) := by decide +kernel
theorem dX11_nextToTell_37 : decode cX11_nextToTell 37 = .ok (.iload 5, 2) := by decide +kernel
theorem dX11_nextToTell_39 : decode cX11_nextToTell 39 = .ok (.iload_n 1, 1) := by decide +kernel
theorem dX11_nextToTell_40 : decode cX11_nextToTell 40 = .ok (.invokevirtual 377, 3) := by decide +kernel
theorem dX11_nextToTell_43 : decode cX11_nextToTell 43 = .ok (.istore 6, 2) := by decide +kernel
theorem dX11_nextToTell_45 : decode cX11_nextToTell 45 = .ok (.iload 6, 2) := by decide +kernel
theorem dX11_nextToTell_47 : decode cX11_nextToTell 47 = .ok (.iload_n 2, 1) := by decide +kernel
theorem dX11_nextToTell_48 : decode cX11_nextToTell 48 = .ok (.iload 6, 2) := by decide +kernel
theorem dX11_nextToTell_50 : decode cX11_nextToTell 50 = .ok (.isub, 1) := by decide +kernel
theorem dX11_nextToTell_51 : decode cX11_nextToTell 51 = .ok (.invokestatic 357, 3) := by decide +kernel
theorem dX11_nextToTell_54 : decode cX11_nextToTell 54 = .ok (.istore 7, 2) := by decide +kernel
theorem dX11_nextToTell_56 : decode cX11_nextToTell 56 = .ok (.iload 7, 2) := by decide +kernel
theorem dX11_nextToTell_58 : decode cX11_nextToTell 58 = .ok (.iload 4, 2) := by decide +kernel
theorem dX11_nextToTell_60 : decode cX11_nextToTell 60 = .ok (.if_icmp .ge 10, 3) := by decide +kernel
theorem dX11_nextToTell_63 : decode cX11_nextToTell 63 = .ok (.iload 7, 2) := by decide +kernel
theorem dX11_nextToTell_65 : decode cX11_nextToTell 65 = .ok (.istore 4, 2) := by decide +kernel
theorem dX11_nextToTell_67 : decode cX11_nextToTell 67 = .ok (.iload 5, 2) := by decide +kernel
theorem dX11_nextToTell_69 : decode cX11_nextToTell 69 = .ok (.istore_n 3, 1) := by decide +kernel
theorem dX11_nextToTell_70 : decode cX11_nextToTell 70 = .ok (.iinc 5 1, 3) := by decide +kernel
theorem dX11_nextToTell_73 : decode cX11_nextToTell 73 = .ok (.goto (-52), 3) := by decide +kernel
theorem dX11_nextToTell_76 : decode cX11_nextToTell 76 = .ok (.iload_n 3, 1) := by decide +kernel
theorem dX11_nextToTell_77 : decode cX11_nextToTell 77 = .ok (.ireturn, 1) := by decide +kernel
theorem dX11_countWetting_0 : decode cX11_countWetting 0 = .ok (.iconst 0, 1) := by decide +kernel
theorem dX11_countWetting_1 : decode cX11_countWetting 1 = .ok (.istore_n 3, 1) := by decide +kernel
theorem dX11_countWetting_2 : decode cX11_countWetting 2 = .ok (.iconst 0, 1) := by decide +kernel
theorem dX11_countWetting_3 : decode cX11_countWetting 3 = .ok (.istore 4, 2) := by decide +kernel
theorem dX11_countWetting_5 : decode cX11_countWetting 5 = .ok (.iload 4, 2) := by decide +kernel
theorem dX11_countWetting_7 : decode cX11_countWetting 7 = .ok (.bipush 15, 2) := by decide +kernel
theorem dX11_countWetting_9 : decode cX11_countWetting 9 = .ok (.if_icmp .gt 34, 3) := by decide +kernel
theorem dX11_countWetting_12 : decode cX11_countWetting 12 = .ok (.iload_n 2, 1) := by decide +kernel
theorem dX11_countWetting_13 : decode cX11_countWetting 13 = .ok (.iconst 1, 1) := by decide +kernel
theorem dX11_countWetting_14 : decode cX11_countWetting 14 = .ok (.iload 4, 2) := by decide +kernel
theorem dX11_countWetting_16 : decode cX11_countWetting 16 = .ok (.ishl, 1) := by decide +kernel
theorem dX11_countWetting_17 : decode cX11_countWetting 17 = .ok (.iand, 1) := by decide +kernel
theorem dX11_countWetting_18 : decode cX11_countWetting 18 = .ok (.ifCond .eq 19, 3) := by decide +kernel
theorem dX11_countWetting_21 : decode cX11_countWetting 21 = .ok (.aload_n 0, 1) := by decide +kernel
theorem dX11_countWetting_22 : decode cX11_countWetting 22 = .ok (.iload 4, 2) := by decide +kernel
theorem dX11_countWetting_24 : decode cX11_countWetting 24 = .ok (.invokevirtual 371, 3) := by decide +kernel
theorem dX11_countWetting_27 : decode cX11_countWetting 27 = .ok (.iconst 1, 1) := by decide +kernel
theorem dX11_countWetting_28 : decode cX11_countWetting 28 = .ok (.iload_n 1, 1) := by decide +kernel
theorem dX11_countWetting_29 : decode cX11_countWetting 29 = .ok (.ishl, 1) := by decide +kernel
theorem dX11_countWetting_30 : decode cX11_countWetting 30 = .ok (.iand, 1) := by decide +kernel
theorem dX11_countWetting_31 : decode cX11_countWetting 31 = .ok (.ifCond .eq 6, 3) := by decide +kernel
theorem dX11_countWetting_34 : decode cX11_countWetting 34 = .ok (.iinc 3 1, 3) := by decide +kernel
theorem dX11_countWetting_37 : decode cX11_countWetting 37 = .ok (.iinc 4 1, 3) := by decide +kernel
theorem dX11_countWetting_40 : decode cX11_countWetting 40 = .ok (.goto (-35), 3) := by decide +kernel
theorem dX11_countWetting_43 : decode cX11_countWetting 43 = .ok (.iload_n 3, 1) := by decide +kernel
theorem dX11_countWetting_44 : decode cX11_countWetting 44 = .ok (.ireturn, 1) := by decide +kernel
theorem dX11_lineFits_0 : decode cX11_lineFits 0 = .ok (.iload_n 1, 1) := by decide +kernel
theorem dX11_lineFits_1 : decode cX11_lineFits 1 = .ok (.iload_n 0, 1) := by decide +kernel
theorem dX11_lineFits_2 : decode cX11_lineFits 2 = .ok (.ishr, 1) := by decide +kernel
theorem dX11_lineFits_3 : decode cX11_lineFits 3 = .ok (.ifCond .eq 5, 3) := by decide +kernel
theorem dX11_lineFits_6 : decode cX11_lineFits 6 = .ok (.iconst 0, 1) := by decide +kernel
theorem dX11_lineFits_7 : decode cX11_lineFits 7 = .ok (.ireturn, 1) := by decide +kernel
theorem dX11_lineFits_8 : decode cX11_lineFits 8 = .ok (.iload_n 0, 1) := by decide +kernel
theorem dX11_lineFits_9 : decode cX11_lineFits 9 = .ok (.iconst 2, 1) := by decide +kernel
theorem dX11_lineFits_10 : decode cX11_lineFits 10 = .ok (.if_icmp .lt 11, 3) := by decide +kernel
theorem dX11_lineFits_13 : decode cX11_lineFits 13 = .ok (.iload_n 1, 1) := by decide +kernel
theorem dX11_lineFits_14 : decode cX11_lineFits 14 = .ok (.iload_n 0, 1) := by decide +kernel
theorem dX11_lineFits_15 : decode cX11_lineFits 15 = .ok (.iconst 2, 1) := by decide +kernel
theorem dX11_lineFits_16 : decode cX11_lineFits 16 = .ok (.isub, 1) := by decide +kernel
theorem dX11_lineFits_17 : decode cX11_lineFits 17 = .ok (.ishr, 1) := by decide +kernel
theorem dX11_lineFits_18 : decode cX11_lineFits 18 = .ok (.ifCond .eq 7, 3) := by decide +kernel
theorem dX11_lineFits_21 : decode cX11_lineFits 21 = .ok (.iconst 1, 1) := by decide +kernel
theorem dX11_lineFits_22 : decode cX11_lineFits 22 = .ok (.goto 4, 3) := by decide +kernel
theorem dX11_lineFits_25 : decode cX11_lineFits 25 = .ok (.iconst 0, 1) := by decide +kernel
theorem dX11_lineFits_26 : decode cX11_lineFits 26 = .ok (.ireturn, 1) := by decide +kernel
theorem dX12_in_0 : decode cX12_in 0 = .ok (.lload_n 0, 1) := by decide +kernel
theorem dX12_in_1 : decode cX12_in 1 = .ok (.lload_n 2, 1) := by decide +kernel
theorem dX12_in_2 : decode cX12_in 2 = .ok (.lcmp, 1) := by decide +kernel
theorem dX12_in_3 : decode cX12_in 3 = .ok (.ifCond .lt 14, 3) := by decide +kernel
theorem dX12_in_6 : decode cX12_in 6 = .ok (.lload_n 0, 1) := by decide +kernel
theorem dX12_in_7 : decode cX12_in 7 = .ok (.lload 4, 2) := by decide +kernel
theorem dX12_in_9 : decode cX12_in 9 = .ok (.lcmp, 1) := by decide +kernel
theorem dX12_in_10 : decode cX12_in 10 = .ok (.ifCond .gt 7, 3) := by decide +kernel
theorem dX12_in_13 : decode cX12_in 13 = .ok (.iconst 1, 1) := by decide +kernel
theorem dX12_in_14 : decode cX12_in 14 = .ok (.goto 4, 3) := by decide +kernel
theorem dX12_in_17 : decode cX12_in 17 = .ok (.iconst 0, 1) := by decide +kernel
theorem dX12_in_18 : decode cX12_in 18 = .ok (.ireturn, 1) := by decide +kernel
theorem dX12_lesser_0 : decode cX12_lesser 0 = .ok (.iload_n 0, 1) := by decide +kernel
theorem dX12_lesser_1 : decode cX12_lesser 1 = .ok (.iload_n 1, 1) := by decide +kernel
theorem dX12_lesser_2 : decode cX12_lesser 2 = .ok (.if_icmp .ge 7, 3) := by decide +kernel
theorem dX12_lesser_5 : decode cX12_lesser 5 = .ok (.iload_n 0, 1) := by decide +kernel
theorem dX12_lesser_6 : decode cX12_lesser 6 = .ok (.goto 4, 3) := by decide +kernel
theorem dX12_lesser_9 : decode cX12_lesser 9 = .ok (.iload_n 1, 1) := by decide +kernel
theorem dX12_lesser_10 : decode cX12_lesser 10 = .ok (.ireturn, 1) := by decide +kernel
theorem dX12_init_0 : decode cX12_init 0 = .ok (.aload_n 0, 1) := by decide +kernel
theorem dX12_init_1 : decode cX12_init 1 = .ok (.invokespecial 1, 3) := by decide +kernel
theorem dX12_init_4 : decode cX12_init 4 = .ok (.aload_n 0, 1) := by decide +kernel
theorem dX12_init_5 : decode cX12_init 5 = .ok (.sipush 259, 3) := by decide +kernel
theorem dX12_init_8 : decode cX12_init 8 = .ok (.newarray .int, 2) := by decide +kernel
theorem dX12_init_10 : decode cX12_init 10 = .ok (.putfield 7, 3) := by decide +kernel
theorem dX12_init_13 : decode cX12_init 13 = .ok (.aload_n 0, 1) := by decide +kernel
theorem dX12_init_14 : decode cX12_init 14 = .ok (.sipush 518, 3) := by decide +kernel
theorem dX12_init_17 : decode cX12_init 17 = .ok (.newarray .int, 2) := by decide +kernel
theorem dX12_init_19 : decode cX12_init 19 = .ok (.putfield 13, 3) := by decide +kernel
theorem dX12_init_22 : decode cX12_init 22 = .ok (.aload_n 0, 1) := by decide +kernel
theorem dX12_init_23 : decode cX12_init 23 = .ok (.iconst 2, 1) := by decide +kernel
theorem dX12_init_24 : decode cX12_init 24 = .ok (.newarray .boolean, 2) := by decide +kernel
theorem dX12_init_26 : decode cX12_init 26 = .ok (.putfield 16, 3) := by decide +kernel
theorem dX12_init_29 : decode cX12_init 29 = .ok (.aload_n 0, 1) := by decide +kernel
theorem dX12_init_30 : decode cX12_init 30 = .ok (.sipush 259, 3) := by decide +kernel
theorem dX12_init_33 : decode cX12_init 33 = .ok (.newarray .int, 2) := by decide +kernel
theorem dX12_init_35 : decode cX12_init 35 = .ok (.putfield 20, 3) := by decide +kernel
theorem dX12_init_38 : decode cX12_init 38 = .ok (.aload_n 0, 1) := by decide +kernel
theorem dX12_init_39 : decode cX12_init 39 = .ok (.sipush 259, 3) := by decide +kernel
theorem dX12_init_42 : decode cX12_init 42 = .ok (.newarray .int, 2) := by decide +kernel
theorem dX12_init_44 : decode cX12_init 44 = .ok (.putfield 23, 3) := by decide +kernel
theorem dX12_init_47 : decode cX12_init 47 = .ok (.aload_n 0, 1) := by decide +kernel
theorem dX12_init_48 : decode cX12_init 48 = .ok (.iconst 3, 1) := by decide +kernel
theorem dX12_init_49 : decode cX12_init 49 = .ok (.newarray .int, 2) := by decide +kernel
theorem dX12_init_51 : decode cX12_init 51 = .ok (.putfield 26, 3) := by decide +kernel
theorem dX12_init_54 : decode cX12_init 54 = .ok (.aload_n 0, 1) := by decide +kernel
theorem dX12_init_55 : decode cX12_init 55 = .ok (.sipush 150, 3) := by decide +kernel
theorem dX12_init_58 : decode cX12_init 58 = .ok (.newarray .int, 2) := by decide +kernel
theorem dX12_init_60 : decode cX12_init 60 = .ok (.putfield 29, 3) := by decide +kernel
theorem dX12_init_63 : decode cX12_init 63 = .ok (.aload_n 0, 1) := by decide +kernel
theorem dX12_init_64 : decode cX12_init 64 = .ok (.sipush 350, 3) := by decide +kernel
theorem dX12_init_67 : decode cX12_init 67 = .ok (.newarray .int, 2) := by decide +kernel
theorem dX12_init_69 : decode cX12_init 69 = .ok (.putfield 32, 3) := by decide +kernel
theorem dX12_init_72 : decode cX12_init 72 = .ok (.aload_n 0, 1) := by decide +kernel
theorem dX12_init_73 : decode cX12_init 73 = .ok (.bipush 6, 2) := by decide +kernel
theorem dX12_init_75 : decode cX12_init 75 = .ok (.newarray .int, 2) := by decide +kernel
theorem dX12_init_77 : decode cX12_init 77 = .ok (.putfield 35, 3) := by decide +kernel
theorem dX12_init_80 : decode cX12_init 80 = .ok (.aload_n 0, 1) := by decide +kernel
theorem dX12_init_81 : decode cX12_init 81 = .ok (.bipush 8, 2) := by decide +kernel
theorem dX12_init_83 : decode cX12_init 83 = .ok (.newarray .int, 2) := by decide +kernel
theorem dX12_init_85 : decode cX12_init 85 = .ok (.putfield 38, 3) := by decide +kernel
theorem dX12_init_88 : decode cX12_init 88 = .ok (.aload_n 0, 1) := by decide +kernel
theorem dX12_init_89 : decode cX12_init 89 = .ok (.bipush 6, 2) := by decide +kernel
theorem dX12_init_91 : decode cX12_init 91 = .ok (.invokevirtual 41, 3) := by decide +kernel
theorem dX12_init_94 : decode cX12_init 94 = .ok (.return_, 1) := by decide +kernel
theorem dX12_begins_0 : decode cX12_begins 0 = .ok (.iconst 0, 1) := by decide +kernel
theorem dX12_begins_1 : decode cX12_begins 1 = .ok (.istore_n 2, 1) := by decide +kernel
theorem dX12_begins_2 : decode cX12_begins 2 = .ok (.iload_n 2, 1) := by decide +kernel
theorem dX12_begins_3 : decode cX12_begins 3 = .ok (.sipush 259, 3) := by decide +kernel
theorem dX12_begins_6 : decode cX12_begins 6 = .ok (.if_icmp .ge 16, 3) := by decide +kernel
theorem dX12_begins_9 : decode cX12_begins 9 = .ok (.aload_n 0, 1) := by decide +kernel
theorem dX12_begins_10 : decode cX12_begins 10 = .ok (.getfield 7, 3) := by decide +kernel
theorem dX12_begins_13 : decode cX12_begins 13 = .ok (.iload_n 2, 1) := by decide +kernel
theorem dX12_begins_14 : decode cX12_begins 14 = .ok (.iconst 0, 1) := by decide +kernel
theorem dX12_begins_15 : decode cX12_begins 15 = .ok (.iastore, 1) := by decide +kernel
theorem dX12_begins_16 : decode cX12_begins 16 = .ok (.iinc 2 1, 3) := by decide +kernel
theorem dX12_begins_19 : decode cX12_begins 19 = .ok (.goto (-17), 3) := by decide +kernel
theorem dX12_begins_22 : decode cX12_begins 22 = .ok (.aload_n 0, 1) := by decide +kernel
theorem dX12_begins_23 : decode cX12_begins 23 = .ok (.getfield 7, 3) := by decide +kernel
theorem dX12_begins_26 : decode cX12_begins 26 = .ok (.iconst 0, 1) := by decide +kernel
theorem dX12_begins_27 : decode cX12_begins 27 = .ok (.iload_n 1, 1) := by decide +kernel
theorem dX12_begins_28 : decode cX12_begins 28 = .ok (.iastore, 1) := by decide +kernel
theorem dX12_begins_29 : decode cX12_begins 29 = .ok (.aload_n 0, 1) := by decide +kernel
theorem dX12_begins_30 : decode cX12_begins 30 = .ok (.getfield 7, 3) := by decide +kernel
theorem dX12_begins_33 : decode cX12_begins 33 = .ok (.iconst 2, 1) := by decide +kernel
theorem dX12_begins_34 : decode cX12_begins 34 = .ok (.bipush 50, 2) := by decide +kernel
theorem dX12_begins_36 : decode cX12_begins 36 = .ok (.iastore, 1) := by decide +kernel
theorem dX12_begins_37 : decode cX12_begins 37 = .ok (.aload_n 0, 1) := by decide +kernel
theorem dX12_begins_38 : decode cX12_begins 38 = .ok (.getfield 7, 3) := by decide +kernel
theorem dX12_begins_41 : decode cX12_begins 41 = .ok (.iconst 3, 1) := by decide +kernel
theorem dX12_begins_42 : decode cX12_begins 42 = .ok (.iconst 4, 1) := by decide +kernel
theorem dX12_begins_43 : decode cX12_begins 43 = .ok (.iastore, 1) := by decide +kernel
theorem dX12_begins_44 : decode cX12_begins 44 = .ok (.iconst 0, 1) := by decide +kernel
theorem dX12_begins_45 : decode cX12_begins 45 = .ok (.istore_n 2, 1) := by decide +kernel
theorem dX12_begins_46 : decode cX12_begins 46 = .ok (.iload_n 2, 1) := by decide +kernel
theorem dX12_begins_47 : decode cX12_begins 47 = .ok (.bipush 8, 2) := by decide +kernel
theorem dX12_begins_49 : decode cX12_begins 49 = .ok (.if_icmp .ge 46, 3) := by decide +kernel
theorem dX12_begins_52 : decode cX12_begins 52 = .ok (.aload_n 0, 1) := by decide +kernel
theorem dX12_begins_53 : decode cX12_begins 53 = .ok (.getfield 7, 3) := by decide +kernel
theorem dX12_begins_56 : decode cX12_begins 56 = .ok (.bipush 7, 2) := by decide +kernel
theorem dX12_begins_58 : decode cX12_begins 58 = .ok (.iload_n 2, 1) := by decide +kernel
theorem dX12_begins_59 : decode cX12_begins 59 = .ok (.iadd, 1) := by decide +kernel
theorem dX12_begins_60 : decode cX12_begins 60 = .ok (.iconst 3, 1) := by decide +kernel
theorem dX12_begins_61 : decode cX12_begins 61 = .ok (.iastore, 1) := by decide +kernel
theorem dX12_begins_62 : decode cX12_begins 62 = .ok (.aload_n 0, 1) := by decide +kernel
theorem dX12_begins_63 : decode cX12_begins 63 = .ok (.getfield 7, 3) := by decide +kernel
theorem dX12_begins_66 : decode cX12_begins 66 = .ok (.bipush 15, 2) := by decide +kernel
theorem dX12_begins_68 : decode cX12_begins 68 = .ok (.iconst 5, 1) := by decide +kernel
theorem dX12_begins_69 : decode cX12_begins 69 = .ok (.iload_n 2, 1) := by decide +kernel
theorem dX12_begins_70 : decode cX12_begins 70 = .ok (.imul, 1) := by decide +kernel
theorem dX12_begins_71 : decode cX12_begins 71 = .ok (.iadd, 1) := by decide +kernel
theorem dX12_begins_72 : decode cX12_begins 72 = .ok (.iconst 2, 1) := by decide +kernel
theorem dX12_begins_73 : decode cX12_begins 73 = .ok (.iastore, 1) := by decide +kernel
theorem dX12_begins_74 : decode cX12_begins 74 = .ok (.aload_n 0, 1) := by decide +kernel
theorem dX12_begins_75 : decode cX12_begins 75 = .ok (.getfield 7, 3) := by decide +kernel
theorem dX12_begins_78 : decode cX12_begins 78 = .ok (.bipush 15, 2) := by decide +kernel
theorem dX12_begins_80 : decode cX12_begins 80 = .ok (.iconst 5, 1) := by decide +kernel
theorem dX12_begins_81 : decode cX12_begins 81 = .ok (.iload_n 2, 1) := by decide +kernel
theorem dX12_begins_82 : decode cX12_begins 82 = .ok (.imul, 1) := by decide +kernel
theorem dX12_begins_83 : decode cX12_begins 83 = .ok (.iadd, 1) := by decide +kernel
theorem dX12_begins_84 : decode cX12_begins 84 = .ok (.iconst 1, 1) := by decide +kernel
theorem dX12_begins_85 : decode cX12_begins 85 = .ok (.iadd, 1) := by decide +kernel
theorem dX12_begins_86 : decode cX12_begins 86 = .ok (.bipush 10, 2) := by decide +kernel
theorem dX12_begins_88 : decode cX12_begins 88 = .ok (.iastore, 1) := by decide +kernel
theorem dX12_begins_89 : decode cX12_begins 89 = .ok (.iinc 2 1, 3) := by decide +kernel
theorem dX12_begins_92 : decode cX12_begins 92 = .ok (.goto (-46), 3) := by decide +kernel
theorem dX12_begins_95 : decode cX12_begins 95 = .ok (.return_, 1) := by decide +kernel
theorem dX12_refuses_0 : decode cX12_refuses 0 = .ok (.aload_n 0, 1) := by decide +kernel
theorem dX12_refuses_1 : decode cX12_refuses 1 = .ok (.getfield 26, 3) := by decide +kernel
theorem dX12_refuses_4 : decode cX12_refuses 4 = .ok (.iload_n 1, 1) := by decide +kernel
theorem dX12_refuses_5 : decode cX12_refuses 5 = .ok (.dup2, 1) := by decide +kernel
theorem dX12_refuses_6 : decode cX12_refuses 6 = .ok (.iaload, 1) := by decide +kernel
theorem dX12_refuses_7 : decode cX12_refuses 7 = .ok (.aload_n 0, 1) := by decide +kernel
theorem dX12_refuses_8 : decode cX12_refuses 8 = .ok (.getfield 45, 3) := by decide +kernel
theorem dX12_refuses_11 : decode cX12_refuses 11 = .ok (.ifCond .eq 7, 3) := by decide +kernel
theorem dX12_refuses_14 : decode cX12_refuses 14 = .ok (.iconst 0, 1) := by decide +kernel
theorem dX12_refuses_15 : decode cX12_refuses 15 = .ok (.goto 4, 3) := by decide +kernel
theorem dX12_refuses_18 : decode cX12_refuses 18 = .ok (.iconst 1, 1) := by decide +kernel
theorem dX12_refuses_19 : decode cX12_refuses 19 = .ok (.iadd, 1) := by decide +kernel
theorem dX12_refuses_20 : decode cX12_refuses 20 = .ok (.iastore, 1) := by decide +kernel
theorem dX12_refuses_21 : decode cX12_refuses 21 = .ok (.iload_n 2, 1) := by decide +kernel
theorem dX12_refuses_22 : decode cX12_refuses 22 = .ok (.ireturn, 1) := by decide +kernel
theorem dX12_bad_0 : decode cX12_bad 0 = .ok (.aload_n 0, 1) := by decide +kernel
theorem dX12_bad_1 : decode cX12_bad 1 = .ok (.iconst 0, 1) := by decide +kernel
theorem dX12_bad_2 : decode cX12_bad 2 = .ok (.bipush (-2), 2) := by decide +kernel
theorem dX12_bad_4 : decode cX12_bad 4 = .ok (.invokevirtual 49, 3) := by decide +kernel
theorem dX12_bad_7 : decode cX12_bad 7 = .ok (.ireturn, 1) := by decide +kernel
theorem dX12_no_0 : decode cX12_no 0 = .ok (.aload_n 0, 1) := by decide +kernel
theorem dX12_no_1 : decode cX12_no 1 = .ok (.iconst 1, 1) := by decide +kernel
theorem dX12_no_2 : decode cX12_no 2 = .ok (.bipush (-3), 2) := by decide +kernel
theorem dX12_no_4 : decode cX12_no 4 = .ok (.invokevirtual 49, 3) := by decide +kernel
theorem dX12_no_7 : decode cX12_no 7 = .ok (.ireturn, 1) := by decide +kernel
theorem dX12_full_0 : decode cX12_full 0 = .ok (.aload_n 0, 1) := by decide +kernel
theorem dX12_full_1 : decode cX12_full 1 = .ok (.iconst 2, 1) := by decide +kernel
theorem dX12_full_2 : decode cX12_full 2 = .ok (.bipush (-4), 2) := by decide +kernel
theorem dX12_full_4 : decode cX12_full 4 = .ok (.invokevirtual 49, 3) := by decide +kernel
theorem dX12_full_7 : decode cX12_full 7 = .ok (.ireturn, 1) := by decide +kernel
theorem dX12_isCell_0 : decode cX12_isCell 0 = .ok (.iload_n 1, 1) := by decide +kernel
theorem dX12_isCell_1 : decode cX12_isCell 1 = .ok (.i2l, 1) := by decide +kernel
theorem dX12_isCell_2 : decode cX12_isCell 2 = .ok (.lconst 0, 1) := by decide +kernel
theorem dX12_isCell_3 : decode cX12_isCell 3 = .ok (.aload_n 0, 1) := by decide +kernel
theorem dX12_isCell_4 : decode cX12_isCell 4 = .ok (.getfield 7, 3) := by decide +kernel
theorem dX12_isCell_7 : decode cX12_isCell 7 = .ok (.iconst 0, 1) := by decide +kernel
theorem dX12_isCell_8 : decode cX12_isCell 8 = .ok (.iaload, 1) := by decide +kernel
theorem dX12_isCell_9 : decode cX12_isCell 9 = .ok (.iconst 1, 1) := by decide +kernel
theorem dX12_isCell_10 : decode cX12_isCell 10 = .ok (.isub, 1) := by decide +kernel
theorem dX12_isCell_11 : decode cX12_isCell 11 = .ok (.i2l, 1) := by decide +kernel
theorem dX12_isCell_12 : decode cX12_isCell 12 = .ok (.invokestatic 53, 3) := by decide +kernel
theorem dX12_isCell_15 : decode cX12_isCell 15 = .ok (.ireturn, 1) := by decide +kernel
theorem dX12_isTreaty_0 : decode cX12_isTreaty 0 = .ok (.iload_n 1, 1) := by decide +kernel
theorem dX12_isTreaty_1 : decode cX12_isTreaty 1 = .ok (.i2l, 1) := by decide +kernel
theorem dX12_isTreaty_2 : decode cX12_isTreaty 2 = .ok (.lconst 0, 1) := by decide +kernel
theorem dX12_isTreaty_3 : decode cX12_isTreaty 3 = .ok (.aload_n 0, 1) := by decide +kernel
theorem dX12_isTreaty_4 : decode cX12_isTreaty 4 = .ok (.getfield 7, 3) := by decide +kernel
theorem dX12_isTreaty_7 : decode cX12_isTreaty 7 = .ok (.iconst 4, 1) := by decide +kernel
theorem dX12_isTreaty_8 : decode cX12_isTreaty 8 = .ok (.iaload, 1) := by decide +kernel
theorem dX12_isTreaty_9 : decode cX12_isTreaty 9 = .ok (.iconst 1, 1) := by decide +kernel
theorem dX12_isTreaty_10 : decode cX12_isTreaty 10 = .ok (.isub, 1) := by decide +kernel
theorem dX12_isTreaty_11 : decode cX12_isTreaty 11 = .ok (.i2l, 1) := by decide +kernel
theorem dX12_isTreaty_12 : decode cX12_isTreaty 12 = .ok (.invokestatic 53, 3) := by decide +kernel
theorem dX12_isTreaty_15 : decode cX12_isTreaty 15 = .ok (.ireturn, 1) := by decide +kernel
theorem dX12_areCells_0 : decode cX12_areCells 0 = .ok (.iload_n 1, 1) := by decide +kernel
theorem dX12_areCells_1 : decode cX12_areCells 1 = .ok (.i2l, 1) := by decide +kernel
theorem dX12_areCells_2 : decode cX12_areCells 2 = .ok (.lconst 0, 1) := by decide +kernel
theorem dX12_areCells_3 : decode cX12_areCells 3 = .ok (.iconst 1, 1) := by decide +kernel
theorem dX12_areCells_4 : decode cX12_areCells 4 = .ok (.aload_n 0, 1) := by decide +kernel
theorem dX12_areCells_5 : decode cX12_areCells 5 = .ok (.getfield 7, 3) := by decide +kernel
theorem dX12_areCells_8 : decode cX12_areCells 8 = .ok (.iconst 0, 1) := by decide +kernel
theorem dX12_areCells_9 : decode cX12_areCells 9 = .ok (.iaload, 1) := by decide +kernel
theorem dX12_areCells_10 : decode cX12_areCells 10 = .ok (.ishl, 1) := by decide +kernel
theorem dX12_areCells_11 : decode cX12_areCells 11 = .ok (.iconst 1, 1) := by decide +kernel
theorem dX12_areCells_12 : decode cX12_areCells 12 = .ok (.isub, 1) := by decide +kernel
theorem dX12_areCells_13 : decode cX12_areCells 13 = .ok (.i2l, 1) := by decide +kernel
theorem dX12_areCells_14 : decode cX12_areCells 14 = .ok (.invokestatic 53, 3) := by decide +kernel
theorem dX12_areCells_17 : decode cX12_areCells 17 = .ok (.ireturn, 1) := by decide +kernel
theorem dX12_at_0 : decode cX12_at 0 = .ok (.bipush 15, 2) := by decide +kernel
theorem dX12_at_2 : decode cX12_at 2 = .ok (.iconst 5, 1) := by decide +kernel
theorem dX12_at_3 : decode cX12_at 3 = .ok (.iload_n 0, 1) := by decide +kernel
theorem dX12_at_4 : decode cX12_at 4 = .ok (.imul, 1) := by decide +kernel
theorem dX12_at_5 : decode cX12_at 5 = .ok (.iadd, 1) := by decide +kernel
theorem dX12_at_6 : decode cX12_at 6 = .ok (.iload_n 1, 1) := by decide +kernel
theorem dX12_at_7 : decode cX12_at 7 = .ok (.iadd, 1) := by decide +kernel
theorem dX12_at_8 : decode cX12_at 8 = .ok (.ireturn, 1) := by decide +kernel
theorem dX12_of0_0 : decode cX12_of0 0 = .ok (.bipush 55, 2) := by decide +kernel
theorem dX12_of0_2 : decode cX12_of0 2 = .ok (.bipush 7, 2) := by decide +kernel
theorem dX12_of0_4 : decode cX12_of0 4 = .ok (.iload_n 0, 1) := by decide +kernel
theorem dX12_of0_5 : decode cX12_of0 5 = .ok (.imul, 1) := by decide +kernel
theorem dX12_of0_6 : decode cX12_of0 6 = .ok (.iadd, 1) := by decide +kernel
theorem dX12_of0_7 : decode cX12_of0 7 = .ok (.iload_n 1, 1) := by decide +kernel
theorem dX12_of0_8 : decode cX12_of0 8 = .ok (.iadd, 1) := by decide +kernel
theorem dX12_of0_9 : decode cX12_of0 9 = .ok (.ireturn, 1) := by decide +kernel
theorem dX12_tells_0 : decode cX12_tells 0 = .ok (.aload_n 0, 1) := by decide +kernel
theorem dX12_tells_1 : decode cX12_tells 1 = .ok (.getfield 7, 3) := by decide +kernel
theorem dX12_tells_4 : decode cX12_tells 4 = .ok (.iload_n 1, 1) := by decide +kernel
theorem dX12_tells_5 : decode cX12_tells 5 = .ok (.iaload, 1) := by decide +kernel
theorem dX12_tells_6 : decode cX12_tells 6 = .ok (.istore_n 3, 1) := by decide +kernel
theorem dX12_tells_7 : decode cX12_tells 7 = .ok (.aload_n 0, 1) := by decide +kernel
theorem dX12_tells_8 : decode cX12_tells 8 = .ok (.getfield 7, 3) := by decide +kernel
theorem dX12_tells_11 : decode cX12_tells 11 = .ok (.iload_n 1, 1) := by decide +kernel
theorem dX12_tells_12 : decode cX12_tells 12 = .ok (.iload_n 2, 1) := by decide +kernel
theorem dX12_tells_13 : decode cX12_tells 13 = .ok (.iastore, 1) := by decide +kernel
theorem dX12_tells_14 : decode cX12_tells 14 = .ok (.aload_n 0, 1) := by decide +kernel
theorem dX12_tells_15 : decode cX12_tells 15 = .ok (.getfield 7, 3) := by decide +kernel
theorem dX12_tells_18 : decode cX12_tells 18 = .ok (.bipush 6, 2) := by decide +kernel
theorem dX12_tells_20 : decode cX12_tells 20 = .ok (.iconst 0, 1) := by decide +kernel
theorem dX12_tells_21 : decode cX12_tells 21 = .ok (.iastore, 1) := by decide +kernel
theorem dX12_tells_22 : decode cX12_tells 22 = .ok (.iload_n 3, 1) := by decide +kernel
theorem dX12_tells_23 : decode cX12_tells 23 = .ok (.ireturn, 1) := by decide +kernel
theorem dX12_coast_0 : decode cX12_coast 0 = .ok (.iload_n 1, 1) := by decide +kernel
theorem dX12_coast_1 : decode cX12_coast 1 = .ok (.i2l, 1) := by decide +kernel
theorem dX12_coast_2 : decode cX12_coast 2 = .ok (.lconst 1, 1) := by decide +kernel
theorem dX12_coast_3 : decode cX12_coast 3 = .ok (.ldc2_w 57, 3) := by decide +kernel
theorem dX12_coast_6 : decode cX12_coast 6 = .ok (.invokestatic 53, 3) := by decide +kernel
theorem dX12_coast_9 : decode cX12_coast 9 = .ok (.ifCond .ne 8, 3) := by decide +kernel
theorem dX12_coast_12 : decode cX12_coast 12 = .ok (.aload_n 0, 1) := by decide +kernel
theorem dX12_coast_13 : decode cX12_coast 13 = .ok (.invokevirtual 59, 3) := by decide +kernel
theorem dX12_coast_16 : decode cX12_coast 16 = .ok (.ireturn, 1) := by decide +kernel
theorem dX12_coast_17 : decode cX12_coast 17 = .ok (.aload_n 0, 1) := by decide +kernel
theorem dX12_coast_18 : decode cX12_coast 18 = .ok (.getfield 7, 3) := by decide +kernel
theorem dX12_coast_21 : decode cX12_coast 21 = .ok (.iconst 0, 1) := by decide +kernel
theorem dX12_coast_22 : decode cX12_coast 22 = .ok (.iaload, 1) := by decide +kernel
theorem dX12_coast_23 : decode cX12_coast 23 = .ok (.istore_n 2, 1) := by decide +kernel
theorem dX12_coast_24 : decode cX12_coast 24 = .ok (.aload_n 0, 1) := by decide +kernel
theorem dX12_coast_25 : decode cX12_coast 25 = .ok (.iload_n 1, 1) := by decide +kernel
theorem dX12_coast_26 : decode cX12_coast 26 = .ok (.invokevirtual 41, 3) := by decide +kernel
theorem dX12_coast_29 : decode cX12_coast 29 = .ok (.iload_n 2, 1) := by decide +kernel
theorem dX12_coast_30 : decode cX12_coast 30 = .ok (.ireturn, 1) := by decide +kernel
theorem dX12_cell_0 : decode cX12_cell 0 = .ok (.aload_n 0, 1) := by decide +kernel
theorem dX12_cell_1 : decode cX12_cell 1 = .ok (.iload_n 1, 1) := by decide +kernel
theorem dX12_cell_2 : decode cX12_cell 2 = .ok (.invokevirtual 63, 3) := by decide +kernel
theorem dX12_cell_5 : decode cX12_cell 5 = .ok (.ifCond .eq 40, 3) := by decide +kernel
theorem dX12_cell_8 : decode cX12_cell 8 = .ok (.iload_n 2, 1) := by decide +kernel
theorem dX12_cell_9 : decode cX12_cell 9 = .ok (.i2l, 1) := by decide +kernel
theorem dX12_cell_10 : decode cX12_cell 10 = .ok (.lconst 0, 1) := by decide +kernel
theorem dX12_cell_11 : decode cX12_cell 11 = .ok (.ldc2_w 67, 3) := by decide +kernel
theorem dX12_cell_14 : decode cX12_cell 14 = .ok (.invokestatic 53, 3) := by decide +kernel
theorem dX12_cell_17 : decode cX12_cell 17 = .ok (.ifCond .eq 28, 3) := by decide +kernel
theorem dX12_cell_20 : decode cX12_cell 20 = .ok (.iload_n 3, 1) := by decide +kernel
theorem dX12_cell_21 : decode cX12_cell 21 = .ok (.i2l, 1) := by decide +kernel
theorem dX12_cell_22 : decode cX12_cell 22 = .ok (.lconst 0, 1) := by decide +kernel
theorem dX12_cell_23 : decode cX12_cell 23 = .ok (.ldc2_w 69, 3) := by decide +kernel
theorem dX12_cell_26 : decode cX12_cell 26 = .ok (.invokestatic 53, 3) := by decide +kernel
theorem dX12_cell_29 : decode cX12_cell 29 = .ok (.ifCond .eq 16, 3) := by decide +kernel
theorem dX12_cell_32 : decode cX12_cell 32 = .ok (.iload 4, 2) := by decide +kernel
theorem dX12_cell_34 : decode cX12_cell 34 = .ok (.i2l, 1) := by decide +kernel
theorem dX12_cell_35 : decode cX12_cell 35 = .ok (.lconst 0, 1) := by decide +kernel
theorem dX12_cell_36 : decode cX12_cell 36 = .ok (.ldc2_w 71, 3) := by decide +kernel
theorem dX12_cell_39 : decode cX12_cell 39 = .ok (.invokestatic 53, 3) := by decide +kernel
theorem dX12_cell_42 : decode cX12_cell 42 = .ok (.ifCond .ne 8, 3) := by decide +kernel
theorem dX12_cell_45 : decode cX12_cell 45 = .ok (.aload_n 0, 1) := by decide +kernel
theorem dX12_cell_46 : decode cX12_cell 46 = .ok (.invokevirtual 59, 3) := by decide +kernel
theorem dX12_cell_49 : decode cX12_cell 49 = .ok (.ireturn, 1) := by decide +kernel
theorem dX12_cell_50 : decode cX12_cell 50 = .ok (.aload_n 0, 1) := by decide +kernel
theorem dX12_cell_51 : decode cX12_cell 51 = .ok (.getfield 7, 3) := by decide +kernel
theorem dX12_cell_54 : decode cX12_cell 54 = .ok (.iload_n 1, 1) := by decide +kernel
theorem dX12_cell_55 : decode cX12_cell 55 = .ok (.iconst 1, 1) := by decide +kernel
theorem dX12_cell_56 : decode cX12_cell 56 = .ok (.invokestatic 73, 3) := by decide +kernel
theorem dX12_cell_59 : decode cX12_cell 59 = .ok (.iload_n 3, 1) := by decide +kernel
theorem dX12_cell_60 : decode cX12_cell 60 = .ok (.iastore, 1) := by decide +kernel
theorem dX12_cell_61 : decode cX12_cell 61 = .ok (.aload_n 0, 1) := by decide +kernel
theorem dX12_cell_62 : decode cX12_cell 62 = .ok (.getfield 7, 3) := by decide +kernel
theorem dX12_cell_65 : decode cX12_cell 65 = .ok (.iload_n 1, 1) := by decide +kernel
theorem dX12_cell_66 : decode cX12_cell 66 = .ok (.iconst 2, 1) := by decide +kernel
theorem dX12_cell_67 : decode cX12_cell 67 = .ok (.invokestatic 73, 3) := by decide +kernel
theorem dX12_cell_70 : decode cX12_cell 70 = .ok (.iload 4, 2) := by decide +kernel
theorem dX12_cell_72 : decode cX12_cell 72 = .ok (.iastore, 1) := by decide +kernel
theorem dX12_cell_73 : decode cX12_cell 73 = .ok (.aload_n 0, 1) := by decide +kernel
theorem dX12_cell_74 : decode cX12_cell 74 = .ok (.getfield 7, 3) := by decide +kernel
theorem dX12_cell_77 : decode cX12_cell 77 = .ok (.iload_n 1, 1) := by decide +kernel
theorem dX12_cell_78 : decode cX12_cell 78 = .ok (.iconst 4, 1) := by decide +kernel
theorem dX12_cell_79 : decode cX12_cell 79 = .ok (.invokestatic 73, 3) := by decide +kernel
theorem dX12_cell_82 : decode cX12_cell 82 = .ok (.iconst 0, 1) := by decide +kernel
theorem dX12_cell_83 : decode cX12_cell 83 = .ok (.iastore, 1) := by decide +kernel
theorem dX12_cell_84 : decode cX12_cell 84 = .ok (.aload_n 0, 1) := by decide +kernel
theorem dX12_cell_85 : decode cX12_cell 85 = .ok (.iload_n 1, 1) := by decide +kernel
theorem dX12_cell_86 : decode cX12_cell 86 = .ok (.iconst 0, 1) := by decide +kernel
theorem dX12_cell_87 : decode cX12_cell 87 = .ok (.invokestatic 73, 3) := by decide +kernel
theorem dX12_cell_90 : decode cX12_cell 90 = .ok (.iload_n 2, 1) := by decide +kernel
theorem dX12_cell_91 : decode cX12_cell 91 = .ok (.invokevirtual 76, 3) := by decide +kernel
theorem dX12_cell_94 : decode cX12_cell 94 = .ok (.ireturn, 1) := by decide +kernel
theorem dX12_dike_0 : decode cX12_dike 0 = .ok (.aload_n 0, 1) := by decide +kernel
theorem dX12_dike_1 : decode cX12_dike 1 = .ok (.iload_n 1, 1) := by decide +kernel
theorem dX12_dike_2 : decode cX12_dike 2 = .ok (.invokevirtual 63, 3) := by decide +kernel
theorem dX12_dike_5 : decode cX12_dike 5 = .ok (.ifCond .eq 28, 3) := by decide +kernel
theorem dX12_dike_8 : decode cX12_dike 8 = .ok (.iload_n 2, 1) := by decide +kernel
theorem dX12_dike_9 : decode cX12_dike 9 = .ok (.i2l, 1) := by decide +kernel
theorem dX12_dike_10 : decode cX12_dike 10 = .ok (.lconst 0, 1) := by decide +kernel
theorem dX12_dike_11 : decode cX12_dike 11 = .ok (.ldc2_w 67, 3) := by decide +kernel
theorem dX12_dike_14 : decode cX12_dike 14 = .ok (.invokestatic 53, 3) := by decide +kernel
theorem dX12_dike_17 : decode cX12_dike 17 = .ok (.ifCond .eq 16, 3) := by decide +kernel
theorem dX12_dike_20 : decode cX12_dike 20 = .ok (.aload_n 0, 1) := by decide +kernel
theorem dX12_dike_21 : decode cX12_dike 21 = .ok (.iload_n 1, 1) := by decide +kernel
theorem dX12_dike_22 : decode cX12_dike 22 = .ok (.iconst 3, 1) := by decide +kernel
theorem dX12_dike_23 : decode cX12_dike 23 = .ok (.invokestatic 73, 3) := by decide +kernel
theorem dX12_dike_26 : decode cX12_dike 26 = .ok (.iload_n 2, 1) := by decide +kernel
theorem dX12_dike_27 : decode cX12_dike 27 = .ok (.invokevirtual 76, 3) := by decide +kernel
theorem dX12_dike_30 : decode cX12_dike 30 = .ok (.goto 7, 3) := by decide +kernel
theorem dX12_dike_33 : decode cX12_dike 33 = .ok (.aload_n 0, 1) := by decide +kernel
theorem dX12_dike_34 : decode cX12_dike 34 = .ok (.invokevirtual 59, 3) := by decide +kernel
theorem dX12_dike_37 : decode cX12_dike 37 = .ok (.ireturn, 1) := by decide +kernel
theorem dX12_want_0 : decode cX12_want 0 = .ok (.iload_n 1, 1) := by decide +kernel
theorem dX12_want_1 : decode cX12_want 1 = .ok (.i2l, 1) := by decide +kernel
theorem dX12_want_2 : decode cX12_want 2 = .ok (.lconst 0, 1) := by decide +kernel
theorem dX12_want_3 : decode cX12_want 3 = .ok (.ldc2_w 79, 3) := by decide +kernel
theorem dX12_want_6 : decode cX12_want 6 = .ok (.invokestatic 53, 3) := by decide +kernel
theorem dX12_want_9 : decode cX12_want 9 = .ok (.ifCond .eq 27, 3) := by decide +kernel
theorem dX12_want_12 : decode cX12_want 12 = .ok (.iload_n 2, 1) := by decide +kernel
theorem dX12_want_13 : decode cX12_want 13 = .ok (.i2l, 1) := by decide +kernel
theorem dX12_want_14 : decode cX12_want 14 = .ok (.lconst 0, 1) := by decide +kernel
theorem dX12_want_15 : decode cX12_want 15 = .ok (.ldc2_w 81, 3) := by decide +kernel
theorem dX12_want_18 : decode cX12_want 18 = .ok (.invokestatic 53, 3) := by decide +kernel
theorem dX12_want_21 : decode cX12_want 21 = .ok (.ifCond .eq 15, 3) := by decide +kernel
theorem dX12_want_24 : decode cX12_want 24 = .ok (.aload_n 0, 1) := by decide +kernel
theorem dX12_want_25 : decode cX12_want 25 = .ok (.bipush 7, 2) := by decide +kernel
theorem dX12_want_27 : decode cX12_want 27 = .ok (.iload_n 1, 1) := by decide +kernel
theorem dX12_want_28 : decode cX12_want 28 = .ok (.iadd, 1) := by decide +kernel
theorem dX12_want_29 : decode cX12_want 29 = .ok (.iload_n 2, 1) := by decide +kernel
theorem dX12_want_30 : decode cX12_want 30 = .ok (.invokevirtual 76, 3) := by decide +kernel
theorem dX12_want_33 : decode cX12_want 33 = .ok (.goto 7, 3) := by decide +kernel
theorem dX12_want_36 : decode cX12_want 36 = .ok (.aload_n 0, 1) := by decide +kernel
theorem dX12_want_37 : decode cX12_want 37 = .ok (.invokevirtual 59, 3) := by decide +kernel
theorem dX12_want_40 : decode cX12_want 40 = .ok (.ireturn, 1) := by decide +kernel
theorem dX12_moon_0 : decode cX12_moon 0 = .ok (.iload_n 1, 1) := by decide +kernel
theorem dX12_moon_1 : decode cX12_moon 1 = .ok (.i2l, 1) := by decide +kernel
theorem dX12_moon_2 : decode cX12_moon 2 = .ok (.lconst 1, 1) := by decide +kernel
theorem dX12_moon_3 : decode cX12_moon 3 = .ok (.ldc2_w 67, 3) := by decide +kernel
theorem dX12_moon_6 : decode cX12_moon 6 = .ok (.invokestatic 53, 3) := by decide +kernel
theorem dX12_moon_9 : decode cX12_moon 9 = .ok (.ifCond .eq 12, 3) := by decide +kernel
theorem dX12_moon_12 : decode cX12_moon 12 = .ok (.aload_n 0, 1) := by decide +kernel
theorem dX12_moon_13 : decode cX12_moon 13 = .ok (.iconst 3, 1) := by decide +kernel
theorem dX12_moon_14 : decode cX12_moon 14 = .ok (.iload_n 1, 1) := by decide +kernel
theorem dX12_moon_15 : decode cX12_moon 15 = .ok (.invokevirtual 76, 3) := by decide +kernel
theorem dX12_moon_18 : decode cX12_moon 18 = .ok (.goto 7, 3) := by decide +kernel
theorem dX12_moon_21 : decode cX12_moon 21 = .ok (.aload_n 0, 1) := by decide +kernel
theorem dX12_moon_22 : decode cX12_moon 22 = .ok (.invokevirtual 59, 3) := by decide +kernel
theorem dX12_moon_25 : decode cX12_moon 25 = .ok (.ireturn, 1) := by decide +kernel
theorem dX12_bells_0 : decode cX12_bells 0 = .ok (.iload_n 1, 1) := by decide +kernel
theorem dX12_bells_1 : decode cX12_bells 1 = .ok (.i2l, 1) := by decide +kernel
theorem dX12_bells_2 : decode cX12_bells 2 = .ok (.lconst 0, 1) := by decide +kernel
theorem dX12_bells_3 : decode cX12_bells 3 = .ok (.ldc2_w 83, 3) := by decide +kernel
theorem dX12_bells_6 : decode cX12_bells 6 = .ok (.invokestatic 53, 3) := by decide +kernel
theorem dX12_bells_9 : decode cX12_bells 9 = .ok (.ifCond .eq 12, 3) := by decide +kernel
theorem dX12_bells_12 : decode cX12_bells 12 = .ok (.aload_n 0, 1) := by decide +kernel
theorem dX12_bells_13 : decode cX12_bells 13 = .ok (.iconst 2, 1) := by decide +kernel
theorem dX12_bells_14 : decode cX12_bells 14 = .ok (.iload_n 1, 1) := by decide +kernel
theorem dX12_bells_15 : decode cX12_bells 15 = .ok (.invokevirtual 76, 3) := by decide +kernel
theorem dX12_bells_18 : decode cX12_bells 18 = .ok (.goto 7, 3) := by decide +kernel
theorem dX12_bells_21 : decode cX12_bells 21 = .ok (.aload_n 0, 1) := by decide +kernel
theorem dX12_bells_22 : decode cX12_bells 22 = .ok (.invokevirtual 59, 3) := by decide +kernel
theorem dX12_bells_25 : decode cX12_bells 25 = .ok (.ireturn, 1) := by decide +kernel
theorem dX12_treaty_0 : decode cX12_treaty 0 = .ok (.iload_n 1, 1) := by decide +kernel
theorem dX12_treaty_1 : decode cX12_treaty 1 = .ok (.i2l, 1) := by decide +kernel
theorem dX12_treaty_2 : decode cX12_treaty 2 = .ok (.lconst 0, 1) := by decide +kernel
theorem dX12_treaty_3 : decode cX12_treaty 3 = .ok (.ldc2_w 85, 3) := by decide +kernel
theorem dX12_treaty_6 : decode cX12_treaty 6 = .ok (.invokestatic 53, 3) := by decide +kernel
theorem dX12_treaty_9 : decode cX12_treaty 9 = .ok (.ifCond .eq 61, 3) := by decide +kernel
theorem dX12_treaty_12 : decode cX12_treaty 12 = .ok (.aload_n 0, 1) := by decide +kernel
theorem dX12_treaty_13 : decode cX12_treaty 13 = .ok (.iload_n 3, 1) := by decide +kernel
theorem dX12_treaty_14 : decode cX12_treaty 14 = .ok (.invokevirtual 63, 3) := by decide +kernel
theorem dX12_treaty_17 : decode cX12_treaty 17 = .ok (.ifCond .eq 53, 3) := by decide +kernel
theorem dX12_treaty_20 : decode cX12_treaty 20 = .ok (.iload_n 2, 1) := by decide +kernel
theorem dX12_treaty_21 : decode cX12_treaty 21 = .ok (.i2l, 1) := by decide +kernel
theorem dX12_treaty_22 : decode cX12_treaty 22 = .ok (.lconst 0, 1) := by decide +kernel
theorem dX12_treaty_23 : decode cX12_treaty 23 = .ok (.iload_n 3, 1) := by decide +kernel
theorem dX12_treaty_24 : decode cX12_treaty 24 = .ok (.i2l, 1) := by decide +kernel
theorem dX12_treaty_25 : decode cX12_treaty 25 = .ok (.invokestatic 53, 3) := by decide +kernel
theorem dX12_treaty_28 : decode cX12_treaty 28 = .ok (.ifCond .eq 42, 3) := by decide +kernel
theorem dX12_treaty_31 : decode cX12_treaty 31 = .ok (.iload 5, 2) := by decide +kernel
theorem dX12_treaty_33 : decode cX12_treaty 33 = .ok (.i2l, 1) := by decide +kernel
theorem dX12_treaty_34 : decode cX12_treaty 34 = .ok (.lconst 0, 1) := by decide +kernel
theorem dX12_treaty_35 : decode cX12_treaty 35 = .ok (.ldc2_w 69, 3) := by decide +kernel
theorem dX12_treaty_38 : decode cX12_treaty 38 = .ok (.invokestatic 53, 3) := by decide +kernel
theorem dX12_treaty_41 : decode cX12_treaty 41 = .ok (.ifCond .eq 29, 3) := by decide +kernel
theorem dX12_treaty_44 : decode cX12_treaty 44 = .ok (.iload 4, 2) := by decide +kernel
theorem dX12_treaty_46 : decode cX12_treaty 46 = .ok (.i2l, 1) := by decide +kernel
theorem dX12_treaty_47 : decode cX12_treaty 47 = .ok (.lconst 0, 1) := by decide +kernel
theorem dX12_treaty_48 : decode cX12_treaty 48 = .ok (.ldc2_w 69, 3) := by decide +kernel
theorem dX12_treaty_51 : decode cX12_treaty 51 = .ok (.invokestatic 53, 3) := by decide +kernel
theorem dX12_treaty_54 : decode cX12_treaty 54 = .ok (.ifCond .eq 16, 3) := by decide +kernel
theorem dX12_treaty_57 : decode cX12_treaty 57 = .ok (.iload 6, 2) := by decide +kernel
theorem dX12_treaty_59 : decode cX12_treaty 59 = .ok (.i2l, 1) := by decide +kernel
theorem dX12_treaty_60 : decode cX12_treaty 60 = .ok (.lconst 0, 1) := by decide +kernel
theorem dX12_treaty_61 : decode cX12_treaty 61 = .ok (.ldc2_w 87, 3) := by decide +kernel
theorem dX12_treaty_64 : decode cX12_treaty 64 = .ok (.invokestatic 53, 3) := by decide +kernel
theorem dX12_treaty_67 : decode cX12_treaty 67 = .ok (.ifCond .ne 8, 3) := by decide +kernel
theorem dX12_treaty_70 : decode cX12_treaty 70 = .ok (.aload_n 0, 1) := by decide +kernel
theorem dX12_treaty_71 : decode cX12_treaty 71 = .ok (.invokevirtual 59, 3) := by decide +kernel
theorem dX12_treaty_74 : decode cX12_treaty 74 = .ok (.ireturn, 1) := by decide +kernel
theorem dX12_treaty_75 : decode cX12_treaty 75 = .ok (.aload_n 0, 1) := by decide +kernel
theorem dX12_treaty_76 : decode cX12_treaty 76 = .ok (.getfield 7, 3) := by decide +kernel
theorem dX12_treaty_79 : decode cX12_treaty 79 = .ok (.iconst 4, 1) := by decide +kernel
theorem dX12_treaty_80 : decode cX12_treaty 80 = .ok (.iaload, 1) := by decide +kernel
theorem dX12_treaty_81 : decode cX12_treaty 81 = .ok (.bipush 6, 2) := by decide +kernel
theorem dX12_treaty_83 : decode cX12_treaty 83 = .ok (.if_icmp .ne 8, 3) := by decide +kernel
theorem dX12_treaty_86 : decode cX12_treaty 86 = .ok (.aload_n 0, 1) := by decide +kernel
theorem dX12_treaty_87 : decode cX12_treaty 87 = .ok (.invokevirtual 89, 3) := by decide +kernel
theorem dX12_treaty_90 : decode cX12_treaty 90 = .ok (.ireturn, 1) := by decide +kernel
theorem dX12_treaty_91 : decode cX12_treaty 91 = .ok (.aload_n 0, 1) := by decide +kernel
theorem dX12_treaty_92 : decode cX12_treaty 92 = .ok (.getfield 7, 3) := by decide +kernel
theorem dX12_treaty_95 : decode cX12_treaty 95 = .ok (.iconst 4, 1) := by decide +kernel
theorem dX12_treaty_96 : decode cX12_treaty 96 = .ok (.iaload, 1) := by decide +kernel
theorem dX12_treaty_97 : decode cX12_treaty 97 = .ok (.istore 7, 2) := by decide +kernel
theorem dX12_treaty_99 : decode cX12_treaty 99 = .ok (.aload_n 0, 1) := by decide +kernel
theorem dX12_treaty_100 : decode cX12_treaty 100 = .ok (.iload_n 1, 1) := by decide +kernel
theorem dX12_treaty_101 : decode cX12_treaty 101 = .ok (.iload_n 2, 1) := by decide +kernel
theorem dX12_treaty_102 : decode cX12_treaty 102 = .ok (.iload_n 3, 1) := by decide +kernel
theorem dX12_treaty_103 : decode cX12_treaty 103 = .ok (.iload 4, 2) := by decide +kernel
theorem dX12_treaty_105 : decode cX12_treaty 105 = .ok (.iload 5, 2) := by decide +kernel
theorem dX12_treaty_107 : decode cX12_treaty 107 = .ok (.iload 6, 2) := by decide +kernel
theorem dX12_treaty_109 : decode cX12_treaty 109 = .ok (.invokevirtual 92, 3) := by decide +kernel
theorem dX12_treaty_112 : decode cX12_treaty 112 = .ok (.aload_n 0, 1) := by decide +kernel
theorem dX12_treaty_113 : decode cX12_treaty 113 = .ok (.getfield 7, 3) := by decide +kernel
theorem dX12_treaty_116 : decode cX12_treaty 116 = .ok (.bipush 6, 2) := by decide +kernel
theorem dX12_treaty_118 : decode cX12_treaty 118 = .ok (.iconst 0, 1) := by decide +kernel
theorem dX12_treaty_119 : decode cX12_treaty 119 = .ok (.iastore, 1) := by decide +kernel
theorem dX12_treaty_120 : decode cX12_treaty 120 = .ok (.iload 7, 2) := by decide +kernel
theorem dX12_treaty_122 : decode cX12_treaty 122 = .ok (.ireturn, 1) := by decide +kernel
theorem dX12_adds_0 : decode cX12_adds 0 = .ok (.aload_n 0, 1) := by decide +kernel
theorem dX12_adds_1 : decode cX12_adds 1 = .ok (.getfield 7, 3) := by decide +kernel
theorem dX12_adds_4 : decode cX12_adds 4 = .ok (.iconst 4, 1) := by decide +kernel
theorem dX12_adds_5 : decode cX12_adds 5 = .ok (.iaload, 1) := by decide +kernel
theorem dX12_adds_6 : decode cX12_adds 6 = .ok (.iconst 0, 1) := by decide +kernel
theorem dX12_adds_7 : decode cX12_adds 7 = .ok (.invokestatic 96, 3) := by decide +kernel
theorem dX12_adds_10 : decode cX12_adds 10 = .ok (.istore 7, 2) := by decide +kernel
theorem dX12_adds_12 : decode cX12_adds 12 = .ok (.aload_n 0, 1) := by decide +kernel
theorem dX12_adds_13 : decode cX12_adds 13 = .ok (.getfield 7, 3) := by decide +kernel
theorem dX12_adds_16 : decode cX12_adds 16 = .ok (.iload 7, 2) := by decide +kernel
theorem dX12_adds_18 : decode cX12_adds 18 = .ok (.iload_n 1, 1) := by decide +kernel
theorem dX12_adds_19 : decode cX12_adds 19 = .ok (.iastore, 1) := by decide +kernel
theorem dX12_adds_20 : decode cX12_adds 20 = .ok (.aload_n 0, 1) := by decide +kernel
theorem dX12_adds_21 : decode cX12_adds 21 = .ok (.getfield 7, 3) := by decide +kernel
theorem dX12_adds_24 : decode cX12_adds 24 = .ok (.iload 7, 2) := by decide +kernel
theorem dX12_adds_26 : decode cX12_adds 26 = .ok (.iconst 1, 1) := by decide +kernel
theorem dX12_adds_27 : decode cX12_adds 27 = .ok (.iadd, 1) := by decide +kernel
theorem dX12_adds_28 : decode cX12_adds 28 = .ok (.iload_n 2, 1) := by decide +kernel
theorem dX12_adds_29 : decode cX12_adds 29 = .ok (.iastore, 1) := by decide +kernel
theorem dX12_adds_30 : decode cX12_adds 30 = .ok (.aload_n 0, 1) := by decide +kernel
theorem dX12_adds_31 : decode cX12_adds 31 = .ok (.getfield 7, 3) := by decide +kernel
theorem dX12_adds_34 : decode cX12_adds 34 = .ok (.iload 7, 2) := by decide +kernel
theorem dX12_adds_36 : decode cX12_adds 36 = .ok (.iconst 2, 1) := by decide +kernel
theorem dX12_adds_37 : decode cX12_adds 37 = .ok (.iadd, 1) := by decide +kernel
theorem dX12_adds_38 : decode cX12_adds 38 = .ok (.iload_n 3, 1) := by decide +kernel
theorem dX12_adds_39 : decode cX12_adds 39 = .ok (.iastore, 1) := by decide +kernel
theorem dX12_adds_40 : decode cX12_adds 40 = .ok (.aload_n 0, 1) := by decide +kernel
theorem dX12_adds_41 : decode cX12_adds 41 = .ok (.getfield 7, 3) := by decide +kernel
theorem dX12_adds_44 : decode cX12_adds 44 = .ok (.iload 7, 2) := by decide +kernel
theorem dX12_adds_46 : decode cX12_adds 46 = .ok (.iconst 3, 1) := by decide +kernel
theorem dX12_adds_47 : decode cX12_adds 47 = .ok (.iadd, 1) := by decide +kernel
theorem dX12_adds_48 : decode cX12_adds 48 = .ok (.iload 4, 2) := by decide +kernel
theorem dX12_adds_50 : decode cX12_adds 50 = .ok (.iastore, 1) := by decide +kernel
theorem dX12_adds_51 : decode cX12_adds 51 = .ok (.aload_n 0, 1) := by decide +kernel
theorem dX12_adds_52 : decode cX12_adds 52 = .ok (.getfield 7, 3) := by decide +kernel
theorem dX12_adds_55 : decode cX12_adds 55 = .ok (.iload 7, 2) := by decide +kernel
theorem dX12_adds_57 : decode cX12_adds 57 = .ok (.iconst 4, 1) := by decide +kernel
theorem dX12_adds_58 : decode cX12_adds 58 = .ok (.iadd, 1) := by decide +kernel
theorem dX12_adds_59 : decode cX12_adds 59 = .ok (.iload 5, 2) := by decide +kernel
theorem dX12_adds_61 : decode cX12_adds 61 = .ok (.iastore, 1) := by decide +kernel
theorem dX12_adds_62 : decode cX12_adds 62 = .ok (.aload_n 0, 1) := by decide +kernel
theorem dX12_adds_63 : decode cX12_adds 63 = .ok (.getfield 7, 3) := by decide +kernel
theorem dX12_adds_66 : decode cX12_adds 66 = .ok (.iload 7, 2) := by decide +kernel
theorem dX12_adds_68 : decode cX12_adds 68 = .ok (.iconst 5, 1) := by decide +kernel
theorem dX12_adds_69 : decode cX12_adds 69 = .ok (.iadd, 1) := by decide +kernel
theorem dX12_adds_70 : decode cX12_adds 70 = .ok (.iload 6, 2) := by decide +kernel
theorem dX12_adds_72 : decode cX12_adds 72 = .ok (.iastore, 1) := by decide +kernel
theorem dX12_adds_73 : decode cX12_adds 73 = .ok (.aload_n 0, 1) := by decide +kernel
theorem dX12_adds_74 : decode cX12_adds 74 = .ok (.getfield 7, 3) := by decide +kernel
theorem dX12_adds_77 : decode cX12_adds 77 = .ok (.iload 7, 2) := by decide +kernel
theorem dX12_adds_79 : decode cX12_adds 79 = .ok (.bipush 6, 2) := by decide +kernel
theorem dX12_adds_81 : decode cX12_adds 81 = .ok (.iadd, 1) := by decide +kernel
theorem dX12_adds_82 : decode cX12_adds 82 = .ok (.iconst 0, 1) := by decide +kernel
theorem dX12_adds_83 : decode cX12_adds 83 = .ok (.iastore, 1) := by decide +kernel
theorem dX12_adds_84 : decode cX12_adds 84 = .ok (.aload_n 0, 1) := by decide +kernel
theorem dX12_adds_85 : decode cX12_adds 85 = .ok (.getfield 7, 3) := by decide +kernel
theorem dX12_adds_88 : decode cX12_adds 88 = .ok (.iconst 4, 1) := by decide +kernel
theorem dX12_adds_89 : decode cX12_adds 89 = .ok (.dup2, 1) := by decide +kernel
theorem dX12_adds_90 : decode cX12_adds 90 = .ok (.iaload, 1) := by decide +kernel
theorem dX12_adds_91 : decode cX12_adds 91 = .ok (.iconst 1, 1) := by decide +kernel
theorem dX12_adds_92 : decode cX12_adds 92 = .ok (.iadd, 1) := by decide +kernel
theorem dX12_adds_93 : decode cX12_adds 93 = .ok (.iastore, 1) := by decide +kernel
theorem dX12_adds_94 : decode cX12_adds 94 = .ok (.return_, 1) := by decide +kernel
theorem dX12_end_0 : decode cX12_end 0 = .ok (.aload_n 0, 1) := by decide +kernel
theorem dX12_end_1 : decode cX12_end 1 = .ok (.iload_n 1, 1) := by decide +kernel
theorem dX12_end_2 : decode cX12_end 2 = .ok (.invokevirtual 99, 3) := by decide +kernel
theorem dX12_end_5 : decode cX12_end 5 = .ok (.ifCond .ne 8, 3) := by decide +kernel
theorem dX12_end_8 : decode cX12_end 8 = .ok (.aload_n 0, 1) := by decide +kernel
theorem dX12_end_9 : decode cX12_end 9 = .ok (.invokevirtual 59, 3) := by decide +kernel
theorem dX12_end_12 : decode cX12_end 12 = .ok (.ireturn, 1) := by decide +kernel
theorem dX12_end_13 : decode cX12_end 13 = .ok (.aload_n 0, 1) := by decide +kernel
theorem dX12_end_14 : decode cX12_end 14 = .ok (.getfield 7, 3) := by decide +kernel
theorem dX12_end_17 : decode cX12_end 17 = .ok (.iload_n 1, 1) := by decide +kernel
theorem dX12_end_18 : decode cX12_end 18 = .ok (.iconst 4, 1) := by decide +kernel
theorem dX12_end_19 : decode cX12_end 19 = .ok (.invokestatic 96, 3) := by decide +kernel
theorem dX12_end_22 : decode cX12_end 22 = .ok (.iaload, 1) := by decide +kernel
theorem dX12_end_23 : decode cX12_end 23 = .ok (.aload_n 0, 1) := by decide +kernel
theorem dX12_end_24 : decode cX12_end 24 = .ok (.getfield 7, 3) := by decide +kernel
theorem dX12_end_27 : decode cX12_end 27 = .ok (.iconst 1, 1) := by decide +kernel
theorem dX12_end_28 : decode cX12_end 28 = .ok (.iaload, 1) := by decide +kernel
theorem dX12_end_29 : decode cX12_end 29 = .ok (.if_icmp .le 22, 3) := by decide +kernel
theorem dX12_end_32 : decode cX12_end 32 = .ok (.aload_n 0, 1) := by decide +kernel
theorem dX12_end_33 : decode cX12_end 33 = .ok (.getfield 7, 3) := by decide +kernel
theorem dX12_end_36 : decode cX12_end 36 = .ok (.iload_n 1, 1) := by decide +kernel
theorem dX12_end_37 : decode cX12_end 37 = .ok (.iconst 3, 1) := by decide +kernel
theorem dX12_end_38 : decode cX12_end 38 = .ok (.invokestatic 96, 3) := by decide +kernel
theorem dX12_end_41 : decode cX12_end 41 = .ok (.iaload, 1) := by decide +kernel
theorem dX12_end_42 : decode cX12_end 42 = .ok (.aload_n 0, 1) := by decide +kernel
theorem dX12_end_43 : decode cX12_end 43 = .ok (.getfield 7, 3) := by decide +kernel
theorem dX12_end_46 : decode cX12_end 46 = .ok (.iconst 1, 1) := by decide +kernel
theorem dX12_end_47 : decode cX12_end 47 = .ok (.iaload, 1) := by decide +kernel
theorem dX12_end_48 : decode cX12_end 48 = .ok (.if_icmp .le 8, 3) := by decide +kernel
theorem dX12_end_51 : decode cX12_end 51 = .ok (.aload_n 0, 1) := by decide +kernel
theorem dX12_end_52 : decode cX12_end 52 = .ok (.invokevirtual 102, 3) := by decide +kernel
theorem dX12_end_55 : decode cX12_end 55 = .ok (.ireturn, 1) := by decide +kernel
theorem dX12_end_56 : decode cX12_end 56 = .ok (.aload_n 0, 1) := by decide +kernel
theorem dX12_end_57 : decode cX12_end 57 = .ok (.iload_n 1, 1) := by decide +kernel
theorem dX12_end_58 : decode cX12_end 58 = .ok (.iconst 4, 1) := by decide +kernel
theorem dX12_end_59 : decode cX12_end 59 = .ok (.invokestatic 96, 3) := by decide +kernel
theorem dX12_end_62 : decode cX12_end 62 = .ok (.aload_n 0, 1) := by decide +kernel
theorem dX12_end_63 : decode cX12_end 63 = .ok (.getfield 7, 3) := by decide +kernel
theorem dX12_end_66 : decode cX12_end 66 = .ok (.iconst 1, 1) := by decide +kernel
theorem dX12_end_67 : decode cX12_end 67 = .ok (.iaload, 1) := by decide +kernel
theorem dX12_end_68 : decode cX12_end 68 = .ok (.invokevirtual 76, 3) := by decide +kernel
theorem dX12_end_71 : decode cX12_end 71 = .ok (.pop, 1) := by decide +kernel
theorem dX12_end_72 : decode cX12_end 72 = .ok (.iconst 1, 1) := by decide +kernel
theorem dX12_end_73 : decode cX12_end 73 = .ok (.ireturn, 1) := by decide +kernel
theorem dX12_type_0 : decode cX12_type 0 = .ok (.iload_n 1, 1) := by decide +kernel
theorem dX12_type_1 : decode cX12_type 1 = .ok (.i2l, 1) := by decide +kernel
theorem dX12_type_2 : decode cX12_type 2 = .ok (.lconst 0, 1) := by decide +kernel
theorem dX12_type_3 : decode cX12_type 3 = .ok (.ldc2_w 105, 3) := by decide +kernel
theorem dX12_type_6 : decode cX12_type 6 = .ok (.invokestatic 53, 3) := by decide +kernel
theorem dX12_type_9 : decode cX12_type 9 = .ok (.ifCond .ne 8, 3) := by decide +kernel
theorem dX12_type_12 : decode cX12_type 12 = .ok (.aload_n 0, 1) := by decide +kernel
theorem dX12_type_13 : decode cX12_type 13 = .ok (.invokevirtual 59, 3) := by decide +kernel
theorem dX12_type_16 : decode cX12_type 16 = .ok (.ireturn, 1) := by decide +kernel
theorem dX12_type_17 : decode cX12_type 17 = .ok (.aload_n 0, 1) := by decide +kernel
theorem dX12_type_18 : decode cX12_type 18 = .ok (.getfield 107, 3) := by decide +kernel
theorem dX12_type_21 : decode cX12_type 21 = .ok (.sipush 150, 3) := by decide +kernel
theorem dX12_type_24 : decode cX12_type 24 = .ok (.if_icmp .ne 8, 3) := by decide +kernel
theorem dX12_type_27 : decode cX12_type 27 = .ok (.aload_n 0, 1) := by decide +kernel
theorem dX12_type_28 : decode cX12_type 28 = .ok (.invokevirtual 89, 3) := by decide +kernel
theorem dX12_type_31 : decode cX12_type 31 = .ok (.ireturn, 1) := by decide +kernel
theorem dX12_type_32 : decode cX12_type 32 = .ok (.aload_n 0, 1) := by decide +kernel
theorem dX12_type_33 : decode cX12_type 33 = .ok (.getfield 29, 3) := by decide +kernel
theorem dX12_type_36 : decode cX12_type 36 = .ok (.aload_n 0, 1) := by decide +kernel
theorem dX12_type_37 : decode cX12_type 37 = .ok (.getfield 107, 3) := by decide +kernel
theorem dX12_type_40 : decode cX12_type 40 = .ok (.iload_n 1, 1) := by decide +kernel
theorem dX12_type_41 : decode cX12_type 41 = .ok (.iastore, 1) := by decide +kernel
theorem dX12_type_42 : decode cX12_type 42 = .ok (.aload_n 0, 1) := by decide +kernel
theorem dX12_type_43 : decode cX12_type 43 = .ok (.dup, 1) := by decide +kernel
theorem dX12_type_44 : decode cX12_type 44 = .ok (.getfield 107, 3) := by decide +kernel
theorem dX12_type_47 : decode cX12_type 47 = .ok (.iconst 1, 1) := by decide +kernel
theorem dX12_type_48 : decode cX12_type 48 = .ok (.iadd, 1) := by decide +kernel
theorem dX12_type_49 : decode cX12_type 49 = .ok (.putfield 107, 3) := by decide +kernel
theorem dX12_type_52 : decode cX12_type 52 = .ok (.aload_n 0, 1) := by decide +kernel
theorem dX12_type_53 : decode cX12_type 53 = .ok (.getfield 107, 3) := by decide +kernel
theorem dX12_type_56 : decode cX12_type 56 = .ok (.ireturn, 1) := by decide +kernel
theorem dX12_clear_0 : decode cX12_clear 0 = .ok (.aload_n 0, 1) := by decide +kernel
theorem dX12_clear_1 : decode cX12_clear 1 = .ok (.getfield 107, 3) := by decide +kernel
theorem dX12_clear_4 : decode cX12_clear 4 = .ok (.istore_n 1, 1) := by decide +kernel
theorem dX12_clear_5 : decode cX12_clear 5 = .ok (.aload_n 0, 1) := by decide +kernel
theorem dX12_clear_6 : decode cX12_clear 6 = .ok (.iconst 0, 1) := by decide +kernel
theorem dX12_clear_7 : decode cX12_clear 7 = .ok (.putfield 107, 3) := by decide +kernel
theorem dX12_clear_10 : decode cX12_clear 10 = .ok (.iload_n 1, 1) := by decide +kernel
theorem dX12_clear_11 : decode cX12_clear 11 = .ok (.ireturn, 1) := by decide +kernel
theorem dX12_isAt_0 : decode cX12_isAt 0 = .ok (.aload_n 0, 1) := by decide +kernel
theorem dX12_isAt_1 : decode cX12_isAt 1 = .ok (.getfield 111, 3) := by decide +kernel
theorem dX12_isAt_4 : decode cX12_isAt 4 = .ok (.aload_n 0, 1) := by decide +kernel
theorem dX12_isAt_5 : decode cX12_isAt 5 = .ok (.getfield 107, 3) := by decide +kernel
theorem dX12_isAt_8 : decode cX12_isAt 8 = .ok (.if_icmp .ge 27, 3) := by decide +kernel
theorem dX12_isAt_11 : decode cX12_isAt 11 = .ok (.aload_n 0, 1) := by decide +kernel
theorem dX12_isAt_12 : decode cX12_isAt 12 = .ok (.getfield 29, 3) := by decide +kernel
theorem dX12_isAt_15 : decode cX12_isAt 15 = .ok (.aload_n 0, 1) := by decide +kernel
theorem dX12_isAt_16 : decode cX12_isAt 16 = .ok (.getfield 111, 3) := by decide +kernel
theorem dX12_isAt_19 : decode cX12_isAt 19 = .ok (.iaload, 1) := by decide +kernel
theorem dX12_isAt_20 : decode cX12_isAt 20 = .ok (.i2l, 1) := by decide +kernel
theorem dX12_isAt_21 : decode cX12_isAt 21 = .ok (.iload_n 1, 1) := by decide +kernel
theorem dX12_isAt_22 : decode cX12_isAt 22 = .ok (.i2l, 1) := by decide +kernel
theorem dX12_isAt_23 : decode cX12_isAt 23 = .ok (.iload_n 2, 1) := by decide +kernel
theorem dX12_isAt_24 : decode cX12_isAt 24 = .ok (.i2l, 1) := by decide +kernel
theorem dX12_isAt_25 : decode cX12_isAt 25 = .ok (.invokestatic 53, 3) := by decide +kernel
theorem dX12_isAt_28 : decode cX12_isAt 28 = .ok (.ifCond .eq 7, 3) := by decide +kernel
theorem dX12_isAt_31 : decode cX12_isAt 31 = .ok (.iconst 1, 1) := by decide +kernel
theorem dX12_isAt_32 : decode cX12_isAt 32 = .ok (.goto 4, 3) := by decide +kernel
theorem dX12_isAt_35 : decode cX12_isAt 35 = .ok (.iconst 0, 1) := by decide +kernel
theorem dX12_isAt_36 : decode cX12_isAt 36 = .ok (.ireturn, 1) := by decide +kernel
theorem dX12_verbOf_0 : decode cX12_verbOf 0 = .ok (.lload_n 0, 1) := by decide +kernel
theorem dX12_verbOf_1 : decode cX12_verbOf 1 = .ok (.ldc2_w 114, 3) := by decide +kernel
theorem dX12_verbOf_4 : decode cX12_verbOf 4 = .ok (.lcmp, 1) := by decide +kernel
theorem dX12_verbOf_5 : decode cX12_verbOf 5 = .ok (.ifCond .ne 7, 3) := by decide +kernel
theorem dX12_verbOf_8 : decode cX12_verbOf 8 = .ok (.iconst 0, 1) := by decide +kernel
theorem dX12_verbOf_9 : decode cX12_verbOf 9 = .ok (.goto 28, 3) := by decide +kernel
theorem dX12_verbOf_12 : decode cX12_verbOf 12 = .ok (.lload_n 0, 1) := by decide +kernel
theorem dX12_verbOf_13 : decode cX12_verbOf 13 = .ok (.ldc2_w 116, 3) := by decide +kernel
theorem dX12_verbOf_16 : decode cX12_verbOf 16 = .ok (.lcmp, 1) := by decide +kernel
theorem dX12_verbOf_17 : decode cX12_verbOf 17 = .ok (.ifCond .ne 7, 3) := by decide +kernel
theorem dX12_verbOf_20 : decode cX12_verbOf 20 = .ok (.iconst 1, 1) := by decide +kernel
theorem dX12_verbOf_21 : decode cX12_verbOf 21 = .ok (.goto 16, 3) := by decide +kernel
theorem dX12_verbOf_24 : decode cX12_verbOf 24 = .ok (.lload_n 0, 1) := by decide +kernel
theorem dX12_verbOf_25 : decode cX12_verbOf 25 = .ok (.ldc2_w 118, 3) := by decide +kernel
theorem dX12_verbOf_28 : decode cX12_verbOf 28 = .ok (.lcmp, 1) := by decide +kernel
theorem dX12_verbOf_29 : decode cX12_verbOf 29 = .ok (.ifCond .ne 7, 3) := by decide +kernel
theorem dX12_verbOf_32 : decode cX12_verbOf 32 = .ok (.iconst 2, 1) := by decide +kernel
theorem dX12_verbOf_33 : decode cX12_verbOf 33 = .ok (.goto 4, 3) := by decide +kernel
theorem dX12_verbOf_36 : decode cX12_verbOf 36 = .ok (.iconst (-1), 1) := by decide +kernel
theorem dX12_verbOf_37 : decode cX12_verbOf 37 = .ok (.istore_n 2, 1) := by decide +kernel
theorem dX12_verbOf_38 : decode cX12_verbOf 38 = .ok (.lload_n 0, 1) := by decide +kernel
theorem dX12_verbOf_39 : decode cX12_verbOf 39 = .ok (.ldc2_w 120, 3) := by decide +kernel
theorem dX12_verbOf_42 : decode cX12_verbOf 42 = .ok (.lcmp, 1) := by decide +kernel
theorem dX12_verbOf_43 : decode cX12_verbOf 43 = .ok (.ifCond .ne 7, 3) := by decide +kernel
theorem dX12_verbOf_46 : decode cX12_verbOf 46 = .ok (.iconst 3, 1) := by decide +kernel
theorem dX12_verbOf_47 : decode cX12_verbOf 47 = .ok (.goto 28, 3) := by decide +kernel
theorem dX12_verbOf_50 : decode cX12_verbOf 50 = .ok (.lload_n 0, 1) := by decide +kernel
theorem dX12_verbOf_51 : decode cX12_verbOf 51 = .ok (.ldc2_w 122, 3) := by decide +kernel
theorem dX12_verbOf_54 : decode cX12_verbOf 54 = .ok (.lcmp, 1) := by decide +kernel
theorem dX12_verbOf_55 : decode cX12_verbOf 55 = .ok (.ifCond .ne 7, 3) := by decide +kernel
theorem dX12_verbOf_58 : decode cX12_verbOf 58 = .ok (.iconst 4, 1) := by decide +kernel
theorem dX12_verbOf_59 : decode cX12_verbOf 59 = .ok (.goto 16, 3) := by decide +kernel
theorem dX12_verbOf_62 : decode cX12_verbOf 62 = .ok (.lload_n 0, 1) := by decide +kernel
theorem dX12_verbOf_63 : decode cX12_verbOf 63 = .ok (.ldc2_w 124, 3) := by decide +kernel
theorem dX12_verbOf_66 : decode cX12_verbOf 66 = .ok (.lcmp, 1) := by decide +kernel
theorem dX12_verbOf_67 : decode cX12_verbOf 67 = .ok (.ifCond .ne 7, 3) := by decide +kernel
theorem dX12_verbOf_70 : decode cX12_verbOf 70 = .ok (.iconst 5, 1) := by decide +kernel
theorem dX12_verbOf_71 : decode cX12_verbOf 71 = .ok (.goto 4, 3) := by decide +kernel
theorem dX12_verbOf_74 : decode cX12_verbOf 74 = .ok (.iconst (-1), 1) := by decide +kernel
theorem dX12_verbOf_75 : decode cX12_verbOf 75 = .ok (.istore_n 3, 1) := by decide +kernel
theorem dX12_verbOf_76 : decode cX12_verbOf 76 = .ok (.iload_n 2, 1) := by decide +kernel
theorem dX12_verbOf_77 : decode cX12_verbOf 77 = .ok (.iconst (-1), 1) := by decide +kernel
theorem dX12_verbOf_78 : decode cX12_verbOf 78 = .ok (.if_icmp .eq 7, 3) := by decide +kernel
theorem dX12_verbOf_81 : decode cX12_verbOf 81 = .ok (.iload_n 2, 1) := by decide +kernel
theorem dX12_verbOf_82 : decode cX12_verbOf 82 = .ok (.goto 4, 3) := by decide +kernel
theorem dX12_verbOf_85 : decode cX12_verbOf 85 = .ok (.iload_n 3, 1) := by decide +kernel
theorem dX12_verbOf_86 : decode cX12_verbOf 86 = .ok (.ireturn, 1) := by decide +kernel
theorem dX12_scans_0 : decode cX12_scans 0 = .ok (.aload_n 0, 1) := by decide +kernel
theorem dX12_scans_1 : decode cX12_scans 1 = .ok (.bipush 32, 2) := by decide +kernel
theorem dX12_scans_3 : decode cX12_scans 3 = .ok (.bipush 32, 2) := by decide +kernel
theorem dX12_scans_5 : decode cX12_scans 5 = .ok (.invokevirtual 126, 3) := by decide +kernel
theorem dX12_scans_8 : decode cX12_scans 8 = .ok (.ifCond .eq 16, 3) := by decide +kernel
theorem dX12_scans_11 : decode cX12_scans 11 = .ok (.aload_n 0, 1) := by decide +kernel
theorem dX12_scans_12 : decode cX12_scans 12 = .ok (.dup, 1) := by decide +kernel
theorem dX12_scans_13 : decode cX12_scans 13 = .ok (.getfield 111, 3) := by decide +kernel
theorem dX12_scans_16 : decode cX12_scans 16 = .ok (.iconst 1, 1) := by decide +kernel
theorem dX12_scans_17 : decode cX12_scans 17 = .ok (.iadd, 1) := by decide +kernel
theorem dX12_scans_18 : decode cX12_scans 18 = .ok (.putfield 111, 3) := by decide +kernel
theorem dX12_scans_21 : decode cX12_scans 21 = .ok (.goto (-21), 3) := by decide +kernel
theorem dX12_scans_24 : decode cX12_scans 24 = .ok (.aload_n 0, 1) := by decide +kernel
theorem dX12_scans_25 : decode cX12_scans 25 = .ok (.aload_n 0, 1) := by decide +kernel
theorem dX12_scans_26 : decode cX12_scans 26 = .ok (.getfield 111, 3) := by decide +kernel
theorem dX12_scans_29 : decode cX12_scans 29 = .ok (.putfield 130, 3) := by decide +kernel
theorem dX12_scans_32 : decode cX12_scans 32 = .ok (.aload_n 0, 1) := by decide +kernel
theorem dX12_scans_33 : decode cX12_scans 33 = .ok (.getfield 111, 3) := by decide +kernel
theorem dX12_scans_36 : decode cX12_scans 36 = .ok (.aload_n 0, 1) := by decide +kernel
theorem dX12_scans_37 : decode cX12_scans 37 = .ok (.getfield 107, 3) := by decide +kernel
theorem dX12_scans_40 : decode cX12_scans 40 = .ok (.if_icmp .ne 9, 3) := by decide +kernel
theorem dX12_scans_43 : decode cX12_scans 43 = .ok (.aload_n 0, 1) := by decide +kernel
theorem dX12_scans_44 : decode cX12_scans 44 = .ok (.iconst 0, 1) := by decide +kernel
theorem dX12_scans_45 : decode cX12_scans 45 = .ok (.putfield 133, 3) := by decide +kernel
theorem dX12_scans_48 : decode cX12_scans 48 = .ok (.return_, 1) := by decide +kernel
theorem dX12_scans_49 : decode cX12_scans 49 = .ok (.aload_n 0, 1) := by decide +kernel
theorem dX12_scans_50 : decode cX12_scans 50 = .ok (.bipush 97, 2) := by decide +kernel
theorem dX12_scans_52 : decode cX12_scans 52 = .ok (.bipush 122, 2) := by decide +kernel
theorem dX12_scans_54 : decode cX12_scans 54 = .ok (.invokevirtual 126, 3) := by decide +kernel
theorem dX12_scans_57 : decode cX12_scans 57 = .ok (.ifCond .eq 106, 3) := by decide +kernel
theorem dX12_scans_60 : decode cX12_scans 60 = .ok (.lconst 0, 1) := by decide +kernel
theorem dX12_scans_61 : decode cX12_scans 61 = .ok (.lstore_n 1, 1) := by decide +kernel
theorem dX12_scans_62 : decode cX12_scans 62 = .ok (.aload_n 0, 1) := by decide +kernel
theorem dX12_scans_63 : decode cX12_scans 63 = .ok (.bipush 97, 2) := by decide +kernel
theorem dX12_scans_65 : decode cX12_scans 65 = .ok (.bipush 122, 2) := by decide +kernel
theorem dX12_scans_67 : decode cX12_scans 67 = .ok (.invokevirtual 126, 3) := by decide +kernel
theorem dX12_scans_70 : decode cX12_scans 70 = .ok (.ifCond .eq 56, 3) := by decide +kernel
theorem dX12_scans_73 : decode cX12_scans 73 = .ok (.aload_n 0, 1) := by decide +kernel
theorem dX12_scans_74 : decode cX12_scans 74 = .ok (.getfield 111, 3) := by decide +kernel
theorem dX12_scans_77 : decode cX12_scans 77 = .ok (.aload_n 0, 1) := by decide +kernel
theorem dX12_scans_78 : decode cX12_scans 78 = .ok (.getfield 130, 3) := by decide +kernel
theorem dX12_scans_81 : decode cX12_scans 81 = .ok (.isub, 1) := by decide +kernel
theorem dX12_scans_82 : decode cX12_scans 82 = .ok (.iconst 5, 1) := by decide +kernel
theorem dX12_scans_83 : decode cX12_scans 83 = .ok (.if_icmp .le 7, 3) := by decide +kernel
theorem dX12_scans_86 : decode cX12_scans 86 = .ok (.lconst 0, 1) := by decide +kernel
theorem dX12_scans_87 : decode cX12_scans 87 = .ok (.goto 25, 3) := by decide +kernel
theorem dX12_scans_90 : decode cX12_scans 90 = .ok (.ldc2_w 136, 3) := by decide +kernel
theorem dX12_scans_93 : decode cX12_scans 93 = .ok (.lload_n 1, 1) := by decide +kernel
theorem dX12_scans_94 : decode cX12_scans 94 = .ok (.lmul, 1) := by decide +kernel
theorem dX12_scans_95 : decode cX12_scans 95 = .ok (.aload_n 0, 1) := by decide +kernel
theorem dX12_scans_96 : decode cX12_scans 96 = .ok (.getfield 29, 3) := by decide +kernel
theorem dX12_scans_99 : decode cX12_scans 99 = .ok (.aload_n 0, 1) := by decide +kernel
theorem dX12_scans_100 : decode cX12_scans 100 = .ok (.getfield 111, 3) := by decide +kernel
theorem dX12_scans_103 : decode cX12_scans 103 = .ok (.iaload, 1) := by decide +kernel
theorem dX12_scans_104 : decode cX12_scans 104 = .ok (.i2l, 1) := by decide +kernel
theorem dX12_scans_105 : decode cX12_scans 105 = .ok (.ladd, 1) := by decide +kernel
theorem dX12_scans_106 : decode cX12_scans 106 = .ok (.ldc2_w 138, 3) := by decide +kernel
theorem dX12_scans_109 : decode cX12_scans 109 = .ok (.lsub, 1) := by decide +kernel
theorem dX12_scans_110 : decode cX12_scans 110 = .ok (.lconst 1, 1) := by decide +kernel
theorem dX12_scans_111 : decode cX12_scans 111 = .ok (.ladd, 1) := by decide +kernel
theorem dX12_scans_112 : decode cX12_scans 112 = .ok (.lstore_n 1, 1) := by decide +kernel
theorem dX12_scans_113 : decode cX12_scans 113 = .ok (.aload_n 0, 1) := by decide +kernel
theorem dX12_scans_114 : decode cX12_scans 114 = .ok (.dup, 1) := by decide +kernel
theorem dX12_scans_115 : decode cX12_scans 115 = .ok (.getfield 111, 3) := by decide +kernel
theorem dX12_scans_118 : decode cX12_scans 118 = .ok (.iconst 1, 1) := by decide +kernel
theorem dX12_scans_119 : decode cX12_scans 119 = .ok (.iadd, 1) := by decide +kernel
theorem dX12_scans_120 : decode cX12_scans 120 = .ok (.putfield 111, 3) := by decide +kernel
theorem dX12_scans_123 : decode cX12_scans 123 = .ok (.goto (-61), 3) := by decide +kernel
theorem dX12_scans_126 : decode cX12_scans 126 = .ok (.aload_n 0, 1) := by decide +kernel
theorem dX12_scans_127 : decode cX12_scans 127 = .ok (.aload_n 0, 1) := by decide +kernel
theorem dX12_scans_128 : decode cX12_scans 128 = .ok (.getfield 111, 3) := by decide +kernel
theorem dX12_scans_131 : decode cX12_scans 131 = .ok (.aload_n 0, 1) := by decide +kernel
theorem dX12_scans_132 : decode cX12_scans 132 = .ok (.getfield 130, 3) := by decide +kernel
theorem dX12_scans_135 : decode cX12_scans 135 = .ok (.isub, 1) := by decide +kernel
theorem dX12_scans_136 : decode cX12_scans 136 = .ok (.bipush 6, 2) := by decide +kernel
theorem dX12_scans_138 : decode cX12_scans 138 = .ok (.if_icmp .gt 11, 3) := by decide +kernel
theorem dX12_scans_141 : decode cX12_scans 141 = .ok (.lload_n 1, 1) := by decide +kernel
theorem dX12_scans_142 : decode cX12_scans 142 = .ok (.invokestatic 140, 3) := by decide +kernel
theorem dX12_scans_145 : decode cX12_scans 145 = .ok (.iconst (-1), 1) := by decide +kernel
theorem dX12_scans_146 : decode cX12_scans 146 = .ok (.if_icmp .ne 7, 3) := by decide +kernel
theorem dX12_scans_149 : decode cX12_scans 149 = .ok (.iconst 1, 1) := by decide +kernel
theorem dX12_scans_150 : decode cX12_scans 150 = .ok (.goto 9, 3) := by decide +kernel
theorem dX12_scans_153 : decode cX12_scans 153 = .ok (.iconst 4, 1) := by decide +kernel
theorem dX12_scans_154 : decode cX12_scans 154 = .ok (.lload_n 1, 1) := by decide +kernel
theorem dX12_scans_155 : decode cX12_scans 155 = .ok (.invokestatic 140, 3) := by decide +kernel
theorem dX12_scans_158 : decode cX12_scans 158 = .ok (.iadd, 1) := by decide +kernel
theorem dX12_scans_159 : decode cX12_scans 159 = .ok (.putfield 133, 3) := by decide +kernel
theorem dX12_scans_162 : decode cX12_scans 162 = .ok (.return_, 1) := by decide +kernel
theorem dX12_scans_163 : decode cX12_scans 163 = .ok (.aload_n 0, 1) := by decide +kernel
theorem dX12_scans_164 : decode cX12_scans 164 = .ok (.bipush 48, 2) := by decide +kernel
theorem dX12_scans_166 : decode cX12_scans 166 = .ok (.bipush 57, 2) := by decide +kernel
theorem dX12_scans_168 : decode cX12_scans 168 = .ok (.invokevirtual 126, 3) := by decide +kernel
theorem dX12_scans_171 : decode cX12_scans 171 = .ok (.ifCond .eq 99, 3) := by decide +kernel
theorem dX12_scans_174 : decode cX12_scans 174 = .ok (.aload_n 0, 1) := by decide +kernel
theorem dX12_scans_175 : decode cX12_scans 175 = .ok (.iconst 0, 1) := by decide +kernel
theorem dX12_scans_176 : decode cX12_scans 176 = .ok (.putfield 144, 3) := by decide +kernel
theorem dX12_scans_179 : decode cX12_scans 179 = .ok (.aload_n 0, 1) := by decide +kernel
theorem dX12_scans_180 : decode cX12_scans 180 = .ok (.bipush 48, 2) := by decide +kernel
theorem dX12_scans_182 : decode cX12_scans 182 = .ok (.bipush 57, 2) := by decide +kernel
theorem dX12_scans_184 : decode cX12_scans 184 = .ok (.invokevirtual 126, 3) := by decide +kernel
theorem dX12_scans_187 : decode cX12_scans 187 = .ok (.ifCond .eq 60, 3) := by decide +kernel
theorem dX12_scans_190 : decode cX12_scans 190 = .ok (.aload_n 0, 1) := by decide +kernel
theorem dX12_scans_191 : decode cX12_scans 191 = .ok (.aload_n 0, 1) := by decide +kernel
theorem dX12_scans_192 : decode cX12_scans 192 = .ok (.getfield 111, 3) := by decide +kernel
theorem dX12_scans_195 : decode cX12_scans 195 = .ok (.aload_n 0, 1) := by decide +kernel
theorem dX12_scans_196 : decode cX12_scans 196 = .ok (.getfield 130, 3) := by decide +kernel
theorem dX12_scans_199 : decode cX12_scans 199 = .ok (.isub, 1) := by decide +kernel
theorem dX12_scans_200 : decode cX12_scans 200 = .ok (.iconst 2, 1) := by decide +kernel
theorem dX12_scans_201 : decode cX12_scans 201 = .ok (.if_icmp .ge 26, 3) := by decide +kernel
theorem dX12_scans_204 : decode cX12_scans 204 = .ok (.bipush 10, 2) := by decide +kernel
theorem dX12_scans_206 : decode cX12_scans 206 = .ok (.aload_n 0, 1) := by decide +kernel
theorem dX12_scans_207 : decode cX12_scans 207 = .ok (.getfield 144, 3) := by decide +kernel
theorem dX12_scans_210 : decode cX12_scans 210 = .ok (.imul, 1) := by decide +kernel
theorem dX12_scans_211 : decode cX12_scans 211 = .ok (.aload_n 0, 1) := by decide +kernel
theorem dX12_scans_212 : decode cX12_scans 212 = .ok (.getfield 29, 3) := by decide +kernel
theorem dX12_scans_215 : decode cX12_scans 215 = .ok (.aload_n 0, 1) := by decide +kernel
theorem dX12_scans_216 : decode cX12_scans 216 = .ok (.getfield 111, 3) := by decide +kernel
theorem dX12_scans_219 : decode cX12_scans 219 = .ok (.iaload, 1) := by decide +kernel
theorem dX12_scans_220 : decode cX12_scans 220 = .ok (.iadd, 1) := by decide +kernel
theorem dX12_scans_221 : decode cX12_scans 221 = .ok (.bipush 48, 2) := by decide +kernel
theorem dX12_scans_223 : decode cX12_scans 223 = .ok (.isub, 1) := by decide +kernel
theorem dX12_scans_224 : decode cX12_scans 224 = .ok (.goto 7, 3) := by decide +kernel
theorem dX12_scans_227 : decode cX12_scans 227 = .ok (.aload_n 0, 1) := by decide +kernel
theorem dX12_scans_228 : decode cX12_scans 228 = .ok (.getfield 144, 3) := by decide +kernel
theorem dX12_scans_231 : decode cX12_scans 231 = .ok (.putfield 144, 3) := by decide +kernel
theorem dX12_scans_234 : decode cX12_scans 234 = .ok (.aload_n 0, 1) := by decide +kernel
theorem dX12_scans_235 : decode cX12_scans 235 = .ok (.dup, 1) := by decide +kernel
theorem dX12_scans_236 : decode cX12_scans 236 = .ok (.getfield 111, 3) := by decide +kernel
theorem dX12_scans_239 : decode cX12_scans 239 = .ok (.iconst 1, 1) := by decide +kernel
theorem dX12_scans_240 : decode cX12_scans 240 = .ok (.iadd, 1) := by decide +kernel
theorem dX12_scans_241 : decode cX12_scans 241 = .ok (.putfield 111, 3) := by decide +kernel
theorem dX12_scans_244 : decode cX12_scans 244 = .ok (.goto (-65), 3) := by decide +kernel
theorem dX12_scans_247 : decode cX12_scans 247 = .ok (.aload_n 0, 1) := by decide +kernel
theorem dX12_scans_248 : decode cX12_scans 248 = .ok (.aload_n 0, 1) := by decide +kernel
theorem dX12_scans_249 : decode cX12_scans 249 = .ok (.getfield 111, 3) := by decide +kernel
theorem dX12_scans_252 : decode cX12_scans 252 = .ok (.aload_n 0, 1) := by decide +kernel
theorem dX12_scans_253 : decode cX12_scans 253 = .ok (.getfield 130, 3) := by decide +kernel
theorem dX12_scans_256 : decode cX12_scans 256 = .ok (.isub, 1) := by decide +kernel
theorem dX12_scans_257 : decode cX12_scans 257 = .ok (.iconst 2, 1) := by decide +kernel
theorem dX12_scans_258 : decode cX12_scans 258 = .ok (.if_icmp .le 7, 3) := by decide +kernel
theorem dX12_scans_261 : decode cX12_scans 261 = .ok (.iconst 1, 1) := by decide +kernel
theorem dX12_scans_262 : decode cX12_scans 262 = .ok (.goto 4, 3) := by decide +kernel
theorem dX12_scans_265 : decode cX12_scans 265 = .ok (.iconst 2, 1) := by decide +kernel
theorem dX12_scans_266 : decode cX12_scans 266 = .ok (.putfield 133, 3) := by decide +kernel
theorem dX12_scans_269 : decode cX12_scans 269 = .ok (.return_, 1) := by decide +kernel
theorem dX12_scans_270 : decode cX12_scans 270 = .ok (.aload_n 0, 1) := by decide +kernel
theorem dX12_scans_271 : decode cX12_scans 271 = .ok (.aload_n 0, 1) := by decide +kernel
theorem dX12_scans_272 : decode cX12_scans 272 = .ok (.bipush 59, 2) := by decide +kernel
theorem dX12_scans_274 : decode cX12_scans 274 = .ok (.bipush 59, 2) := by decide +kernel
theorem dX12_scans_276 : decode cX12_scans 276 = .ok (.invokevirtual 126, 3) := by decide +kernel
theorem dX12_scans_279 : decode cX12_scans 279 = .ok (.ifCond .eq 7, 3) := by decide +kernel
theorem dX12_scans_282 : decode cX12_scans 282 = .ok (.iconst 3, 1) := by decide +kernel
theorem dX12_scans_283 : decode cX12_scans 283 = .ok (.goto 4, 3) := by decide +kernel
theorem dX12_scans_286 : decode cX12_scans 286 = .ok (.iconst 1, 1) := by decide +kernel
theorem dX12_scans_287 : decode cX12_scans 287 = .ok (.putfield 133, 3) := by decide +kernel
theorem dX12_scans_290 : decode cX12_scans 290 = .ok (.aload_n 0, 1) := by decide +kernel
theorem dX12_scans_291 : decode cX12_scans 291 = .ok (.dup, 1) := by decide +kernel
theorem dX12_scans_292 : decode cX12_scans 292 = .ok (.getfield 111, 3) := by decide +kernel
theorem dX12_scans_295 : decode cX12_scans 295 = .ok (.iconst 1, 1) := by decide +kernel
theorem dX12_scans_296 : decode cX12_scans 296 = .ok (.iadd, 1) := by decide +kernel
theorem dX12_scans_297 : decode cX12_scans 297 = .ok (.putfield 111, 3) := by decide +kernel
theorem dX12_scans_300 : decode cX12_scans 300 = .ok (.return_, 1) := by decide +kernel
theorem dX12_numbers_0 : decode cX12_numbers 0 = .ok (.iload_n 0, 1) := by decide +kernel
theorem dX12_numbers_1 : decode cX12_numbers 1 = .ok (.iconst 1, 1) := by decide +kernel
theorem dX12_numbers_2 : decode cX12_numbers 2 = .ok (.if_icmp .ne 7, 3) := by decide +kernel
theorem dX12_numbers_5 : decode cX12_numbers 5 = .ok (.iconst 4, 1) := by decide +kernel
theorem dX12_numbers_6 : decode cX12_numbers 6 = .ok (.goto 28, 3) := by decide +kernel
theorem dX12_numbers_9 : decode cX12_numbers 9 = .ok (.iload_n 0, 1) := by decide +kernel
theorem dX12_numbers_10 : decode cX12_numbers 10 = .ok (.iconst 5, 1) := by decide +kernel
theorem dX12_numbers_11 : decode cX12_numbers 11 = .ok (.if_icmp .ne 8, 3) := by decide +kernel
theorem dX12_numbers_14 : decode cX12_numbers 14 = .ok (.bipush 6, 2) := by decide +kernel
theorem dX12_numbers_16 : decode cX12_numbers 16 = .ok (.goto 18, 3) := by decide +kernel
theorem dX12_numbers_19 : decode cX12_numbers 19 = .ok (.iload_n 0, 1) := by decide +kernel
theorem dX12_numbers_20 : decode cX12_numbers 20 = .ok (.iconst 2, 1) := by decide +kernel
theorem dX12_numbers_21 : decode cX12_numbers 21 = .ok (.if_icmp .eq 8, 3) := by decide +kernel
theorem dX12_numbers_24 : decode cX12_numbers 24 = .ok (.iload_n 0, 1) := by decide +kernel
theorem dX12_numbers_25 : decode cX12_numbers 25 = .ok (.iconst 3, 1) := by decide +kernel
theorem dX12_numbers_26 : decode cX12_numbers 26 = .ok (.if_icmp .ne 7, 3) := by decide +kernel
theorem dX12_numbers_29 : decode cX12_numbers 29 = .ok (.iconst 2, 1) := by decide +kernel
theorem dX12_numbers_30 : decode cX12_numbers 30 = .ok (.goto 4, 3) := by decide +kernel
theorem dX12_numbers_33 : decode cX12_numbers 33 = .ok (.iconst 1, 1) := by decide +kernel
theorem dX12_numbers_34 : decode cX12_numbers 34 = .ok (.ireturn, 1) := by decide +kernel
theorem dX12_reads_0 : decode cX12_reads 0 = .ok (.aload_n 0, 1) := by decide +kernel
theorem dX12_reads_1 : decode cX12_reads 1 = .ok (.iconst 0, 1) := by decide +kernel
theorem dX12_reads_2 : decode cX12_reads 2 = .ok (.putfield 111, 3) := by decide +kernel
theorem dX12_reads_5 : decode cX12_reads 5 = .ok (.aload_n 0, 1) := by decide +kernel
theorem dX12_reads_6 : decode cX12_reads 6 = .ok (.iconst 0, 1) := by decide +kernel
theorem dX12_reads_7 : decode cX12_reads 7 = .ok (.putfield 147, 3) := by decide +kernel
theorem dX12_reads_10 : decode cX12_reads 10 = .ok (.aload_n 0, 1) := by decide +kernel
theorem dX12_reads_11 : decode cX12_reads 11 = .ok (.invokevirtual 150, 3) := by decide +kernel
theorem dX12_reads_14 : decode cX12_reads 14 = .ok (.aload_n 0, 1) := by decide +kernel
theorem dX12_reads_15 : decode cX12_reads 15 = .ok (.getfield 133, 3) := by decide +kernel
theorem dX12_reads_18 : decode cX12_reads 18 = .ok (.ifCond .ne 10, 3) := by decide +kernel
theorem dX12_reads_21 : decode cX12_reads 21 = .ok (.aload_n 0, 1) := by decide +kernel
theorem dX12_reads_22 : decode cX12_reads 22 = .ok (.getfield 147, 3) := by decide +kernel
theorem dX12_reads_25 : decode cX12_reads 25 = .ok (.ifCond .ne 134, 3) := by decide +kernel
theorem dX12_reads_28 : decode cX12_reads 28 = .ok (.aload_n 0, 1) := by decide +kernel
theorem dX12_reads_29 : decode cX12_reads 29 = .ok (.getfield 133, 3) := by decide +kernel
theorem dX12_reads_32 : decode cX12_reads 32 = .ok (.iconst 4, 1) := by decide +kernel
theorem dX12_reads_33 : decode cX12_reads 33 = .ok (.isub, 1) := by decide +kernel
theorem dX12_reads_34 : decode cX12_reads 34 = .ok (.istore_n 1, 1) := by decide +kernel
theorem dX12_reads_35 : decode cX12_reads 35 = .ok (.iload_n 1, 1) := by decide +kernel
theorem dX12_reads_36 : decode cX12_reads 36 = .ok (.ifCond .lt 27, 3) := by decide +kernel
theorem dX12_reads_39 : decode cX12_reads 39 = .ok (.iload_n 1, 1) := by decide +kernel
theorem dX12_reads_40 : decode cX12_reads 40 = .ok (.ifCond .ne 7, 3) := by decide +kernel
theorem dX12_reads_43 : decode cX12_reads 43 = .ok (.iconst 1, 1) := by decide +kernel
theorem dX12_reads_44 : decode cX12_reads 44 = .ok (.goto 4, 3) := by decide +kernel
theorem dX12_reads_47 : decode cX12_reads 47 = .ok (.iconst 0, 1) := by decide +kernel
theorem dX12_reads_48 : decode cX12_reads 48 = .ok (.aload_n 0, 1) := by decide +kernel
theorem dX12_reads_49 : decode cX12_reads 49 = .ok (.getfield 147, 3) := by decide +kernel
theorem dX12_reads_52 : decode cX12_reads 52 = .ok (.ifCond .ne 7, 3) := by decide +kernel
theorem dX12_reads_55 : decode cX12_reads 55 = .ok (.iconst 1, 1) := by decide +kernel
theorem dX12_reads_56 : decode cX12_reads 56 = .ok (.goto 4, 3) := by decide +kernel
theorem dX12_reads_59 : decode cX12_reads 59 = .ok (.iconst 0, 1) := by decide +kernel
theorem dX12_reads_60 : decode cX12_reads 60 = .ok (.if_icmp .eq 5, 3) := by decide +kernel
theorem dX12_reads_63 : decode cX12_reads 63 = .ok (.iconst 0, 1) := by decide +kernel
theorem dX12_reads_64 : decode cX12_reads 64 = .ok (.ireturn, 1) := by decide +kernel
theorem dX12_reads_65 : decode cX12_reads 65 = .ok (.aload_n 0, 1) := by decide +kernel
theorem dX12_reads_66 : decode cX12_reads 66 = .ok (.getfield 32, 3) := by decide +kernel
theorem dX12_reads_69 : decode cX12_reads 69 = .ok (.bipush 7, 2) := by decide +kernel
theorem dX12_reads_71 : decode cX12_reads 71 = .ok (.aload_n 0, 1) := by decide +kernel
theorem dX12_reads_72 : decode cX12_reads 72 = .ok (.getfield 147, 3) := by decide +kernel
theorem dX12_reads_75 : decode cX12_reads 75 = .ok (.imul, 1) := by decide +kernel
theorem dX12_reads_76 : decode cX12_reads 76 = .ok (.iload_n 1, 1) := by decide +kernel
theorem dX12_reads_77 : decode cX12_reads 77 = .ok (.iastore, 1) := by decide +kernel
theorem dX12_reads_78 : decode cX12_reads 78 = .ok (.aload_n 0, 1) := by decide +kernel
theorem dX12_reads_79 : decode cX12_reads 79 = .ok (.invokevirtual 150, 3) := by decide +kernel
theorem dX12_reads_82 : decode cX12_reads 82 = .ok (.iconst 0, 1) := by decide +kernel
theorem dX12_reads_83 : decode cX12_reads 83 = .ok (.istore_n 2, 1) := by decide +kernel
theorem dX12_reads_84 : decode cX12_reads 84 = .ok (.iload_n 2, 1) := by decide +kernel
theorem dX12_reads_85 : decode cX12_reads 85 = .ok (.iload_n 1, 1) := by decide +kernel
theorem dX12_reads_86 : decode cX12_reads 86 = .ok (.invokestatic 153, 3) := by decide +kernel
theorem dX12_reads_89 : decode cX12_reads 89 = .ok (.if_icmp .ge 43, 3) := by decide +kernel
theorem dX12_reads_92 : decode cX12_reads 92 = .ok (.aload_n 0, 1) := by decide +kernel
theorem dX12_reads_93 : decode cX12_reads 93 = .ok (.getfield 133, 3) := by decide +kernel
theorem dX12_reads_96 : decode cX12_reads 96 = .ok (.iconst 2, 1) := by decide +kernel
theorem dX12_reads_97 : decode cX12_reads 97 = .ok (.if_icmp .eq 5, 3) := by decide +kernel
theorem dX12_reads_100 : decode cX12_reads 100 = .ok (.iconst 0, 1) := by decide +kernel
theorem dX12_reads_101 : decode cX12_reads 101 = .ok (.ireturn, 1) := by decide +kernel
theorem dX12_reads_102 : decode cX12_reads 102 = .ok (.aload_n 0, 1) := by decide +kernel
theorem dX12_reads_103 : decode cX12_reads 103 = .ok (.getfield 32, 3) := by decide +kernel
theorem dX12_reads_106 : decode cX12_reads 106 = .ok (.bipush 7, 2) := by decide +kernel
theorem dX12_reads_108 : decode cX12_reads 108 = .ok (.aload_n 0, 1) := by decide +kernel
theorem dX12_reads_109 : decode cX12_reads 109 = .ok (.getfield 147, 3) := by decide +kernel
theorem dX12_reads_112 : decode cX12_reads 112 = .ok (.imul, 1) := by decide +kernel
theorem dX12_reads_113 : decode cX12_reads 113 = .ok (.iconst 1, 1) := by decide +kernel
theorem dX12_reads_114 : decode cX12_reads 114 = .ok (.iadd, 1) := by decide +kernel
theorem dX12_reads_115 : decode cX12_reads 115 = .ok (.iload_n 2, 1) := by decide +kernel
theorem dX12_reads_116 : decode cX12_reads 116 = .ok (.iadd, 1) := by decide +kernel
theorem dX12_reads_117 : decode cX12_reads 117 = .ok (.aload_n 0, 1) := by decide +kernel
theorem dX12_reads_118 : decode cX12_reads 118 = .ok (.getfield 144, 3) := by decide +kernel
theorem dX12_reads_121 : decode cX12_reads 121 = .ok (.iastore, 1) := by decide +kernel
theorem dX12_reads_122 : decode cX12_reads 122 = .ok (.aload_n 0, 1) := by decide +kernel
theorem dX12_reads_123 : decode cX12_reads 123 = .ok (.invokevirtual 150, 3) := by decide +kernel
theorem dX12_reads_126 : decode cX12_reads 126 = .ok (.iinc 2 1, 3) := by decide +kernel
theorem dX12_reads_129 : decode cX12_reads 129 = .ok (.goto (-45), 3) := by decide +kernel
theorem dX12_reads_132 : decode cX12_reads 132 = .ok (.aload_n 0, 1) := by decide +kernel
theorem dX12_reads_133 : decode cX12_reads 133 = .ok (.getfield 133, 3) := by decide +kernel
theorem dX12_reads_136 : decode cX12_reads 136 = .ok (.iconst 3, 1) := by decide +kernel
theorem dX12_reads_137 : decode cX12_reads 137 = .ok (.if_icmp .eq 5, 3) := by decide +kernel
theorem dX12_reads_140 : decode cX12_reads 140 = .ok (.iconst 0, 1) := by decide +kernel
theorem dX12_reads_141 : decode cX12_reads 141 = .ok (.ireturn, 1) := by decide +kernel
theorem dX12_reads_142 : decode cX12_reads 142 = .ok (.aload_n 0, 1) := by decide +kernel
theorem dX12_reads_143 : decode cX12_reads 143 = .ok (.dup, 1) := by decide +kernel
theorem dX12_reads_144 : decode cX12_reads 144 = .ok (.getfield 147, 3) := by decide +kernel
theorem dX12_reads_147 : decode cX12_reads 147 = .ok (.iconst 1, 1) := by decide +kernel
theorem dX12_reads_148 : decode cX12_reads 148 = .ok (.iadd, 1) := by decide +kernel
theorem dX12_reads_149 : decode cX12_reads 149 = .ok (.putfield 147, 3) := by decide +kernel
theorem dX12_reads_152 : decode cX12_reads 152 = .ok (.aload_n 0, 1) := by decide +kernel
theorem dX12_reads_153 : decode cX12_reads 153 = .ok (.invokevirtual 150, 3) := by decide +kernel
theorem dX12_reads_156 : decode cX12_reads 156 = .ok (.goto (-142), 3) := by decide +kernel
theorem dX12_reads_159 : decode cX12_reads 159 = .ok (.iconst 1, 1) := by decide +kernel
theorem dX12_reads_160 : decode cX12_reads 160 = .ok (.ireturn, 1) := by decide +kernel
theorem dX12_tellsItem_0 : decode cX12_tellsItem 0 = .ok (.bipush 7, 2) := by decide +kernel
theorem dX12_tellsItem_2 : decode cX12_tellsItem 2 = .ok (.iload_n 1, 1) := by decide +kernel
theorem dX12_tellsItem_3 : decode cX12_tellsItem 3 = .ok (.imul, 1) := by decide +kernel
theorem dX12_tellsItem_4 : decode cX12_tellsItem 4 = .ok (.istore_n 2, 1) := by decide +kernel
theorem dX12_tellsItem_5 : decode cX12_tellsItem 5 = .ok (.aload_n 0, 1) := by decide +kernel
theorem dX12_tellsItem_6 : decode cX12_tellsItem 6 = .ok (.getfield 32, 3) := by decide +kernel
theorem dX12_tellsItem_9 : decode cX12_tellsItem 9 = .ok (.iload_n 2, 1) := by decide +kernel
theorem dX12_tellsItem_10 : decode cX12_tellsItem 10 = .ok (.iaload, 1) := by decide +kernel
theorem dX12_tellsItem_11 : decode cX12_tellsItem 11 = .ok (.istore_n 3, 1) := by decide +kernel
theorem dX12_tellsItem_12 : decode cX12_tellsItem 12 = .ok (.aload_n 0, 1) := by decide +kernel
theorem dX12_tellsItem_13 : decode cX12_tellsItem 13 = .ok (.getfield 32, 3) := by decide +kernel
theorem dX12_tellsItem_16 : decode cX12_tellsItem 16 = .ok (.iload_n 2, 1) := by decide +kernel
theorem dX12_tellsItem_17 : decode cX12_tellsItem 17 = .ok (.iconst 1, 1) := by decide +kernel
theorem dX12_tellsItem_18 : decode cX12_tellsItem 18 = .ok (.iadd, 1) := by decide +kernel
theorem dX12_tellsItem_19 : decode cX12_tellsItem 19 = .ok (.iaload, 1) := by decide +kernel
theorem dX12_tellsItem_20 : decode cX12_tellsItem 20 = .ok (.istore 4, 2) := by decide +kernel
theorem dX12_tellsItem_22 : decode cX12_tellsItem 22 = .ok (.aload_n 0, 1) := by decide +kernel
theorem dX12_tellsItem_23 : decode cX12_tellsItem 23 = .ok (.getfield 32, 3) := by decide +kernel
theorem dX12_tellsItem_26 : decode cX12_tellsItem 26 = .ok (.iload_n 2, 1) := by decide +kernel
theorem dX12_tellsItem_27 : decode cX12_tellsItem 27 = .ok (.iconst 2, 1) := by decide +kernel
theorem dX12_tellsItem_28 : decode cX12_tellsItem 28 = .ok (.iadd, 1) := by decide +kernel
theorem dX12_tellsItem_29 : decode cX12_tellsItem 29 = .ok (.iaload, 1) := by decide +kernel
theorem dX12_tellsItem_30 : decode cX12_tellsItem 30 = .ok (.istore 5, 2) := by decide +kernel
theorem dX12_tellsItem_32 : decode cX12_tellsItem 32 = .ok (.iload_n 3, 1) := by decide +kernel
theorem dX12_tellsItem_33 : decode cX12_tellsItem 33 = .ok (.iconst 5, 1) := by decide +kernel
theorem dX12_tellsItem_34 : decode cX12_tellsItem 34 = .ok (.if_icmp .ne 53, 3) := by decide +kernel
theorem dX12_tellsItem_37 : decode cX12_tellsItem 37 = .ok (.aload_n 0, 1) := by decide +kernel
theorem dX12_tellsItem_38 : decode cX12_tellsItem 38 = .ok (.iload 4, 2) := by decide +kernel
theorem dX12_tellsItem_40 : decode cX12_tellsItem 40 = .ok (.iload 5, 2) := by decide +kernel
theorem dX12_tellsItem_42 : decode cX12_tellsItem 42 = .ok (.aload_n 0, 1) := by decide +kernel
theorem dX12_tellsItem_43 : decode cX12_tellsItem 43 = .ok (.getfield 32, 3) := by decide +kernel
theorem dX12_tellsItem_46 : decode cX12_tellsItem 46 = .ok (.iload_n 2, 1) := by decide +kernel
theorem dX12_tellsItem_47 : decode cX12_tellsItem 47 = .ok (.iconst 3, 1) := by decide +kernel
theorem dX12_tellsItem_48 : decode cX12_tellsItem 48 = .ok (.iadd, 1) := by decide +kernel
theorem dX12_tellsItem_49 : decode cX12_tellsItem 49 = .ok (.iaload, 1) := by decide +kernel
theorem dX12_tellsItem_50 : decode cX12_tellsItem 50 = .ok (.aload_n 0, 1) := by decide +kernel
theorem dX12_tellsItem_51 : decode cX12_tellsItem 51 = .ok (.getfield 32, 3) := by decide +kernel
theorem dX12_tellsItem_54 : decode cX12_tellsItem 54 = .ok (.iload_n 2, 1) := by decide +kernel
theorem dX12_tellsItem_55 : decode cX12_tellsItem 55 = .ok (.iconst 4, 1) := by decide +kernel
theorem dX12_tellsItem_56 : decode cX12_tellsItem 56 = .ok (.iadd, 1) := by decide +kernel
theorem dX12_tellsItem_57 : decode cX12_tellsItem 57 = .ok (.iaload, 1) := by decide +kernel
theorem dX12_tellsItem_58 : decode cX12_tellsItem 58 = .ok (.aload_n 0, 1) := by decide +kernel
theorem dX12_tellsItem_59 : decode cX12_tellsItem 59 = .ok (.getfield 32, 3) := by decide +kernel
theorem dX12_tellsItem_62 : decode cX12_tellsItem 62 = .ok (.iload_n 2, 1) := by decide +kernel
theorem dX12_tellsItem_63 : decode cX12_tellsItem 63 = .ok (.iconst 5, 1) := by decide +kernel
theorem dX12_tellsItem_64 : decode cX12_tellsItem 64 = .ok (.iadd, 1) := by decide +kernel
theorem dX12_tellsItem_65 : decode cX12_tellsItem 65 = .ok (.iaload, 1) := by decide +kernel
theorem dX12_tellsItem_66 : decode cX12_tellsItem 66 = .ok (.aload_n 0, 1) := by decide +kernel
theorem dX12_tellsItem_67 : decode cX12_tellsItem 67 = .ok (.getfield 32, 3) := by decide +kernel
theorem dX12_tellsItem_70 : decode cX12_tellsItem 70 = .ok (.iload_n 2, 1) := by decide +kernel
theorem dX12_tellsItem_71 : decode cX12_tellsItem 71 = .ok (.bipush 6, 2) := by decide +kernel
theorem dX12_tellsItem_73 : decode cX12_tellsItem 73 = .ok (.iadd, 1) := by decide +kernel
theorem dX12_tellsItem_74 : decode cX12_tellsItem 74 = .ok (.iaload, 1) := by decide +kernel
theorem dX12_tellsItem_75 : decode cX12_tellsItem 75 = .ok (.invokevirtual 157, 3) := by decide +kernel
theorem dX12_tellsItem_78 : decode cX12_tellsItem 78 = .ok (.ifCond .lt 7, 3) := by decide +kernel
theorem dX12_tellsItem_81 : decode cX12_tellsItem 81 = .ok (.iconst 1, 1) := by decide +kernel
theorem dX12_tellsItem_82 : decode cX12_tellsItem 82 = .ok (.goto 4, 3) := by decide +kernel
theorem dX12_tellsItem_85 : decode cX12_tellsItem 85 = .ok (.iconst 0, 1) := by decide +kernel
theorem dX12_tellsItem_86 : decode cX12_tellsItem 86 = .ok (.ireturn, 1) := by decide +kernel
theorem dX12_tellsItem_87 : decode cX12_tellsItem 87 = .ok (.iload_n 3, 1) := by decide +kernel
theorem dX12_tellsItem_88 : decode cX12_tellsItem 88 = .ok (.ifCond .ne 12, 3) := by decide +kernel
theorem dX12_tellsItem_91 : decode cX12_tellsItem 91 = .ok (.aload_n 0, 1) := by decide +kernel
theorem dX12_tellsItem_92 : decode cX12_tellsItem 92 = .ok (.iload 4, 2) := by decide +kernel
theorem dX12_tellsItem_94 : decode cX12_tellsItem 94 = .ok (.invokevirtual 161, 3) := by decide +kernel
theorem dX12_tellsItem_97 : decode cX12_tellsItem 97 = .ok (.goto 36, 3) := by decide +kernel
theorem dX12_tellsItem_100 : decode cX12_tellsItem 100 = .ok (.iload_n 3, 1) := by decide +kernel
theorem dX12_tellsItem_101 : decode cX12_tellsItem 101 = .ok (.iconst 1, 1) := by decide +kernel
theorem dX12_tellsItem_102 : decode cX12_tellsItem 102 = .ok (.if_icmp .ne 30, 3) := by decide +kernel
theorem dX12_tellsItem_105 : decode cX12_tellsItem 105 = .ok (.aload_n 0, 1) := by decide +kernel
theorem dX12_tellsItem_106 : decode cX12_tellsItem 106 = .ok (.iload 4, 2) := by decide +kernel
theorem dX12_tellsItem_108 : decode cX12_tellsItem 108 = .ok (.iload 5, 2) := by decide +kernel
theorem dX12_tellsItem_110 : decode cX12_tellsItem 110 = .ok (.aload_n 0, 1) := by decide +kernel
theorem dX12_tellsItem_111 : decode cX12_tellsItem 111 = .ok (.getfield 32, 3) := by decide +kernel
theorem dX12_tellsItem_114 : decode cX12_tellsItem 114 = .ok (.iload_n 2, 1) := by decide +kernel
theorem dX12_tellsItem_115 : decode cX12_tellsItem 115 = .ok (.iconst 3, 1) := by decide +kernel
theorem dX12_tellsItem_116 : decode cX12_tellsItem 116 = .ok (.iadd, 1) := by decide +kernel
theorem dX12_tellsItem_117 : decode cX12_tellsItem 117 = .ok (.iaload, 1) := by decide +kernel
theorem dX12_tellsItem_118 : decode cX12_tellsItem 118 = .ok (.aload_n 0, 1) := by decide +kernel
theorem dX12_tellsItem_119 : decode cX12_tellsItem 119 = .ok (.getfield 32, 3) := by decide +kernel
theorem dX12_tellsItem_122 : decode cX12_tellsItem 122 = .ok (.iload_n 2, 1) := by decide +kernel
theorem dX12_tellsItem_123 : decode cX12_tellsItem 123 = .ok (.iconst 4, 1) := by decide +kernel
theorem dX12_tellsItem_124 : decode cX12_tellsItem 124 = .ok (.iadd, 1) := by decide +kernel
theorem dX12_tellsItem_125 : decode cX12_tellsItem 125 = .ok (.iaload, 1) := by decide +kernel
theorem dX12_tellsItem_126 : decode cX12_tellsItem 126 = .ok (.invokevirtual 164, 3) := by decide +kernel
theorem dX12_tellsItem_129 : decode cX12_tellsItem 129 = .ok (.goto 4, 3) := by decide +kernel
theorem dX12_tellsItem_132 : decode cX12_tellsItem 132 = .ok (.iconst 0, 1) := by decide +kernel
theorem dX12_tellsItem_133 : decode cX12_tellsItem 133 = .ok (.istore 6, 2) := by decide +kernel
theorem dX12_tellsItem_135 : decode cX12_tellsItem 135 = .ok (.iload_n 3, 1) := by decide +kernel
theorem dX12_tellsItem_136 : decode cX12_tellsItem 136 = .ok (.iconst 2, 1) := by decide +kernel
theorem dX12_tellsItem_137 : decode cX12_tellsItem 137 = .ok (.if_icmp .ne 14, 3) := by decide +kernel
theorem dX12_tellsItem_140 : decode cX12_tellsItem 140 = .ok (.aload_n 0, 1) := by decide +kernel
theorem dX12_tellsItem_141 : decode cX12_tellsItem 141 = .ok (.iload 4, 2) := by decide +kernel
theorem dX12_tellsItem_143 : decode cX12_tellsItem 143 = .ok (.iload 5, 2) := by decide +kernel
theorem dX12_tellsItem_145 : decode cX12_tellsItem 145 = .ok (.invokevirtual 168, 3) := by decide +kernel
theorem dX12_tellsItem_148 : decode cX12_tellsItem 148 = .ok (.goto 34, 3) := by decide +kernel
theorem dX12_tellsItem_151 : decode cX12_tellsItem 151 = .ok (.iload_n 3, 1) := by decide +kernel
theorem dX12_tellsItem_152 : decode cX12_tellsItem 152 = .ok (.iconst 3, 1) := by decide +kernel
theorem dX12_tellsItem_153 : decode cX12_tellsItem 153 = .ok (.if_icmp .ne 14, 3) := by decide +kernel
theorem dX12_tellsItem_156 : decode cX12_tellsItem 156 = .ok (.aload_n 0, 1) := by decide +kernel
theorem dX12_tellsItem_157 : decode cX12_tellsItem 157 = .ok (.iload 4, 2) := by decide +kernel
theorem dX12_tellsItem_159 : decode cX12_tellsItem 159 = .ok (.iload 5, 2) := by decide +kernel
theorem dX12_tellsItem_161 : decode cX12_tellsItem 161 = .ok (.invokevirtual 171, 3) := by decide +kernel
theorem dX12_tellsItem_164 : decode cX12_tellsItem 164 = .ok (.goto 18, 3) := by decide +kernel
theorem dX12_tellsItem_167 : decode cX12_tellsItem 167 = .ok (.iload_n 3, 1) := by decide +kernel
theorem dX12_tellsItem_168 : decode cX12_tellsItem 168 = .ok (.iconst 4, 1) := by decide +kernel
theorem dX12_tellsItem_169 : decode cX12_tellsItem 169 = .ok (.if_icmp .ne 12, 3) := by decide +kernel
theorem dX12_tellsItem_172 : decode cX12_tellsItem 172 = .ok (.aload_n 0, 1) := by decide +kernel
theorem dX12_tellsItem_173 : decode cX12_tellsItem 173 = .ok (.iload 4, 2) := by decide +kernel
theorem dX12_tellsItem_175 : decode cX12_tellsItem 175 = .ok (.invokevirtual 174, 3) := by decide +kernel
theorem dX12_tellsItem_178 : decode cX12_tellsItem 178 = .ok (.goto 4, 3) := by decide +kernel
theorem dX12_tellsItem_181 : decode cX12_tellsItem 181 = .ok (.iconst 0, 1) := by decide +kernel
theorem dX12_tellsItem_182 : decode cX12_tellsItem 182 = .ok (.istore 7, 2) := by decide +kernel
theorem dX12_tellsItem_184 : decode cX12_tellsItem 184 = .ok (.iload 6, 2) := by decide +kernel
theorem dX12_tellsItem_186 : decode cX12_tellsItem 186 = .ok (.ifCond .lt 12, 3) := by decide +kernel
theorem dX12_tellsItem_189 : decode cX12_tellsItem 189 = .ok (.iload 7, 2) := by decide +kernel
theorem dX12_tellsItem_191 : decode cX12_tellsItem 191 = .ok (.ifCond .lt 7, 3) := by decide +kernel
theorem dX12_tellsItem_194 : decode cX12_tellsItem 194 = .ok (.iconst 1, 1) := by decide +kernel
theorem dX12_tellsItem_195 : decode cX12_tellsItem 195 = .ok (.goto 4, 3) := by decide +kernel
theorem dX12_tellsItem_198 : decode cX12_tellsItem 198 = .ok (.iconst 0, 1) := by decide +kernel
theorem dX12_tellsItem_199 : decode cX12_tellsItem 199 = .ok (.ireturn, 1) := by decide +kernel
theorem dX12_read_0 : decode cX12_read 0 = .ok (.aload_n 0, 1) := by decide +kernel
theorem dX12_read_1 : decode cX12_read 1 = .ok (.invokevirtual 177, 3) := by decide +kernel
theorem dX12_read_4 : decode cX12_read 4 = .ok (.ifCond .ne 11, 3) := by decide +kernel
theorem dX12_read_7 : decode cX12_read 7 = .ok (.bipush (-10), 2) := by decide +kernel
theorem dX12_read_9 : decode cX12_read 9 = .ok (.aload_n 0, 1) := by decide +kernel
theorem dX12_read_10 : decode cX12_read 10 = .ok (.getfield 130, 3) := by decide +kernel
theorem dX12_read_13 : decode cX12_read 13 = .ok (.isub, 1) := by decide +kernel
theorem dX12_read_14 : decode cX12_read 14 = .ok (.ireturn, 1) := by decide +kernel
theorem dX12_read_15 : decode cX12_read 15 = .ok (.iconst 0, 1) := by decide +kernel
theorem dX12_read_16 : decode cX12_read 16 = .ok (.istore_n 1, 1) := by decide +kernel
theorem dX12_read_17 : decode cX12_read 17 = .ok (.iload_n 1, 1) := by decide +kernel
theorem dX12_read_18 : decode cX12_read 18 = .ok (.sipush 259, 3) := by decide +kernel
theorem dX12_read_21 : decode cX12_read 21 = .ok (.if_icmp .ge 21, 3) := by decide +kernel
theorem dX12_read_24 : decode cX12_read 24 = .ok (.aload_n 0, 1) := by decide +kernel
theorem dX12_read_25 : decode cX12_read 25 = .ok (.getfield 20, 3) := by decide +kernel
theorem dX12_read_28 : decode cX12_read 28 = .ok (.iload_n 1, 1) := by decide +kernel
theorem dX12_read_29 : decode cX12_read 29 = .ok (.aload_n 0, 1) := by decide +kernel
theorem dX12_read_30 : decode cX12_read 30 = .ok (.getfield 7, 3) := by decide +kernel
theorem dX12_read_33 : decode cX12_read 33 = .ok (.iload_n 1, 1) := by decide +kernel
theorem dX12_read_34 : decode cX12_read 34 = .ok (.iaload, 1) := by decide +kernel
theorem dX12_read_35 : decode cX12_read 35 = .ok (.iastore, 1) := by decide +kernel
theorem dX12_read_36 : decode cX12_read 36 = .ok (.iinc 1 1, 3) := by decide +kernel
theorem dX12_read_39 : decode cX12_read 39 = .ok (.goto (-22), 3) := by decide +kernel
theorem dX12_read_42 : decode cX12_read 42 = .ok (.aload_n 0, 1) := by decide +kernel
theorem dX12_read_43 : decode cX12_read 43 = .ok (.iconst 1, 1) := by decide +kernel
theorem dX12_read_44 : decode cX12_read 44 = .ok (.putfield 45, 3) := by decide +kernel
theorem dX12_read_47 : decode cX12_read 47 = .ok (.iconst 0, 1) := by decide +kernel
theorem dX12_read_48 : decode cX12_read 48 = .ok (.istore_n 1, 1) := by decide +kernel
theorem dX12_read_49 : decode cX12_read 49 = .ok (.iload_n 1, 1) := by decide +kernel
theorem dX12_read_50 : decode cX12_read 50 = .ok (.aload_n 0, 1) := by decide +kernel
theorem dX12_read_51 : decode cX12_read 51 = .ok (.getfield 147, 3) := by decide +kernel
theorem dX12_read_54 : decode cX12_read 54 = .ok (.if_icmp .ge 17, 3) := by decide +kernel
theorem dX12_read_57 : decode cX12_read 57 = .ok (.aload_n 0, 1) := by decide +kernel
theorem dX12_read_58 : decode cX12_read 58 = .ok (.iload_n 1, 1) := by decide +kernel
theorem dX12_read_59 : decode cX12_read 59 = .ok (.invokevirtual 181, 3) := by decide +kernel
theorem dX12_read_62 : decode cX12_read 62 = .ok (.ifCond .eq 9, 3) := by decide +kernel
theorem dX12_read_65 : decode cX12_read 65 = .ok (.iinc 1 1, 3) := by decide +kernel
theorem dX12_read_68 : decode cX12_read 68 = .ok (.goto (-19), 3) := by decide +kernel
theorem dX12_read_71 : decode cX12_read 71 = .ok (.aload_n 0, 1) := by decide +kernel
theorem dX12_read_72 : decode cX12_read 72 = .ok (.iconst 0, 1) := by decide +kernel
theorem dX12_read_73 : decode cX12_read 73 = .ok (.putfield 45, 3) := by decide +kernel
theorem dX12_read_76 : decode cX12_read 76 = .ok (.iload_n 1, 1) := by decide +kernel
theorem dX12_read_77 : decode cX12_read 77 = .ok (.aload_n 0, 1) := by decide +kernel
theorem dX12_read_78 : decode cX12_read 78 = .ok (.getfield 147, 3) := by decide +kernel
theorem dX12_read_81 : decode cX12_read 81 = .ok (.if_icmp .ne 8, 3) := by decide +kernel
theorem dX12_read_84 : decode cX12_read 84 = .ok (.aload_n 0, 1) := by decide +kernel
theorem dX12_read_85 : decode cX12_read 85 = .ok (.getfield 147, 3) := by decide +kernel
theorem dX12_read_88 : decode cX12_read 88 = .ok (.ireturn, 1) := by decide +kernel
theorem dX12_read_89 : decode cX12_read 89 = .ok (.iconst 0, 1) := by decide +kernel
theorem dX12_read_90 : decode cX12_read 90 = .ok (.istore_n 2, 1) := by decide +kernel
theorem dX12_read_91 : decode cX12_read 91 = .ok (.iload_n 2, 1) := by decide +kernel
theorem dX12_read_92 : decode cX12_read 92 = .ok (.sipush 259, 3) := by decide +kernel
theorem dX12_read_95 : decode cX12_read 95 = .ok (.if_icmp .ge 21, 3) := by decide +kernel
theorem dX12_read_98 : decode cX12_read 98 = .ok (.aload_n 0, 1) := by decide +kernel
theorem dX12_read_99 : decode cX12_read 99 = .ok (.getfield 7, 3) := by decide +kernel
theorem dX12_read_102 : decode cX12_read 102 = .ok (.iload_n 2, 1) := by decide +kernel
theorem dX12_read_103 : decode cX12_read 103 = .ok (.aload_n 0, 1) := by decide +kernel
theorem dX12_read_104 : decode cX12_read 104 = .ok (.getfield 20, 3) := by decide +kernel
theorem dX12_read_107 : decode cX12_read 107 = .ok (.iload_n 2, 1) := by decide +kernel
theorem dX12_read_108 : decode cX12_read 108 = .ok (.iaload, 1) := by decide +kernel
theorem dX12_read_109 : decode cX12_read 109 = .ok (.iastore, 1) := by decide +kernel
theorem dX12_read_110 : decode cX12_read 110 = .ok (.iinc 2 1, 3) := by decide +kernel
theorem dX12_read_113 : decode cX12_read 113 = .ok (.goto (-22), 3) := by decide +kernel
theorem dX12_read_116 : decode cX12_read 116 = .ok (.sipush (-1000), 3) := by decide +kernel
theorem dX12_read_119 : decode cX12_read 119 = .ok (.iload_n 1, 1) := by decide +kernel
theorem dX12_read_120 : decode cX12_read 120 = .ok (.isub, 1) := by decide +kernel
theorem dX12_read_121 : decode cX12_read 121 = .ok (.ireturn, 1) := by decide +kernel
theorem dX12_isSpring_0 : decode cX12_isSpring 0 = .ok (.iload_n 1, 1) := by decide +kernel
theorem dX12_isSpring_1 : decode cX12_isSpring 1 = .ok (.aload_n 0, 1) := by decide +kernel
theorem dX12_isSpring_2 : decode cX12_isSpring 2 = .ok (.getfield 7, 3) := by decide +kernel
theorem dX12_isSpring_5 : decode cX12_isSpring 5 = .ok (.iconst 3, 1) := by decide +kernel
theorem dX12_isSpring_6 : decode cX12_isSpring 6 = .ok (.iaload, 1) := by decide +kernel
theorem dX12_isSpring_7 : decode cX12_isSpring 7 = .ok (.irem, 1) := by decide +kernel
theorem dX12_isSpring_8 : decode cX12_isSpring 8 = .ok (.ifCond .ne 7, 3) := by decide +kernel
theorem dX12_isSpring_11 : decode cX12_isSpring 11 = .ok (.iconst 1, 1) := by decide +kernel
theorem dX12_isSpring_12 : decode cX12_isSpring 12 = .ok (.goto 4, 3) := by decide +kernel
theorem dX12_isSpring_15 : decode cX12_isSpring 15 = .ok (.iconst 0, 1) := by decide +kernel
theorem dX12_isSpring_16 : decode cX12_isSpring 16 = .ok (.ireturn, 1) := by decide +kernel
theorem dX12_stormOf_0 : decode cX12_stormOf 0 = .ok (.aload_n 0, 1) := by decide +kernel
theorem dX12_stormOf_1 : decode cX12_stormOf 1 = .ok (.getfield 7, 3) := by decide +kernel
theorem dX12_stormOf_4 : decode cX12_stormOf 4 = .ok (.bipush 7, 2) := by decide +kernel
theorem dX12_stormOf_6 : decode cX12_stormOf 6 = .ok (.iload_n 1, 1) := by decide +kernel
theorem dX12_stormOf_7 : decode cX12_stormOf 7 = .ok (.bipush 8, 2) := by decide +kernel
theorem dX12_stormOf_9 : decode cX12_stormOf 9 = .ok (.irem, 1) := by decide +kernel
theorem dX12_stormOf_10 : decode cX12_stormOf 10 = .ok (.iadd, 1) := by decide +kernel
theorem dX12_stormOf_11 : decode cX12_stormOf 11 = .ok (.iaload, 1) := by decide +kernel
theorem dX12_stormOf_12 : decode cX12_stormOf 12 = .ok (.aload_n 0, 1) := by decide +kernel
theorem dX12_stormOf_13 : decode cX12_stormOf 13 = .ok (.iload_n 1, 1) := by decide +kernel
theorem dX12_stormOf_14 : decode cX12_stormOf 14 = .ok (.invokevirtual 184, 3) := by decide +kernel
theorem dX12_stormOf_17 : decode cX12_stormOf 17 = .ok (.ifCond .eq 7, 3) := by decide +kernel
theorem dX12_stormOf_20 : decode cX12_stormOf 20 = .ok (.iconst 2, 1) := by decide +kernel
theorem dX12_stormOf_21 : decode cX12_stormOf 21 = .ok (.goto 4, 3) := by decide +kernel
theorem dX12_stormOf_24 : decode cX12_stormOf 24 = .ok (.iconst 0, 1) := by decide +kernel
theorem dX12_stormOf_25 : decode cX12_stormOf 25 = .ok (.iadd, 1) := by decide +kernel
theorem dX12_stormOf_26 : decode cX12_stormOf 26 = .ok (.ireturn, 1) := by decide +kernel
theorem dX12_holds_0 : decode cX12_holds 0 = .ok (.aload_n 0, 1) := by decide +kernel
theorem dX12_holds_1 : decode cX12_holds 1 = .ok (.getfield 7, 3) := by decide +kernel
theorem dX12_holds_4 : decode cX12_holds 4 = .ok (.iload_n 1, 1) := by decide +kernel
theorem dX12_holds_5 : decode cX12_holds 5 = .ok (.iconst 0, 1) := by decide +kernel
theorem dX12_holds_6 : decode cX12_holds 6 = .ok (.invokestatic 96, 3) := by decide +kernel
theorem dX12_holds_9 : decode cX12_holds 9 = .ok (.iaload, 1) := by decide +kernel
theorem dX12_holds_10 : decode cX12_holds 10 = .ok (.istore_n 3, 1) := by decide +kernel
theorem dX12_holds_11 : decode cX12_holds 11 = .ok (.iload_n 3, 1) := by decide +kernel
theorem dX12_holds_12 : decode cX12_holds 12 = .ok (.iconst 1, 1) := by decide +kernel
theorem dX12_holds_13 : decode cX12_holds 13 = .ok (.if_icmp .eq 8, 3) := by decide +kernel
theorem dX12_holds_16 : decode cX12_holds 16 = .ok (.iload_n 3, 1) := by decide +kernel
theorem dX12_holds_17 : decode cX12_holds 17 = .ok (.iconst 4, 1) := by decide +kernel
theorem dX12_holds_18 : decode cX12_holds 18 = .ok (.if_icmp .ne 8, 3) := by decide +kernel
theorem dX12_holds_21 : decode cX12_holds 21 = .ok (.bipush 11, 2) := by decide +kernel
theorem dX12_holds_23 : decode cX12_holds 23 = .ok (.goto 32, 3) := by decide +kernel
theorem dX12_holds_26 : decode cX12_holds 26 = .ok (.iload_n 3, 1) := by decide +kernel
theorem dX12_holds_27 : decode cX12_holds 27 = .ok (.iconst 2, 1) := by decide +kernel
theorem dX12_holds_28 : decode cX12_holds 28 = .ok (.if_icmp .ne 16, 3) := by decide +kernel
theorem dX12_holds_31 : decode cX12_holds 31 = .ok (.aload_n 0, 1) := by decide +kernel
theorem dX12_holds_32 : decode cX12_holds 32 = .ok (.iload_n 2, 1) := by decide +kernel
theorem dX12_holds_33 : decode cX12_holds 33 = .ok (.invokevirtual 184, 3) := by decide +kernel
theorem dX12_holds_36 : decode cX12_holds 36 = .ok (.ifCond .eq 8, 3) := by decide +kernel
theorem dX12_holds_39 : decode cX12_holds 39 = .ok (.bipush 15, 2) := by decide +kernel
theorem dX12_holds_41 : decode cX12_holds 41 = .ok (.goto 14, 3) := by decide +kernel
theorem dX12_holds_44 : decode cX12_holds 44 = .ok (.iload_n 3, 1) := by decide +kernel
theorem dX12_holds_45 : decode cX12_holds 45 = .ok (.iconst 5, 1) := by decide +kernel
theorem dX12_holds_46 : decode cX12_holds 46 = .ok (.if_icmp .ne 7, 3) := by decide +kernel
theorem dX12_holds_49 : decode cX12_holds 49 = .ok (.iconst 4, 1) := by decide +kernel
theorem dX12_holds_50 : decode cX12_holds 50 = .ok (.goto 5, 3) := by decide +kernel
theorem dX12_holds_53 : decode cX12_holds 53 = .ok (.bipush 8, 2) := by decide +kernel
theorem dX12_holds_55 : decode cX12_holds 55 = .ok (.ireturn, 1) := by decide +kernel
theorem dX12_costs_0 : decode cX12_costs 0 = .ok (.aload_n 0, 1) := by decide +kernel
theorem dX12_costs_1 : decode cX12_costs 1 = .ok (.getfield 7, 3) := by decide +kernel
theorem dX12_costs_4 : decode cX12_costs 4 = .ok (.iload_n 1, 1) := by decide +kernel
theorem dX12_costs_5 : decode cX12_costs 5 = .ok (.iconst 0, 1) := by decide +kernel
theorem dX12_costs_6 : decode cX12_costs 6 = .ok (.invokestatic 96, 3) := by decide +kernel
theorem dX12_costs_9 : decode cX12_costs 9 = .ok (.iaload, 1) := by decide +kernel
theorem dX12_costs_10 : decode cX12_costs 10 = .ok (.istore_n 2, 1) := by decide +kernel
theorem dX12_costs_11 : decode cX12_costs 11 = .ok (.aload_n 0, 1) := by decide +kernel
theorem dX12_costs_12 : decode cX12_costs 12 = .ok (.getfield 7, 3) := by decide +kernel
theorem dX12_costs_15 : decode cX12_costs 15 = .ok (.iload_n 1, 1) := by decide +kernel
theorem dX12_costs_16 : decode cX12_costs 16 = .ok (.iconst 5, 1) := by decide +kernel
theorem dX12_costs_17 : decode cX12_costs 17 = .ok (.invokestatic 96, 3) := by decide +kernel
theorem dX12_costs_20 : decode cX12_costs 20 = .ok (.iaload, 1) := by decide +kernel
theorem dX12_costs_21 : decode cX12_costs 21 = .ok (.istore_n 3, 1) := by decide +kernel
theorem dX12_costs_22 : decode cX12_costs 22 = .ok (.iload_n 2, 1) := by decide +kernel
theorem dX12_costs_23 : decode cX12_costs 23 = .ok (.iconst 3, 1) := by decide +kernel
theorem dX12_costs_24 : decode cX12_costs 24 = .ok (.if_icmp .ne 9, 3) := by decide +kernel
theorem dX12_costs_27 : decode cX12_costs 27 = .ok (.iload_n 3, 1) := by decide +kernel
theorem dX12_costs_28 : decode cX12_costs 28 = .ok (.iconst 1, 1) := by decide +kernel
theorem dX12_costs_29 : decode cX12_costs 29 = .ok (.iadd, 1) := by decide +kernel
theorem dX12_costs_30 : decode cX12_costs 30 = .ok (.goto 28, 3) := by decide +kernel
theorem dX12_costs_33 : decode cX12_costs 33 = .ok (.iload_n 2, 1) := by decide +kernel
theorem dX12_costs_34 : decode cX12_costs 34 = .ok (.iconst 4, 1) := by decide +kernel
theorem dX12_costs_35 : decode cX12_costs 35 = .ok (.if_icmp .ne 9, 3) := by decide +kernel
theorem dX12_costs_38 : decode cX12_costs 38 = .ok (.iconst 2, 1) := by decide +kernel
theorem dX12_costs_39 : decode cX12_costs 39 = .ok (.iload_n 3, 1) := by decide +kernel
theorem dX12_costs_40 : decode cX12_costs 40 = .ok (.imul, 1) := by decide +kernel
theorem dX12_costs_41 : decode cX12_costs 41 = .ok (.goto 17, 3) := by decide +kernel
theorem dX12_costs_44 : decode cX12_costs 44 = .ok (.iload_n 2, 1) := by decide +kernel
theorem dX12_costs_45 : decode cX12_costs 45 = .ok (.iconst 5, 1) := by decide +kernel
theorem dX12_costs_46 : decode cX12_costs 46 = .ok (.if_icmp .ne 11, 3) := by decide +kernel
theorem dX12_costs_49 : decode cX12_costs 49 = .ok (.iload_n 3, 1) := by decide +kernel
theorem dX12_costs_50 : decode cX12_costs 50 = .ok (.iconst 2, 1) := by decide +kernel
theorem dX12_costs_51 : decode cX12_costs 51 = .ok (.iadd, 1) := by decide +kernel
theorem dX12_costs_52 : decode cX12_costs 52 = .ok (.iconst 2, 1) := by decide +kernel
theorem dX12_costs_53 : decode cX12_costs 53 = .ok (.idiv, 1) := by decide +kernel
theorem dX12_costs_54 : decode cX12_costs 54 = .ok (.goto 4, 3) := by decide +kernel
theorem dX12_costs_57 : decode cX12_costs 57 = .ok (.iload_n 3, 1) := by decide +kernel
theorem dX12_costs_58 : decode cX12_costs 58 = .ok (.ireturn, 1) := by decide +kernel
theorem dX12_dueOf_0 : decode cX12_dueOf 0 = .ok (.aload_n 0, 1) := by decide +kernel
theorem dX12_dueOf_1 : decode cX12_dueOf 1 = .ok (.getfield 7, 3) := by decide +kernel
theorem dX12_dueOf_4 : decode cX12_dueOf 4 = .ok (.iload_n 1, 1) := by decide +kernel
theorem dX12_dueOf_5 : decode cX12_dueOf 5 = .ok (.iconst 0, 1) := by decide +kernel
theorem dX12_dueOf_6 : decode cX12_dueOf 6 = .ok (.invokestatic 96, 3) := by decide +kernel
theorem dX12_dueOf_9 : decode cX12_dueOf 9 = .ok (.iaload, 1) := by decide +kernel
theorem dX12_dueOf_10 : decode cX12_dueOf 10 = .ok (.istore_n 3, 1) := by decide +kernel
theorem dX12_dueOf_11 : decode cX12_dueOf 11 = .ok (.iload_n 3, 1) := by decide +kernel
theorem dX12_dueOf_12 : decode cX12_dueOf 12 = .ok (.iconst 3, 1) := by decide +kernel
theorem dX12_dueOf_13 : decode cX12_dueOf 13 = .ok (.if_icmp .eq 8, 3) := by decide +kernel
theorem dX12_dueOf_16 : decode cX12_dueOf 16 = .ok (.iload_n 3, 1) := by decide +kernel
theorem dX12_dueOf_17 : decode cX12_dueOf 17 = .ok (.iconst 5, 1) := by decide +kernel
theorem dX12_dueOf_18 : decode cX12_dueOf 18 = .ok (.if_icmp .ne 7, 3) := by decide +kernel
theorem dX12_dueOf_21 : decode cX12_dueOf 21 = .ok (.iconst 1, 1) := by decide +kernel
theorem dX12_dueOf_22 : decode cX12_dueOf 22 = .ok (.goto 4, 3) := by decide +kernel
theorem dX12_dueOf_25 : decode cX12_dueOf 25 = .ok (.iconst 0, 1) := by decide +kernel
theorem dX12_dueOf_26 : decode cX12_dueOf 26 = .ok (.istore 4, 2) := by decide +kernel
theorem dX12_dueOf_28 : decode cX12_dueOf 28 = .ok (.iload 4, 2) := by decide +kernel
theorem dX12_dueOf_30 : decode cX12_dueOf 30 = .ok (.ifCond .eq 24, 3) := by decide +kernel
theorem dX12_dueOf_33 : decode cX12_dueOf 33 = .ok (.iload_n 2, 1) := by decide +kernel
theorem dX12_dueOf_34 : decode cX12_dueOf 34 = .ok (.iconst 2, 1) := by decide +kernel
theorem dX12_dueOf_35 : decode cX12_dueOf 35 = .ok (.irem, 1) := by decide +kernel
theorem dX12_dueOf_36 : decode cX12_dueOf 36 = .ok (.iconst 1, 1) := by decide +kernel
theorem dX12_dueOf_37 : decode cX12_dueOf 37 = .ok (.if_icmp .ne 13, 3) := by decide +kernel
theorem dX12_dueOf_40 : decode cX12_dueOf 40 = .ok (.iconst 2, 1) := by decide +kernel
theorem dX12_dueOf_41 : decode cX12_dueOf 41 = .ok (.aload_n 0, 1) := by decide +kernel
theorem dX12_dueOf_42 : decode cX12_dueOf 42 = .ok (.iload_n 1, 1) := by decide +kernel
theorem dX12_dueOf_43 : decode cX12_dueOf 43 = .ok (.invokevirtual 187, 3) := by decide +kernel
theorem dX12_dueOf_46 : decode cX12_dueOf 46 = .ok (.imul, 1) := by decide +kernel
theorem dX12_dueOf_47 : decode cX12_dueOf 47 = .ok (.goto 12, 3) := by decide +kernel
theorem dX12_dueOf_50 : decode cX12_dueOf 50 = .ok (.iconst 0, 1) := by decide +kernel
theorem dX12_dueOf_51 : decode cX12_dueOf 51 = .ok (.goto 8, 3) := by decide +kernel
theorem dX12_dueOf_54 : decode cX12_dueOf 54 = .ok (.aload_n 0, 1) := by decide +kernel
theorem dX12_dueOf_55 : decode cX12_dueOf 55 = .ok (.iload_n 1, 1) := by decide +kernel
theorem dX12_dueOf_56 : decode cX12_dueOf 56 = .ok (.invokevirtual 187, 3) := by decide +kernel
theorem dX12_dueOf_59 : decode cX12_dueOf 59 = .ok (.ireturn, 1) := by decide +kernel
theorem dX12_isOf_0 : decode cX12_isOf 0 = .ok (.aload_n 0, 1) := by decide +kernel
theorem dX12_isOf_1 : decode cX12_isOf 1 = .ok (.getfield 7, 3) := by decide +kernel
theorem dX12_isOf_4 : decode cX12_isOf 4 = .ok (.iload_n 1, 1) := by decide +kernel
theorem dX12_isOf_5 : decode cX12_isOf 5 = .ok (.bipush 6, 2) := by decide +kernel
theorem dX12_isOf_7 : decode cX12_isOf 7 = .ok (.invokestatic 96, 3) := by decide +kernel
theorem dX12_isOf_10 : decode cX12_isOf 10 = .ok (.iaload, 1) := by decide +kernel
theorem dX12_isOf_11 : decode cX12_isOf 11 = .ok (.ifCond .ne 39, 3) := by decide +kernel
theorem dX12_isOf_14 : decode cX12_isOf 14 = .ok (.iload_n 2, 1) := by decide +kernel
theorem dX12_isOf_15 : decode cX12_isOf 15 = .ok (.i2l, 1) := by decide +kernel
theorem dX12_isOf_16 : decode cX12_isOf 16 = .ok (.aload_n 0, 1) := by decide +kernel
theorem dX12_isOf_17 : decode cX12_isOf 17 = .ok (.getfield 7, 3) := by decide +kernel
theorem dX12_isOf_20 : decode cX12_isOf 20 = .ok (.iload_n 1, 1) := by decide +kernel
theorem dX12_isOf_21 : decode cX12_isOf 21 = .ok (.iconst 3, 1) := by decide +kernel
theorem dX12_isOf_22 : decode cX12_isOf 22 = .ok (.invokestatic 96, 3) := by decide +kernel
theorem dX12_isOf_25 : decode cX12_isOf 25 = .ok (.iaload, 1) := by decide +kernel
theorem dX12_isOf_26 : decode cX12_isOf 26 = .ok (.i2l, 1) := by decide +kernel
theorem dX12_isOf_27 : decode cX12_isOf 27 = .ok (.aload_n 0, 1) := by decide +kernel
theorem dX12_isOf_28 : decode cX12_isOf 28 = .ok (.getfield 7, 3) := by decide +kernel
theorem dX12_isOf_31 : decode cX12_isOf 31 = .ok (.iload_n 1, 1) := by decide +kernel
theorem dX12_isOf_32 : decode cX12_isOf 32 = .ok (.iconst 4, 1) := by decide +kernel
theorem dX12_isOf_33 : decode cX12_isOf 33 = .ok (.invokestatic 96, 3) := by decide +kernel
theorem dX12_isOf_36 : decode cX12_isOf 36 = .ok (.iaload, 1) := by decide +kernel
theorem dX12_isOf_37 : decode cX12_isOf 37 = .ok (.iconst 1, 1) := by decide +kernel
theorem dX12_isOf_38 : decode cX12_isOf 38 = .ok (.isub, 1) := by decide +kernel
theorem dX12_isOf_39 : decode cX12_isOf 39 = .ok (.i2l, 1) := by decide +kernel
theorem dX12_isOf_40 : decode cX12_isOf 40 = .ok (.invokestatic 53, 3) := by decide +kernel
theorem dX12_isOf_43 : decode cX12_isOf 43 = .ok (.ifCond .eq 7, 3) := by decide +kernel
theorem dX12_isOf_46 : decode cX12_isOf 46 = .ok (.iconst 1, 1) := by decide +kernel
theorem dX12_isOf_47 : decode cX12_isOf 47 = .ok (.goto 4, 3) := by decide +kernel
theorem dX12_isOf_50 : decode cX12_isOf 50 = .ok (.iconst 0, 1) := by decide +kernel
theorem dX12_isOf_51 : decode cX12_isOf 51 = .ok (.ireturn, 1) := by decide +kernel
theorem dX12_guardedBy_0 : decode cX12_guardedBy 0 = .ok (.iconst 0, 1) := by decide +kernel
theorem dX12_guardedBy_1 : decode cX12_guardedBy 1 = .ok (.istore_n 3, 1) := by decide +kernel
theorem dX12_guardedBy_2 : decode cX12_guardedBy 2 = .ok (.iconst 0, 1) := by decide +kernel
theorem dX12_guardedBy_3 : decode cX12_guardedBy 3 = .ok (.istore 4, 2) := by decide +kernel
theorem dX12_guardedBy_5 : decode cX12_guardedBy 5 = .ok (.iload 4, 2) := by decide +kernel
theorem dX12_guardedBy_7 : decode cX12_guardedBy 7 = .ok (.aload_n 0, 1) := by decide +kernel
theorem dX12_guardedBy_8 : decode cX12_guardedBy 8 = .ok (.getfield 7, 3) := by decide +kernel
theorem dX12_guardedBy_11 : decode cX12_guardedBy 11 = .ok (.iconst 4, 1) := by decide +kernel
theorem dX12_guardedBy_12 : decode cX12_guardedBy 12 = .ok (.iaload, 1) := by decide +kernel
theorem dX12_guardedBy_13 : decode cX12_guardedBy 13 = .ok (.if_icmp .ge 88, 3) := by decide +kernel
theorem dX12_guardedBy_16 : decode cX12_guardedBy 16 = .ok (.aload_n 0, 1) := by decide +kernel
theorem dX12_guardedBy_17 : decode cX12_guardedBy 17 = .ok (.iload 4, 2) := by decide +kernel
theorem dX12_guardedBy_19 : decode cX12_guardedBy 19 = .ok (.iload_n 1, 1) := by decide +kernel
theorem dX12_guardedBy_20 : decode cX12_guardedBy 20 = .ok (.invokevirtual 190, 3) := by decide +kernel
theorem dX12_guardedBy_23 : decode cX12_guardedBy 23 = .ok (.ifCond .eq 18, 3) := by decide +kernel
theorem dX12_guardedBy_26 : decode cX12_guardedBy 26 = .ok (.iload_n 2, 1) := by decide +kernel
theorem dX12_guardedBy_27 : decode cX12_guardedBy 27 = .ok (.aload_n 0, 1) := by decide +kernel
theorem dX12_guardedBy_28 : decode cX12_guardedBy 28 = .ok (.iload 4, 2) := by decide +kernel
theorem dX12_guardedBy_30 : decode cX12_guardedBy 30 = .ok (.iload_n 1, 1) := by decide +kernel
theorem dX12_guardedBy_31 : decode cX12_guardedBy 31 = .ok (.invokevirtual 193, 3) := by decide +kernel
theorem dX12_guardedBy_34 : decode cX12_guardedBy 34 = .ok (.if_icmp .gt 7, 3) := by decide +kernel
theorem dX12_guardedBy_37 : decode cX12_guardedBy 37 = .ok (.iconst 1, 1) := by decide +kernel
theorem dX12_guardedBy_38 : decode cX12_guardedBy 38 = .ok (.goto 4, 3) := by decide +kernel
theorem dX12_guardedBy_41 : decode cX12_guardedBy 41 = .ok (.iconst 0, 1) := by decide +kernel
theorem dX12_guardedBy_42 : decode cX12_guardedBy 42 = .ok (.istore 5, 2) := by decide +kernel
theorem dX12_guardedBy_44 : decode cX12_guardedBy 44 = .ok (.aload_n 0, 1) := by decide +kernel
theorem dX12_guardedBy_45 : decode cX12_guardedBy 45 = .ok (.getfield 7, 3) := by decide +kernel
theorem dX12_guardedBy_48 : decode cX12_guardedBy 48 = .ok (.iload 4, 2) := by decide +kernel
theorem dX12_guardedBy_50 : decode cX12_guardedBy 50 = .ok (.iconst 1, 1) := by decide +kernel
theorem dX12_guardedBy_51 : decode cX12_guardedBy 51 = .ok (.invokestatic 96, 3) := by decide +kernel
theorem dX12_guardedBy_54 : decode cX12_guardedBy 54 = .ok (.iaload, 1) := by decide +kernel
theorem dX12_guardedBy_55 : decode cX12_guardedBy 55 = .ok (.istore 6, 2) := by decide +kernel
theorem dX12_guardedBy_57 : decode cX12_guardedBy 57 = .ok (.iload 6, 2) := by decide +kernel
theorem dX12_guardedBy_59 : decode cX12_guardedBy 59 = .ok (.aload_n 0, 1) := by decide +kernel
theorem dX12_guardedBy_60 : decode cX12_guardedBy 60 = .ok (.getfield 7, 3) := by decide +kernel
theorem dX12_guardedBy_63 : decode cX12_guardedBy 63 = .ok (.iload 4, 2) := by decide +kernel
theorem dX12_guardedBy_65 : decode cX12_guardedBy 65 = .ok (.iconst 2, 1) := by decide +kernel
theorem dX12_guardedBy_66 : decode cX12_guardedBy 66 = .ok (.invokestatic 96, 3) := by decide +kernel
theorem dX12_guardedBy_69 : decode cX12_guardedBy 69 = .ok (.iaload, 1) := by decide +kernel
theorem dX12_guardedBy_70 : decode cX12_guardedBy 70 = .ok (.if_icmp .gt 25, 3) := by decide +kernel
theorem dX12_guardedBy_73 : decode cX12_guardedBy 73 = .ok (.iload_n 3, 1) := by decide +kernel
theorem dX12_guardedBy_74 : decode cX12_guardedBy 74 = .ok (.iload 5, 2) := by decide +kernel
theorem dX12_guardedBy_76 : decode cX12_guardedBy 76 = .ok (.ifCond .eq 10, 3) := by decide +kernel
theorem dX12_guardedBy_79 : decode cX12_guardedBy 79 = .ok (.iconst 1, 1) := by decide +kernel
theorem dX12_guardedBy_80 : decode cX12_guardedBy 80 = .ok (.iload 6, 2) := by decide +kernel
theorem dX12_guardedBy_82 : decode cX12_guardedBy 82 = .ok (.ishl, 1) := by decide +kernel
theorem dX12_guardedBy_83 : decode cX12_guardedBy 83 = .ok (.goto 4, 3) := by decide +kernel
theorem dX12_guardedBy_86 : decode cX12_guardedBy 86 = .ok (.iconst 0, 1) := by decide +kernel
theorem dX12_guardedBy_87 : decode cX12_guardedBy 87 = .ok (.ior, 1) := by decide +kernel
theorem dX12_guardedBy_88 : decode cX12_guardedBy 88 = .ok (.istore_n 3, 1) := by decide +kernel
theorem dX12_guardedBy_89 : decode cX12_guardedBy 89 = .ok (.iinc 6 1, 3) := by decide +kernel
theorem dX12_guardedBy_92 : decode cX12_guardedBy 92 = .ok (.goto (-35), 3) := by decide +kernel
theorem dX12_guardedBy_95 : decode cX12_guardedBy 95 = .ok (.iinc 4 1, 3) := by decide +kernel
theorem dX12_guardedBy_98 : decode cX12_guardedBy 98 = .ok (.goto (-93), 3) := by decide +kernel
theorem dX12_guardedBy_101 : decode cX12_guardedBy 101 = .ok (.iload_n 3, 1) := by decide +kernel
theorem dX12_guardedBy_102 : decode cX12_guardedBy 102 = .ok (.ireturn, 1) := by decide +kernel
theorem dX12_floods_0 : decode cX12_floods 0 = .ok (.iconst 0, 1) := by decide +kernel
theorem dX12_floods_1 : decode cX12_floods 1 = .ok (.istore 4, 2) := by decide +kernel
theorem dX12_floods_3 : decode cX12_floods 3 = .ok (.iconst 0, 1) := by decide +kernel
theorem dX12_floods_4 : decode cX12_floods 4 = .ok (.istore 5, 2) := by decide +kernel
theorem dX12_floods_6 : decode cX12_floods 6 = .ok (.iload 5, 2) := by decide +kernel
theorem dX12_floods_8 : decode cX12_floods 8 = .ok (.aload_n 0, 1) := by decide +kernel
theorem dX12_floods_9 : decode cX12_floods 9 = .ok (.getfield 7, 3) := by decide +kernel
theorem dX12_floods_12 : decode cX12_floods 12 = .ok (.iconst 0, 1) := by decide +kernel
theorem dX12_floods_13 : decode cX12_floods 13 = .ok (.iaload, 1) := by decide +kernel
theorem dX12_floods_14 : decode cX12_floods 14 = .ok (.if_icmp .ge 85, 3) := by decide +kernel
theorem dX12_floods_17 : decode cX12_floods 17 = .ok (.iload_n 3, 1) := by decide +kernel
theorem dX12_floods_18 : decode cX12_floods 18 = .ok (.aload_n 0, 1) := by decide +kernel
theorem dX12_floods_19 : decode cX12_floods 19 = .ok (.getfield 7, 3) := by decide +kernel
theorem dX12_floods_22 : decode cX12_floods 22 = .ok (.iload 5, 2) := by decide +kernel
theorem dX12_floods_24 : decode cX12_floods 24 = .ok (.iconst 2, 1) := by decide +kernel
theorem dX12_floods_25 : decode cX12_floods 25 = .ok (.invokestatic 73, 3) := by decide +kernel
theorem dX12_floods_28 : decode cX12_floods 28 = .ok (.iaload, 1) := by decide +kernel
theorem dX12_floods_29 : decode cX12_floods 29 = .ok (.ishr, 1) := by decide +kernel
theorem dX12_floods_30 : decode cX12_floods 30 = .ok (.iconst 1, 1) := by decide +kernel
theorem dX12_floods_31 : decode cX12_floods 31 = .ok (.iand, 1) := by decide +kernel
theorem dX12_floods_32 : decode cX12_floods 32 = .ok (.iconst 1, 1) := by decide +kernel
theorem dX12_floods_33 : decode cX12_floods 33 = .ok (.if_icmp .ne 7, 3) := by decide +kernel
theorem dX12_floods_36 : decode cX12_floods 36 = .ok (.iconst 0, 1) := by decide +kernel
theorem dX12_floods_37 : decode cX12_floods 37 = .ok (.goto 14, 3) := by decide +kernel
theorem dX12_floods_40 : decode cX12_floods 40 = .ok (.aload_n 0, 1) := by decide +kernel
theorem dX12_floods_41 : decode cX12_floods 41 = .ok (.getfield 7, 3) := by decide +kernel
theorem dX12_floods_44 : decode cX12_floods 44 = .ok (.iload 5, 2) := by decide +kernel
theorem dX12_floods_46 : decode cX12_floods 46 = .ok (.iconst 3, 1) := by decide +kernel
theorem dX12_floods_47 : decode cX12_floods 47 = .ok (.invokestatic 73, 3) := by decide +kernel
theorem dX12_floods_50 : decode cX12_floods 50 = .ok (.iaload, 1) := by decide +kernel
theorem dX12_floods_51 : decode cX12_floods 51 = .ok (.istore 6, 2) := by decide +kernel
theorem dX12_floods_53 : decode cX12_floods 53 = .ok (.iload_n 1, 1) := by decide +kernel
theorem dX12_floods_54 : decode cX12_floods 54 = .ok (.aload_n 0, 1) := by decide +kernel
theorem dX12_floods_55 : decode cX12_floods 55 = .ok (.getfield 7, 3) := by decide +kernel
theorem dX12_floods_58 : decode cX12_floods 58 = .ok (.iload 5, 2) := by decide +kernel
theorem dX12_floods_60 : decode cX12_floods 60 = .ok (.iconst 0, 1) := by decide +kernel
theorem dX12_floods_61 : decode cX12_floods 61 = .ok (.invokestatic 73, 3) := by decide +kernel
theorem dX12_floods_64 : decode cX12_floods 64 = .ok (.iaload, 1) := by decide +kernel
theorem dX12_floods_65 : decode cX12_floods 65 = .ok (.iload 6, 2) := by decide +kernel
theorem dX12_floods_67 : decode cX12_floods 67 = .ok (.iadd, 1) := by decide +kernel
theorem dX12_floods_68 : decode cX12_floods 68 = .ok (.if_icmp .le 13, 3) := by decide +kernel
theorem dX12_floods_71 : decode cX12_floods 71 = .ok (.iload_n 2, 1) := by decide +kernel
theorem dX12_floods_72 : decode cX12_floods 72 = .ok (.iload 5, 2) := by decide +kernel
theorem dX12_floods_74 : decode cX12_floods 74 = .ok (.ishr, 1) := by decide +kernel
theorem dX12_floods_75 : decode cX12_floods 75 = .ok (.iconst 1, 1) := by decide +kernel
theorem dX12_floods_76 : decode cX12_floods 76 = .ok (.iand, 1) := by decide +kernel
theorem dX12_floods_77 : decode cX12_floods 77 = .ok (.iconst 1, 1) := by decide +kernel
theorem dX12_floods_78 : decode cX12_floods 78 = .ok (.if_icmp .ne 6, 3) := by decide +kernel
theorem dX12_floods_81 : decode cX12_floods 81 = .ok (.iload 4, 2) := by decide +kernel
theorem dX12_floods_83 : decode cX12_floods 83 = .ok (.ireturn, 1) := by decide +kernel
theorem dX12_floods_84 : decode cX12_floods 84 = .ok (.iload 4, 2) := by decide +kernel
theorem dX12_floods_86 : decode cX12_floods 86 = .ok (.iconst 1, 1) := by decide +kernel
theorem dX12_floods_87 : decode cX12_floods 87 = .ok (.iload 5, 2) := by decide +kernel
theorem dX12_floods_89 : decode cX12_floods 89 = .ok (.ishl, 1) := by decide +kernel
theorem dX12_floods_90 : decode cX12_floods 90 = .ok (.ior, 1) := by decide +kernel
theorem dX12_floods_91 : decode cX12_floods 91 = .ok (.istore 4, 2) := by decide +kernel
theorem dX12_floods_93 : decode cX12_floods 93 = .ok (.iinc 5 1, 3) := by decide +kernel
theorem dX12_floods_96 : decode cX12_floods 96 = .ok (.goto (-90), 3) := by decide +kernel
theorem dX12_floods_99 : decode cX12_floods 99 = .ok (.iload 4, 2) := by decide +kernel
theorem dX12_floods_101 : decode cX12_floods 101 = .ok (.ireturn, 1) := by decide +kernel
theorem dX12_isLost_0 : decode cX12_isLost 0 = .ok (.aload_n 0, 1) := by decide +kernel
theorem dX12_isLost_1 : decode cX12_isLost 1 = .ok (.getfield 7, 3) := by decide +kernel
theorem dX12_isLost_4 : decode cX12_isLost 4 = .ok (.iload_n 1, 1) := by decide +kernel
theorem dX12_isLost_5 : decode cX12_isLost 5 = .ok (.iconst 4, 1) := by decide +kernel
theorem dX12_isLost_6 : decode cX12_isLost 6 = .ok (.invokestatic 73, 3) := by decide +kernel
theorem dX12_isLost_9 : decode cX12_isLost 9 = .ok (.iaload, 1) := by decide +kernel
theorem dX12_isLost_10 : decode cX12_isLost 10 = .ok (.iconst 3, 1) := by decide +kernel
theorem dX12_isLost_11 : decode cX12_isLost 11 = .ok (.if_icmp .lt 7, 3) := by decide +kernel
theorem dX12_isLost_14 : decode cX12_isLost 14 = .ok (.iconst 1, 1) := by decide +kernel
theorem dX12_isLost_15 : decode cX12_isLost 15 = .ok (.goto 4, 3) := by decide +kernel
theorem dX12_isLost_18 : decode cX12_isLost 18 = .ok (.iconst 0, 1) := by decide +kernel
theorem dX12_isLost_19 : decode cX12_isLost 19 = .ok (.ireturn, 1) := by decide +kernel
theorem dX12_goes_0 : decode cX12_goes 0 = .ok (.aload_n 0, 1) := by decide +kernel
theorem dX12_goes_1 : decode cX12_goes 1 = .ok (.getfield 7, 3) := by decide +kernel
theorem dX12_goes_4 : decode cX12_goes 4 = .ok (.iconst 1, 1) := by decide +kernel
theorem dX12_goes_5 : decode cX12_goes 5 = .ok (.iaload, 1) := by decide +kernel
theorem dX12_goes_6 : decode cX12_goes 6 = .ok (.istore_n 2, 1) := by decide +kernel
theorem dX12_goes_7 : decode cX12_goes 7 = .ok (.iconst 0, 1) := by decide +kernel
theorem dX12_goes_8 : decode cX12_goes 8 = .ok (.istore_n 3, 1) := by decide +kernel
theorem dX12_goes_9 : decode cX12_goes 9 = .ok (.iload_n 3, 1) := by decide +kernel
theorem dX12_goes_10 : decode cX12_goes 10 = .ok (.aload_n 0, 1) := by decide +kernel
theorem dX12_goes_11 : decode cX12_goes 11 = .ok (.getfield 7, 3) := by decide +kernel
theorem dX12_goes_14 : decode cX12_goes 14 = .ok (.iconst 4, 1) := by decide +kernel
theorem dX12_goes_15 : decode cX12_goes 15 = .ok (.iaload, 1) := by decide +kernel
theorem dX12_goes_16 : decode cX12_goes 16 = .ok (.if_icmp .ge 79, 3) := by decide +kernel
theorem dX12_goes_19 : decode cX12_goes 19 = .ok (.aload_n 0, 1) := by decide +kernel
theorem dX12_goes_20 : decode cX12_goes 20 = .ok (.iload_n 3, 1) := by decide +kernel
theorem dX12_goes_21 : decode cX12_goes 21 = .ok (.iload_n 2, 1) := by decide +kernel
theorem dX12_goes_22 : decode cX12_goes 22 = .ok (.invokevirtual 190, 3) := by decide +kernel
theorem dX12_goes_25 : decode cX12_goes 25 = .ok (.ifCond .eq 64, 3) := by decide +kernel
theorem dX12_goes_28 : decode cX12_goes 28 = .ok (.aload_n 0, 1) := by decide +kernel
theorem dX12_goes_29 : decode cX12_goes 29 = .ok (.iload_n 3, 1) := by decide +kernel
theorem dX12_goes_30 : decode cX12_goes 30 = .ok (.iload_n 2, 1) := by decide +kernel
theorem dX12_goes_31 : decode cX12_goes 31 = .ok (.invokevirtual 196, 3) := by decide +kernel
theorem dX12_goes_34 : decode cX12_goes 34 = .ok (.istore 4, 2) := by decide +kernel
theorem dX12_goes_36 : decode cX12_goes 36 = .ok (.aload_n 0, 1) := by decide +kernel
theorem dX12_goes_37 : decode cX12_goes 37 = .ok (.getfield 7, 3) := by decide +kernel
theorem dX12_goes_40 : decode cX12_goes 40 = .ok (.iload_n 3, 1) := by decide +kernel
theorem dX12_goes_41 : decode cX12_goes 41 = .ok (.bipush 6, 2) := by decide +kernel
theorem dX12_goes_43 : decode cX12_goes 43 = .ok (.invokestatic 96, 3) := by decide +kernel
theorem dX12_goes_46 : decode cX12_goes 46 = .ok (.iload 4, 2) := by decide +kernel
theorem dX12_goes_48 : decode cX12_goes 48 = .ok (.aload_n 0, 1) := by decide +kernel
theorem dX12_goes_49 : decode cX12_goes 49 = .ok (.getfield 7, 3) := by decide +kernel
theorem dX12_goes_52 : decode cX12_goes 52 = .ok (.iconst 2, 1) := by decide +kernel
theorem dX12_goes_53 : decode cX12_goes 53 = .ok (.iaload, 1) := by decide +kernel
theorem dX12_goes_54 : decode cX12_goes 54 = .ok (.if_icmp .gt 7, 3) := by decide +kernel
theorem dX12_goes_57 : decode cX12_goes 57 = .ok (.iconst 0, 1) := by decide +kernel
theorem dX12_goes_58 : decode cX12_goes 58 = .ok (.goto 4, 3) := by decide +kernel
theorem dX12_goes_61 : decode cX12_goes 61 = .ok (.iconst 1, 1) := by decide +kernel
theorem dX12_goes_62 : decode cX12_goes 62 = .ok (.iastore, 1) := by decide +kernel
theorem dX12_goes_63 : decode cX12_goes 63 = .ok (.aload_n 0, 1) := by decide +kernel
theorem dX12_goes_64 : decode cX12_goes 64 = .ok (.getfield 7, 3) := by decide +kernel
theorem dX12_goes_67 : decode cX12_goes 67 = .ok (.iconst 2, 1) := by decide +kernel
theorem dX12_goes_68 : decode cX12_goes 68 = .ok (.dup2, 1) := by decide +kernel
theorem dX12_goes_69 : decode cX12_goes 69 = .ok (.iaload, 1) := by decide +kernel
theorem dX12_goes_70 : decode cX12_goes 70 = .ok (.iload 4, 2) := by decide +kernel
theorem dX12_goes_72 : decode cX12_goes 72 = .ok (.aload_n 0, 1) := by decide +kernel
theorem dX12_goes_73 : decode cX12_goes 73 = .ok (.getfield 7, 3) := by decide +kernel
theorem dX12_goes_76 : decode cX12_goes 76 = .ok (.iconst 2, 1) := by decide +kernel
theorem dX12_goes_77 : decode cX12_goes 77 = .ok (.iaload, 1) := by decide +kernel
theorem dX12_goes_78 : decode cX12_goes 78 = .ok (.if_icmp .gt 8, 3) := by decide +kernel
theorem dX12_goes_81 : decode cX12_goes 81 = .ok (.iload 4, 2) := by decide +kernel
theorem dX12_goes_83 : decode cX12_goes 83 = .ok (.goto 4, 3) := by decide +kernel
theorem dX12_goes_86 : decode cX12_goes 86 = .ok (.iconst 0, 1) := by decide +kernel
theorem dX12_goes_87 : decode cX12_goes 87 = .ok (.isub, 1) := by decide +kernel
theorem dX12_goes_88 : decode cX12_goes 88 = .ok (.iastore, 1) := by decide +kernel
theorem dX12_goes_89 : decode cX12_goes 89 = .ok (.iinc 3 1, 3) := by decide +kernel
theorem dX12_goes_92 : decode cX12_goes 92 = .ok (.goto (-83), 3) := by decide +kernel
theorem dX12_goes_95 : decode cX12_goes 95 = .ok (.aload_n 0, 1) := by decide +kernel
theorem dX12_goes_96 : decode cX12_goes 96 = .ok (.iload_n 1, 1) := by decide +kernel
theorem dX12_goes_97 : decode cX12_goes 97 = .ok (.aload_n 0, 1) := by decide +kernel
theorem dX12_goes_98 : decode cX12_goes 98 = .ok (.iload_n 2, 1) := by decide +kernel
theorem dX12_goes_99 : decode cX12_goes 99 = .ok (.iload_n 1, 1) := by decide +kernel
theorem dX12_goes_100 : decode cX12_goes 100 = .ok (.invokevirtual 199, 3) := by decide +kernel
theorem dX12_goes_103 : decode cX12_goes 103 = .ok (.iconst 0, 1) := by decide +kernel
theorem dX12_goes_104 : decode cX12_goes 104 = .ok (.invokevirtual 202, 3) := by decide +kernel
theorem dX12_goes_107 : decode cX12_goes 107 = .ok (.istore_n 3, 1) := by decide +kernel
theorem dX12_goes_108 : decode cX12_goes 108 = .ok (.iconst 0, 1) := by decide +kernel
theorem dX12_goes_109 : decode cX12_goes 109 = .ok (.istore 4, 2) := by decide +kernel
theorem dX12_goes_111 : decode cX12_goes 111 = .ok (.iload 4, 2) := by decide +kernel
theorem dX12_goes_113 : decode cX12_goes 113 = .ok (.aload_n 0, 1) := by decide +kernel
theorem dX12_goes_114 : decode cX12_goes 114 = .ok (.getfield 7, 3) := by decide +kernel
theorem dX12_goes_117 : decode cX12_goes 117 = .ok (.iconst 0, 1) := by decide +kernel
theorem dX12_goes_118 : decode cX12_goes 118 = .ok (.iaload, 1) := by decide +kernel
theorem dX12_goes_119 : decode cX12_goes 119 = .ok (.if_icmp .ge 129, 3) := by decide +kernel
theorem dX12_goes_122 : decode cX12_goes 122 = .ok (.iload_n 3, 1) := by decide +kernel
theorem dX12_goes_123 : decode cX12_goes 123 = .ok (.iload 4, 2) := by decide +kernel
theorem dX12_goes_125 : decode cX12_goes 125 = .ok (.ishr, 1) := by decide +kernel
theorem dX12_goes_126 : decode cX12_goes 126 = .ok (.iconst 1, 1) := by decide +kernel
theorem dX12_goes_127 : decode cX12_goes 127 = .ok (.iand, 1) := by decide +kernel
theorem dX12_goes_128 : decode cX12_goes 128 = .ok (.iconst 1, 1) := by decide +kernel
theorem dX12_goes_129 : decode cX12_goes 129 = .ok (.if_icmp .ne 7, 3) := by decide +kernel
theorem dX12_goes_132 : decode cX12_goes 132 = .ok (.iconst 1, 1) := by decide +kernel
theorem dX12_goes_133 : decode cX12_goes 133 = .ok (.goto 4, 3) := by decide +kernel
theorem dX12_goes_136 : decode cX12_goes 136 = .ok (.iconst 0, 1) := by decide +kernel
theorem dX12_goes_137 : decode cX12_goes 137 = .ok (.istore 5, 2) := by decide +kernel
theorem dX12_goes_139 : decode cX12_goes 139 = .ok (.aload_n 0, 1) := by decide +kernel
theorem dX12_goes_140 : decode cX12_goes 140 = .ok (.getfield 7, 3) := by decide +kernel
theorem dX12_goes_143 : decode cX12_goes 143 = .ok (.iload 4, 2) := by decide +kernel
theorem dX12_goes_145 : decode cX12_goes 145 = .ok (.iconst 4, 1) := by decide +kernel
theorem dX12_goes_146 : decode cX12_goes 146 = .ok (.invokestatic 73, 3) := by decide +kernel
theorem dX12_goes_149 : decode cX12_goes 149 = .ok (.dup2, 1) := by decide +kernel
theorem dX12_goes_150 : decode cX12_goes 150 = .ok (.iaload, 1) := by decide +kernel
theorem dX12_goes_151 : decode cX12_goes 151 = .ok (.iload 5, 2) := by decide +kernel
theorem dX12_goes_153 : decode cX12_goes 153 = .ok (.ifCond .eq 7, 3) := by decide +kernel
theorem dX12_goes_156 : decode cX12_goes 156 = .ok (.iconst 1, 1) := by decide +kernel
theorem dX12_goes_157 : decode cX12_goes 157 = .ok (.goto 4, 3) := by decide +kernel
theorem dX12_goes_160 : decode cX12_goes 160 = .ok (.iconst 0, 1) := by decide +kernel
theorem dX12_goes_161 : decode cX12_goes 161 = .ok (.iadd, 1) := by decide +kernel
theorem dX12_goes_162 : decode cX12_goes 162 = .ok (.iastore, 1) := by decide +kernel
theorem dX12_goes_163 : decode cX12_goes 163 = .ok (.aload_n 0, 1) := by decide +kernel
theorem dX12_goes_164 : decode cX12_goes 164 = .ok (.getfield 7, 3) := by decide +kernel
theorem dX12_goes_167 : decode cX12_goes 167 = .ok (.iload 4, 2) := by decide +kernel
theorem dX12_goes_169 : decode cX12_goes 169 = .ok (.iconst 3, 1) := by decide +kernel
theorem dX12_goes_170 : decode cX12_goes 170 = .ok (.invokestatic 73, 3) := by decide +kernel
theorem dX12_goes_173 : decode cX12_goes 173 = .ok (.dup2, 1) := by decide +kernel
theorem dX12_goes_174 : decode cX12_goes 174 = .ok (.iaload, 1) := by decide +kernel
theorem dX12_goes_175 : decode cX12_goes 175 = .ok (.iload 5, 2) := by decide +kernel
theorem dX12_goes_177 : decode cX12_goes 177 = .ok (.ifCond .eq 21, 3) := by decide +kernel
theorem dX12_goes_180 : decode cX12_goes 180 = .ok (.aload_n 0, 1) := by decide +kernel
theorem dX12_goes_181 : decode cX12_goes 181 = .ok (.getfield 7, 3) := by decide +kernel
theorem dX12_goes_184 : decode cX12_goes 184 = .ok (.iload 4, 2) := by decide +kernel
theorem dX12_goes_186 : decode cX12_goes 186 = .ok (.iconst 3, 1) := by decide +kernel
theorem dX12_goes_187 : decode cX12_goes 187 = .ok (.invokestatic 73, 3) := by decide +kernel
theorem dX12_goes_190 : decode cX12_goes 190 = .ok (.iaload, 1) := by decide +kernel
theorem dX12_goes_191 : decode cX12_goes 191 = .ok (.ifCond .le 7, 3) := by decide +kernel
theorem dX12_goes_194 : decode cX12_goes 194 = .ok (.iconst 1, 1) := by decide +kernel
theorem dX12_goes_195 : decode cX12_goes 195 = .ok (.goto 4, 3) := by decide +kernel
theorem dX12_goes_198 : decode cX12_goes 198 = .ok (.iconst 0, 1) := by decide +kernel
theorem dX12_goes_199 : decode cX12_goes 199 = .ok (.isub, 1) := by decide +kernel
theorem dX12_goes_200 : decode cX12_goes 200 = .ok (.iastore, 1) := by decide +kernel
theorem dX12_goes_201 : decode cX12_goes 201 = .ok (.aload_n 0, 1) := by decide +kernel
theorem dX12_goes_202 : decode cX12_goes 202 = .ok (.getfield 7, 3) := by decide +kernel
theorem dX12_goes_205 : decode cX12_goes 205 = .ok (.iconst 2, 1) := by decide +kernel
theorem dX12_goes_206 : decode cX12_goes 206 = .ok (.dup2, 1) := by decide +kernel
theorem dX12_goes_207 : decode cX12_goes 207 = .ok (.iaload, 1) := by decide +kernel
theorem dX12_goes_208 : decode cX12_goes 208 = .ok (.iload 5, 2) := by decide +kernel
theorem dX12_goes_210 : decode cX12_goes 210 = .ok (.ifCond .ne 12, 3) := by decide +kernel
theorem dX12_goes_213 : decode cX12_goes 213 = .ok (.aload_n 0, 1) := by decide +kernel
theorem dX12_goes_214 : decode cX12_goes 214 = .ok (.iload 4, 2) := by decide +kernel
theorem dX12_goes_216 : decode cX12_goes 216 = .ok (.invokevirtual 206, 3) := by decide +kernel
theorem dX12_goes_219 : decode cX12_goes 219 = .ok (.ifCond .eq 7, 3) := by decide +kernel
theorem dX12_goes_222 : decode cX12_goes 222 = .ok (.iconst 0, 1) := by decide +kernel
theorem dX12_goes_223 : decode cX12_goes 223 = .ok (.goto 17, 3) := by decide +kernel
theorem dX12_goes_226 : decode cX12_goes 226 = .ok (.aload_n 0, 1) := by decide +kernel
theorem dX12_goes_227 : decode cX12_goes 227 = .ok (.getfield 7, 3) := by decide +kernel
theorem dX12_goes_230 : decode cX12_goes 230 = .ok (.iload 4, 2) := by decide +kernel
theorem dX12_goes_232 : decode cX12_goes 232 = .ok (.iconst 1, 1) := by decide +kernel
theorem dX12_goes_233 : decode cX12_goes 233 = .ok (.invokestatic 73, 3) := by decide +kernel
theorem dX12_goes_236 : decode cX12_goes 236 = .ok (.iaload, 1) := by decide +kernel
theorem dX12_goes_237 : decode cX12_goes 237 = .ok (.bipush 10, 2) := by decide +kernel
theorem dX12_goes_239 : decode cX12_goes 239 = .ok (.idiv, 1) := by decide +kernel
theorem dX12_goes_240 : decode cX12_goes 240 = .ok (.iadd, 1) := by decide +kernel
theorem dX12_goes_241 : decode cX12_goes 241 = .ok (.iastore, 1) := by decide +kernel
theorem dX12_goes_242 : decode cX12_goes 242 = .ok (.iinc 4 1, 3) := by decide +kernel
theorem dX12_goes_245 : decode cX12_goes 245 = .ok (.goto (-134), 3) := by decide +kernel
theorem dX12_goes_248 : decode cX12_goes 248 = .ok (.aload_n 0, 1) := by decide +kernel
theorem dX12_goes_249 : decode cX12_goes 249 = .ok (.getfield 7, 3) := by decide +kernel
theorem dX12_goes_252 : decode cX12_goes 252 = .ok (.iconst 2, 1) := by decide +kernel
theorem dX12_goes_253 : decode cX12_goes 253 = .ok (.sipush 999, 3) := by decide +kernel
theorem dX12_goes_256 : decode cX12_goes 256 = .ok (.aload_n 0, 1) := by decide +kernel
theorem dX12_goes_257 : decode cX12_goes 257 = .ok (.getfield 7, 3) := by decide +kernel
theorem dX12_goes_260 : decode cX12_goes 260 = .ok (.iconst 2, 1) := by decide +kernel
theorem dX12_goes_261 : decode cX12_goes 261 = .ok (.iaload, 1) := by decide +kernel
theorem dX12_goes_262 : decode cX12_goes 262 = .ok (.invokestatic 209, 3) := by decide +kernel
theorem dX12_goes_265 : decode cX12_goes 265 = .ok (.iastore, 1) := by decide +kernel
theorem dX12_goes_266 : decode cX12_goes 266 = .ok (.aload_n 0, 1) := by decide +kernel
theorem dX12_goes_267 : decode cX12_goes 267 = .ok (.getfield 7, 3) := by decide +kernel
theorem dX12_goes_270 : decode cX12_goes 270 = .ok (.iconst 1, 1) := by decide +kernel
theorem dX12_goes_271 : decode cX12_goes 271 = .ok (.dup2, 1) := by decide +kernel
theorem dX12_goes_272 : decode cX12_goes 272 = .ok (.iaload, 1) := by decide +kernel
theorem dX12_goes_273 : decode cX12_goes 273 = .ok (.iconst 1, 1) := by decide +kernel
theorem dX12_goes_274 : decode cX12_goes 274 = .ok (.iadd, 1) := by decide +kernel
theorem dX12_goes_275 : decode cX12_goes 275 = .ok (.iastore, 1) := by decide +kernel
theorem dX12_goes_276 : decode cX12_goes 276 = .ok (.iload_n 3, 1) := by decide +kernel
theorem dX12_goes_277 : decode cX12_goes 277 = .ok (.ireturn, 1) := by decide +kernel
theorem dX12_holdsRow_0 : decode cX12_holdsRow 0 = .ok (.iconst 0, 1) := by decide +kernel
theorem dX12_holdsRow_1 : decode cX12_holdsRow 1 = .ok (.istore_n 1, 1) := by decide +kernel
theorem dX12_holdsRow_2 : decode cX12_holdsRow 2 = .ok (.iload_n 1, 1) := by decide +kernel
theorem dX12_holdsRow_3 : decode cX12_holdsRow 3 = .ok (.sipush 259, 3) := by decide +kernel
theorem dX12_holdsRow_6 : decode cX12_holdsRow 6 = .ok (.if_icmp .ge 21, 3) := by decide +kernel
theorem dX12_holdsRow_9 : decode cX12_holdsRow 9 = .ok (.aload_n 0, 1) := by decide +kernel
theorem dX12_holdsRow_10 : decode cX12_holdsRow 10 = .ok (.getfield 23, 3) := by decide +kernel
theorem dX12_holdsRow_13 : decode cX12_holdsRow 13 = .ok (.iload_n 1, 1) := by decide +kernel
theorem dX12_holdsRow_14 : decode cX12_holdsRow 14 = .ok (.aload_n 0, 1) := by decide +kernel
theorem dX12_holdsRow_15 : decode cX12_holdsRow 15 = .ok (.getfield 7, 3) := by decide +kernel
theorem dX12_holdsRow_18 : decode cX12_holdsRow 18 = .ok (.iload_n 1, 1) := by decide +kernel
theorem dX12_holdsRow_19 : decode cX12_holdsRow 19 = .ok (.iaload, 1) := by decide +kernel
theorem dX12_holdsRow_20 : decode cX12_holdsRow 20 = .ok (.iastore, 1) := by decide +kernel
theorem dX12_holdsRow_21 : decode cX12_holdsRow 21 = .ok (.iinc 1 1, 3) := by decide +kernel
theorem dX12_holdsRow_24 : decode cX12_holdsRow 24 = .ok (.goto (-22), 3) := by decide +kernel
theorem dX12_holdsRow_27 : decode cX12_holdsRow 27 = .ok (.return_, 1) := by decide +kernel
theorem dX12_laysBack_0 : decode cX12_laysBack 0 = .ok (.iconst 0, 1) := by decide +kernel
theorem dX12_laysBack_1 : decode cX12_laysBack 1 = .ok (.istore_n 1, 1) := by decide +kernel
theorem dX12_laysBack_2 : decode cX12_laysBack 2 = .ok (.iload_n 1, 1) := by decide +kernel
theorem dX12_laysBack_3 : decode cX12_laysBack 3 = .ok (.sipush 259, 3) := by decide +kernel
theorem dX12_laysBack_6 : decode cX12_laysBack 6 = .ok (.if_icmp .ge 21, 3) := by decide +kernel
theorem dX12_laysBack_9 : decode cX12_laysBack 9 = .ok (.aload_n 0, 1) := by decide +kernel
theorem dX12_laysBack_10 : decode cX12_laysBack 10 = .ok (.getfield 7, 3) := by decide +kernel
theorem dX12_laysBack_13 : decode cX12_laysBack 13 = .ok (.iload_n 1, 1) := by decide +kernel
theorem dX12_laysBack_14 : decode cX12_laysBack 14 = .ok (.aload_n 0, 1) := by decide +kernel
theorem dX12_laysBack_15 : decode cX12_laysBack 15 = .ok (.getfield 23, 3) := by decide +kernel
theorem dX12_laysBack_18 : decode cX12_laysBack 18 = .ok (.iload_n 1, 1) := by decide +kernel
theorem dX12_laysBack_19 : decode cX12_laysBack 19 = .ok (.iaload, 1) := by decide +kernel
theorem dX12_laysBack_20 : decode cX12_laysBack 20 = .ok (.iastore, 1) := by decide +kernel
theorem dX12_laysBack_21 : decode cX12_laysBack 21 = .ok (.iinc 1 1, 3) := by decide +kernel
theorem dX12_laysBack_24 : decode cX12_laysBack 24 = .ok (.goto (-22), 3) := by decide +kernel
theorem dX12_laysBack_27 : decode cX12_laysBack 27 = .ok (.return_, 1) := by decide +kernel
theorem dX12_remembers_0 : decode cX12_remembers 0 = .ok (.aload_n 0, 1) := by decide +kernel
theorem dX12_remembers_1 : decode cX12_remembers 1 = .ok (.getfield 7, 3) := by decide +kernel
theorem dX12_remembers_4 : decode cX12_remembers 4 = .ok (.bipush 6, 2) := by decide +kernel
theorem dX12_remembers_6 : decode cX12_remembers 6 = .ok (.iaload, 1) := by decide +kernel
theorem dX12_remembers_7 : decode cX12_remembers 7 = .ok (.bipush 6, 2) := by decide +kernel
theorem dX12_remembers_9 : decode cX12_remembers 9 = .ok (.if_icmp .ne 49, 3) := by decide +kernel
theorem dX12_remembers_12 : decode cX12_remembers 12 = .ok (.iconst 0, 1) := by decide +kernel
theorem dX12_remembers_13 : decode cX12_remembers 13 = .ok (.istore_n 1, 1) := by decide +kernel
theorem dX12_remembers_14 : decode cX12_remembers 14 = .ok (.iload_n 1, 1) := by decide +kernel
theorem dX12_remembers_15 : decode cX12_remembers 15 = .ok (.bipush 120, 2) := by decide +kernel
theorem dX12_remembers_17 : decode cX12_remembers 17 = .ok (.if_icmp .ge 30, 3) := by decide +kernel
theorem dX12_remembers_20 : decode cX12_remembers 20 = .ok (.aload_n 0, 1) := by decide +kernel
theorem dX12_remembers_21 : decode cX12_remembers 21 = .ok (.getfield 7, 3) := by decide +kernel
theorem dX12_remembers_24 : decode cX12_remembers 24 = .ok (.bipush 115, 2) := by decide +kernel
theorem dX12_remembers_26 : decode cX12_remembers 26 = .ok (.iload_n 1, 1) := by decide +kernel
theorem dX12_remembers_27 : decode cX12_remembers 27 = .ok (.iadd, 1) := by decide +kernel
theorem dX12_remembers_28 : decode cX12_remembers 28 = .ok (.aload_n 0, 1) := by decide +kernel
theorem dX12_remembers_29 : decode cX12_remembers 29 = .ok (.getfield 7, 3) := by decide +kernel
theorem dX12_remembers_32 : decode cX12_remembers 32 = .ok (.bipush 115, 2) := by decide +kernel
theorem dX12_remembers_34 : decode cX12_remembers 34 = .ok (.iload_n 1, 1) := by decide +kernel
theorem dX12_remembers_35 : decode cX12_remembers 35 = .ok (.iadd, 1) := by decide +kernel
theorem dX12_remembers_36 : decode cX12_remembers 36 = .ok (.bipush 24, 2) := by decide +kernel
theorem dX12_remembers_38 : decode cX12_remembers 38 = .ok (.iadd, 1) := by decide +kernel
theorem dX12_remembers_39 : decode cX12_remembers 39 = .ok (.iaload, 1) := by decide +kernel
theorem dX12_remembers_40 : decode cX12_remembers 40 = .ok (.iastore, 1) := by decide +kernel
theorem dX12_remembers_41 : decode cX12_remembers 41 = .ok (.iinc 1 1, 3) := by decide +kernel
theorem dX12_remembers_44 : decode cX12_remembers 44 = .ok (.goto (-30), 3) := by decide +kernel
theorem dX12_remembers_47 : decode cX12_remembers 47 = .ok (.aload_n 0, 1) := by decide +kernel
theorem dX12_remembers_48 : decode cX12_remembers 48 = .ok (.getfield 7, 3) := by decide +kernel
theorem dX12_remembers_51 : decode cX12_remembers 51 = .ok (.bipush 6, 2) := by decide +kernel
theorem dX12_remembers_53 : decode cX12_remembers 53 = .ok (.dup2, 1) := by decide +kernel
theorem dX12_remembers_54 : decode cX12_remembers 54 = .ok (.iaload, 1) := by decide +kernel
theorem dX12_remembers_55 : decode cX12_remembers 55 = .ok (.iconst 1, 1) := by decide +kernel
theorem dX12_remembers_56 : decode cX12_remembers 56 = .ok (.isub, 1) := by decide +kernel
theorem dX12_remembers_57 : decode cX12_remembers 57 = .ok (.iastore, 1) := by decide +kernel
theorem dX12_remembers_58 : decode cX12_remembers 58 = .ok (.bipush 115, 2) := by decide +kernel
theorem dX12_remembers_60 : decode cX12_remembers 60 = .ok (.bipush 24, 2) := by decide +kernel
theorem dX12_remembers_62 : decode cX12_remembers 62 = .ok (.aload_n 0, 1) := by decide +kernel
theorem dX12_remembers_63 : decode cX12_remembers 63 = .ok (.getfield 7, 3) := by decide +kernel
theorem dX12_remembers_66 : decode cX12_remembers 66 = .ok (.bipush 6, 2) := by decide +kernel
theorem dX12_remembers_68 : decode cX12_remembers 68 = .ok (.iaload, 1) := by decide +kernel
theorem dX12_remembers_69 : decode cX12_remembers 69 = .ok (.imul, 1) := by decide +kernel
theorem dX12_remembers_70 : decode cX12_remembers 70 = .ok (.iadd, 1) := by decide +kernel
theorem dX12_remembers_71 : decode cX12_remembers 71 = .ok (.istore_n 1, 1) := by decide +kernel
theorem dX12_remembers_72 : decode cX12_remembers 72 = .ok (.aload_n 0, 1) := by decide +kernel
theorem dX12_remembers_73 : decode cX12_remembers 73 = .ok (.getfield 7, 3) := by decide +kernel
theorem dX12_remembers_76 : decode cX12_remembers 76 = .ok (.iload_n 1, 1) := by decide +kernel
theorem dX12_remembers_77 : decode cX12_remembers 77 = .ok (.aload_n 0, 1) := by decide +kernel
theorem dX12_remembers_78 : decode cX12_remembers 78 = .ok (.getfield 7, 3) := by decide +kernel
theorem dX12_remembers_81 : decode cX12_remembers 81 = .ok (.iconst 1, 1) := by decide +kernel
theorem dX12_remembers_82 : decode cX12_remembers 82 = .ok (.iaload, 1) := by decide +kernel
theorem dX12_remembers_83 : decode cX12_remembers 83 = .ok (.iastore, 1) := by decide +kernel
theorem dX12_remembers_84 : decode cX12_remembers 84 = .ok (.aload_n 0, 1) := by decide +kernel
theorem dX12_remembers_85 : decode cX12_remembers 85 = .ok (.getfield 7, 3) := by decide +kernel
theorem dX12_remembers_88 : decode cX12_remembers 88 = .ok (.iload_n 1, 1) := by decide +kernel
theorem dX12_remembers_89 : decode cX12_remembers 89 = .ok (.iconst 1, 1) := by decide +kernel
theorem dX12_remembers_90 : decode cX12_remembers 90 = .ok (.iadd, 1) := by decide +kernel
theorem dX12_remembers_91 : decode cX12_remembers 91 = .ok (.aload_n 0, 1) := by decide +kernel
theorem dX12_remembers_92 : decode cX12_remembers 92 = .ok (.getfield 7, 3) := by decide +kernel
theorem dX12_remembers_95 : decode cX12_remembers 95 = .ok (.iconst 2, 1) := by decide +kernel
theorem dX12_remembers_96 : decode cX12_remembers 96 = .ok (.iaload, 1) := by decide +kernel
theorem dX12_remembers_97 : decode cX12_remembers 97 = .ok (.iastore, 1) := by decide +kernel
theorem dX12_remembers_98 : decode cX12_remembers 98 = .ok (.iconst 0, 1) := by decide +kernel
theorem dX12_remembers_99 : decode cX12_remembers 99 = .ok (.istore_n 2, 1) := by decide +kernel
theorem dX12_remembers_100 : decode cX12_remembers 100 = .ok (.iload_n 2, 1) := by decide +kernel
theorem dX12_remembers_101 : decode cX12_remembers 101 = .ok (.bipush 8, 2) := by decide +kernel
theorem dX12_remembers_103 : decode cX12_remembers 103 = .ok (.if_icmp .ge 50, 3) := by decide +kernel
theorem dX12_remembers_106 : decode cX12_remembers 106 = .ok (.aload_n 0, 1) := by decide +kernel
theorem dX12_remembers_107 : decode cX12_remembers 107 = .ok (.getfield 7, 3) := by decide +kernel
theorem dX12_remembers_110 : decode cX12_remembers 110 = .ok (.iload_n 1, 1) := by decide +kernel
theorem dX12_remembers_111 : decode cX12_remembers 111 = .ok (.iconst 2, 1) := by decide +kernel
theorem dX12_remembers_112 : decode cX12_remembers 112 = .ok (.iadd, 1) := by decide +kernel
theorem dX12_remembers_113 : decode cX12_remembers 113 = .ok (.iload_n 2, 1) := by decide +kernel
theorem dX12_remembers_114 : decode cX12_remembers 114 = .ok (.iadd, 1) := by decide +kernel
theorem dX12_remembers_115 : decode cX12_remembers 115 = .ok (.aload_n 0, 1) := by decide +kernel
theorem dX12_remembers_116 : decode cX12_remembers 116 = .ok (.getfield 7, 3) := by decide +kernel
theorem dX12_remembers_119 : decode cX12_remembers 119 = .ok (.iload_n 2, 1) := by decide +kernel
theorem dX12_remembers_120 : decode cX12_remembers 120 = .ok (.iconst 3, 1) := by decide +kernel
theorem dX12_remembers_121 : decode cX12_remembers 121 = .ok (.invokestatic 73, 3) := by decide +kernel
theorem dX12_remembers_124 : decode cX12_remembers 124 = .ok (.iaload, 1) := by decide +kernel
theorem dX12_remembers_125 : decode cX12_remembers 125 = .ok (.iastore, 1) := by decide +kernel
theorem dX12_remembers_126 : decode cX12_remembers 126 = .ok (.aload_n 0, 1) := by decide +kernel
theorem dX12_remembers_127 : decode cX12_remembers 127 = .ok (.getfield 7, 3) := by decide +kernel
theorem dX12_remembers_130 : decode cX12_remembers 130 = .ok (.iload_n 1, 1) := by decide +kernel
theorem dX12_remembers_131 : decode cX12_remembers 131 = .ok (.bipush 10, 2) := by decide +kernel
theorem dX12_remembers_133 : decode cX12_remembers 133 = .ok (.iadd, 1) := by decide +kernel
theorem dX12_remembers_134 : decode cX12_remembers 134 = .ok (.iload_n 2, 1) := by decide +kernel
theorem dX12_remembers_135 : decode cX12_remembers 135 = .ok (.iadd, 1) := by decide +kernel
theorem dX12_remembers_136 : decode cX12_remembers 136 = .ok (.aload_n 0, 1) := by decide +kernel
theorem dX12_remembers_137 : decode cX12_remembers 137 = .ok (.getfield 7, 3) := by decide +kernel
theorem dX12_remembers_140 : decode cX12_remembers 140 = .ok (.iload_n 2, 1) := by decide +kernel
theorem dX12_remembers_141 : decode cX12_remembers 141 = .ok (.iconst 4, 1) := by decide +kernel
theorem dX12_remembers_142 : decode cX12_remembers 142 = .ok (.invokestatic 73, 3) := by decide +kernel
theorem dX12_remembers_145 : decode cX12_remembers 145 = .ok (.iaload, 1) := by decide +kernel
theorem dX12_remembers_146 : decode cX12_remembers 146 = .ok (.iastore, 1) := by decide +kernel
theorem dX12_remembers_147 : decode cX12_remembers 147 = .ok (.iinc 2 1, 3) := by decide +kernel
theorem dX12_remembers_150 : decode cX12_remembers 150 = .ok (.goto (-50), 3) := by decide +kernel
theorem dX12_remembers_153 : decode cX12_remembers 153 = .ok (.iconst 0, 1) := by decide +kernel
theorem dX12_remembers_154 : decode cX12_remembers 154 = .ok (.istore_n 2, 1) := by decide +kernel
theorem dX12_remembers_155 : decode cX12_remembers 155 = .ok (.iload_n 2, 1) := by decide +kernel
theorem dX12_remembers_156 : decode cX12_remembers 156 = .ok (.bipush 6, 2) := by decide +kernel
theorem dX12_remembers_158 : decode cX12_remembers 158 = .ok (.if_icmp .ge 31, 3) := by decide +kernel
theorem dX12_remembers_161 : decode cX12_remembers 161 = .ok (.aload_n 0, 1) := by decide +kernel
theorem dX12_remembers_162 : decode cX12_remembers 162 = .ok (.getfield 7, 3) := by decide +kernel
theorem dX12_remembers_165 : decode cX12_remembers 165 = .ok (.iload_n 1, 1) := by decide +kernel
theorem dX12_remembers_166 : decode cX12_remembers 166 = .ok (.bipush 18, 2) := by decide +kernel
theorem dX12_remembers_168 : decode cX12_remembers 168 = .ok (.iadd, 1) := by decide +kernel
theorem dX12_remembers_169 : decode cX12_remembers 169 = .ok (.iload_n 2, 1) := by decide +kernel
theorem dX12_remembers_170 : decode cX12_remembers 170 = .ok (.iadd, 1) := by decide +kernel
theorem dX12_remembers_171 : decode cX12_remembers 171 = .ok (.aload_n 0, 1) := by decide +kernel
theorem dX12_remembers_172 : decode cX12_remembers 172 = .ok (.getfield 7, 3) := by decide +kernel
theorem dX12_remembers_175 : decode cX12_remembers 175 = .ok (.iload_n 2, 1) := by decide +kernel
theorem dX12_remembers_176 : decode cX12_remembers 176 = .ok (.bipush 6, 2) := by decide +kernel
theorem dX12_remembers_178 : decode cX12_remembers 178 = .ok (.invokestatic 96, 3) := by decide +kernel
theorem dX12_remembers_181 : decode cX12_remembers 181 = .ok (.iaload, 1) := by decide +kernel
theorem dX12_remembers_182 : decode cX12_remembers 182 = .ok (.iastore, 1) := by decide +kernel
theorem dX12_remembers_183 : decode cX12_remembers 183 = .ok (.iinc 2 1, 3) := by decide +kernel
theorem dX12_remembers_186 : decode cX12_remembers 186 = .ok (.goto (-31), 3) := by decide +kernel
theorem dX12_remembers_189 : decode cX12_remembers 189 = .ok (.aload_n 0, 1) := by decide +kernel
theorem dX12_remembers_190 : decode cX12_remembers 190 = .ok (.getfield 7, 3) := by decide +kernel
theorem dX12_remembers_193 : decode cX12_remembers 193 = .ok (.bipush 6, 2) := by decide +kernel
theorem dX12_remembers_195 : decode cX12_remembers 195 = .ok (.dup2, 1) := by decide +kernel
theorem dX12_remembers_196 : decode cX12_remembers 196 = .ok (.iaload, 1) := by decide +kernel
theorem dX12_remembers_197 : decode cX12_remembers 197 = .ok (.iconst 1, 1) := by decide +kernel
theorem dX12_remembers_198 : decode cX12_remembers 198 = .ok (.iadd, 1) := by decide +kernel
theorem dX12_remembers_199 : decode cX12_remembers 199 = .ok (.iastore, 1) := by decide +kernel
theorem dX12_remembers_200 : decode cX12_remembers 200 = .ok (.return_, 1) := by decide +kernel
theorem dX12_year_0 : decode cX12_year 0 = .ok (.iload_n 1, 1) := by decide +kernel
theorem dX12_year_1 : decode cX12_year 1 = .ok (.i2l, 1) := by decide +kernel
theorem dX12_year_2 : decode cX12_year 2 = .ok (.lconst 1, 1) := by decide +kernel
theorem dX12_year_3 : decode cX12_year 3 = .ok (.ldc2_w 67, 3) := by decide +kernel
theorem dX12_year_6 : decode cX12_year 6 = .ok (.invokestatic 53, 3) := by decide +kernel
theorem dX12_year_9 : decode cX12_year 9 = .ok (.ifCond .ne 8, 3) := by decide +kernel
theorem dX12_year_12 : decode cX12_year 12 = .ok (.aload_n 0, 1) := by decide +kernel
theorem dX12_year_13 : decode cX12_year 13 = .ok (.invokevirtual 59, 3) := by decide +kernel
theorem dX12_year_16 : decode cX12_year 16 = .ok (.ireturn, 1) := by decide +kernel
theorem dX12_year_17 : decode cX12_year 17 = .ok (.aload_n 0, 1) := by decide +kernel
theorem dX12_year_18 : decode cX12_year 18 = .ok (.getfield 7, 3) := by decide +kernel
theorem dX12_year_21 : decode cX12_year 21 = .ok (.iconst 1, 1) := by decide +kernel
theorem dX12_year_22 : decode cX12_year 22 = .ok (.iaload, 1) := by decide +kernel
theorem dX12_year_23 : decode cX12_year 23 = .ok (.sipush 900, 3) := by decide +kernel
theorem dX12_year_26 : decode cX12_year 26 = .ok (.if_icmp .le 8, 3) := by decide +kernel
theorem dX12_year_29 : decode cX12_year 29 = .ok (.aload_n 0, 1) := by decide +kernel
theorem dX12_year_30 : decode cX12_year 30 = .ok (.invokevirtual 102, 3) := by decide +kernel
theorem dX12_year_33 : decode cX12_year 33 = .ok (.ireturn, 1) := by decide +kernel
theorem dX12_year_34 : decode cX12_year 34 = .ok (.iconst 0, 1) := by decide +kernel
theorem dX12_year_35 : decode cX12_year 35 = .ok (.istore_n 2, 1) := by decide +kernel
theorem dX12_year_36 : decode cX12_year 36 = .ok (.iload_n 2, 1) := by decide +kernel
theorem dX12_year_37 : decode cX12_year 37 = .ok (.iload_n 1, 1) := by decide +kernel
theorem dX12_year_38 : decode cX12_year 38 = .ok (.if_icmp .ge 28, 3) := by decide +kernel
theorem dX12_year_41 : decode cX12_year 41 = .ok (.aload_n 0, 1) := by decide +kernel
theorem dX12_year_42 : decode cX12_year 42 = .ok (.invokevirtual 212, 3) := by decide +kernel
theorem dX12_year_45 : decode cX12_year 45 = .ok (.aload_n 0, 1) := by decide +kernel
theorem dX12_year_46 : decode cX12_year 46 = .ok (.aload_n 0, 1) := by decide +kernel
theorem dX12_year_47 : decode cX12_year 47 = .ok (.aload_n 0, 1) := by decide +kernel
theorem dX12_year_48 : decode cX12_year 48 = .ok (.getfield 7, 3) := by decide +kernel
theorem dX12_year_51 : decode cX12_year 51 = .ok (.iconst 1, 1) := by decide +kernel
theorem dX12_year_52 : decode cX12_year 52 = .ok (.iaload, 1) := by decide +kernel
theorem dX12_year_53 : decode cX12_year 53 = .ok (.invokevirtual 215, 3) := by decide +kernel
theorem dX12_year_56 : decode cX12_year 56 = .ok (.invokevirtual 218, 3) := by decide +kernel
theorem dX12_year_59 : decode cX12_year 59 = .ok (.pop, 1) := by decide +kernel
theorem dX12_year_60 : decode cX12_year 60 = .ok (.iinc 2 1, 3) := by decide +kernel
theorem dX12_year_63 : decode cX12_year 63 = .ok (.goto (-27), 3) := by decide +kernel
theorem dX12_year_66 : decode cX12_year 66 = .ok (.aload_n 0, 1) := by decide +kernel
theorem dX12_year_67 : decode cX12_year 67 = .ok (.getfield 7, 3) := by decide +kernel
theorem dX12_year_70 : decode cX12_year 70 = .ok (.iconst 2, 1) := by decide +kernel
theorem dX12_year_71 : decode cX12_year 71 = .ok (.iaload, 1) := by decide +kernel
theorem dX12_year_72 : decode cX12_year 72 = .ok (.ireturn, 1) := by decide +kernel
theorem dX12_undo_0 : decode cX12_undo 0 = .ok (.aload_n 0, 1) := by decide +kernel
theorem dX12_undo_1 : decode cX12_undo 1 = .ok (.getfield 7, 3) := by decide +kernel
theorem dX12_undo_4 : decode cX12_undo 4 = .ok (.bipush 6, 2) := by decide +kernel
theorem dX12_undo_6 : decode cX12_undo 6 = .ok (.iaload, 1) := by decide +kernel
theorem dX12_undo_7 : decode cX12_undo 7 = .ok (.ifCond .ne 8, 3) := by decide +kernel
theorem dX12_undo_10 : decode cX12_undo 10 = .ok (.aload_n 0, 1) := by decide +kernel
theorem dX12_undo_11 : decode cX12_undo 11 = .ok (.invokevirtual 102, 3) := by decide +kernel
theorem dX12_undo_14 : decode cX12_undo 14 = .ok (.ireturn, 1) := by decide +kernel
theorem dX12_undo_15 : decode cX12_undo 15 = .ok (.aload_n 0, 1) := by decide +kernel
theorem dX12_undo_16 : decode cX12_undo 16 = .ok (.getfield 7, 3) := by decide +kernel
theorem dX12_undo_19 : decode cX12_undo 19 = .ok (.bipush 6, 2) := by decide +kernel
theorem dX12_undo_21 : decode cX12_undo 21 = .ok (.dup2, 1) := by decide +kernel
theorem dX12_undo_22 : decode cX12_undo 22 = .ok (.iaload, 1) := by decide +kernel
theorem dX12_undo_23 : decode cX12_undo 23 = .ok (.iconst 1, 1) := by decide +kernel
theorem dX12_undo_24 : decode cX12_undo 24 = .ok (.isub, 1) := by decide +kernel
theorem dX12_undo_25 : decode cX12_undo 25 = .ok (.iastore, 1) := by decide +kernel
theorem dX12_undo_26 : decode cX12_undo 26 = .ok (.bipush 115, 2) := by decide +kernel
theorem dX12_undo_28 : decode cX12_undo 28 = .ok (.bipush 24, 2) := by decide +kernel
theorem dX12_undo_30 : decode cX12_undo 30 = .ok (.aload_n 0, 1) := by decide +kernel
theorem dX12_undo_31 : decode cX12_undo 31 = .ok (.getfield 7, 3) := by decide +kernel
theorem dX12_undo_34 : decode cX12_undo 34 = .ok (.bipush 6, 2) := by decide +kernel
theorem dX12_undo_36 : decode cX12_undo 36 = .ok (.iaload, 1) := by decide +kernel
theorem dX12_undo_37 : decode cX12_undo 37 = .ok (.imul, 1) := by decide +kernel
theorem dX12_undo_38 : decode cX12_undo 38 = .ok (.iadd, 1) := by decide +kernel
theorem dX12_undo_39 : decode cX12_undo 39 = .ok (.istore_n 1, 1) := by decide +kernel
theorem dX12_undo_40 : decode cX12_undo 40 = .ok (.aload_n 0, 1) := by decide +kernel
theorem dX12_undo_41 : decode cX12_undo 41 = .ok (.getfield 7, 3) := by decide +kernel
theorem dX12_undo_44 : decode cX12_undo 44 = .ok (.iconst 1, 1) := by decide +kernel
theorem dX12_undo_45 : decode cX12_undo 45 = .ok (.aload_n 0, 1) := by decide +kernel
theorem dX12_undo_46 : decode cX12_undo 46 = .ok (.getfield 7, 3) := by decide +kernel
theorem dX12_undo_49 : decode cX12_undo 49 = .ok (.iload_n 1, 1) := by decide +kernel
theorem dX12_undo_50 : decode cX12_undo 50 = .ok (.iaload, 1) := by decide +kernel
theorem dX12_undo_51 : decode cX12_undo 51 = .ok (.iastore, 1) := by decide +kernel
theorem dX12_undo_52 : decode cX12_undo 52 = .ok (.aload_n 0, 1) := by decide +kernel
theorem dX12_undo_53 : decode cX12_undo 53 = .ok (.getfield 7, 3) := by decide +kernel
theorem dX12_undo_56 : decode cX12_undo 56 = .ok (.iconst 2, 1) := by decide +kernel
theorem dX12_undo_57 : decode cX12_undo 57 = .ok (.aload_n 0, 1) := by decide +kernel
theorem dX12_undo_58 : decode cX12_undo 58 = .ok (.getfield 7, 3) := by decide +kernel
theorem dX12_undo_61 : decode cX12_undo 61 = .ok (.iload_n 1, 1) := by decide +kernel
theorem dX12_undo_62 : decode cX12_undo 62 = .ok (.iconst 1, 1) := by decide +kernel
theorem dX12_undo_63 : decode cX12_undo 63 = .ok (.iadd, 1) := by decide +kernel
theorem dX12_undo_64 : decode cX12_undo 64 = .ok (.iaload, 1) := by decide +kernel
theorem dX12_undo_65 : decode cX12_undo 65 = .ok (.iastore, 1) := by decide +kernel
theorem dX12_undo_66 : decode cX12_undo 66 = .ok (.iconst 0, 1) := by decide +kernel
theorem dX12_undo_67 : decode cX12_undo 67 = .ok (.istore_n 2, 1) := by decide +kernel
theorem dX12_undo_68 : decode cX12_undo 68 = .ok (.iload_n 2, 1) := by decide +kernel
theorem dX12_undo_69 : decode cX12_undo 69 = .ok (.bipush 8, 2) := by decide +kernel
theorem dX12_undo_71 : decode cX12_undo 71 = .ok (.if_icmp .ge 50, 3) := by decide +kernel
theorem dX12_undo_74 : decode cX12_undo 74 = .ok (.aload_n 0, 1) := by decide +kernel
theorem dX12_undo_75 : decode cX12_undo 75 = .ok (.getfield 7, 3) := by decide +kernel
theorem dX12_undo_78 : decode cX12_undo 78 = .ok (.iload_n 2, 1) := by decide +kernel
theorem dX12_undo_79 : decode cX12_undo 79 = .ok (.iconst 3, 1) := by decide +kernel
theorem dX12_undo_80 : decode cX12_undo 80 = .ok (.invokestatic 73, 3) := by decide +kernel
theorem dX12_undo_83 : decode cX12_undo 83 = .ok (.aload_n 0, 1) := by decide +kernel
theorem dX12_undo_84 : decode cX12_undo 84 = .ok (.getfield 7, 3) := by decide +kernel
theorem dX12_undo_87 : decode cX12_undo 87 = .ok (.iload_n 1, 1) := by decide +kernel
theorem dX12_undo_88 : decode cX12_undo 88 = .ok (.iconst 2, 1) := by decide +kernel
theorem dX12_undo_89 : decode cX12_undo 89 = .ok (.iadd, 1) := by decide +kernel
theorem dX12_undo_90 : decode cX12_undo 90 = .ok (.iload_n 2, 1) := by decide +kernel
theorem dX12_undo_91 : decode cX12_undo 91 = .ok (.iadd, 1) := by decide +kernel
theorem dX12_undo_92 : decode cX12_undo 92 = .ok (.iaload, 1) := by decide +kernel
theorem dX12_undo_93 : decode cX12_undo 93 = .ok (.iastore, 1) := by decide +kernel
theorem dX12_undo_94 : decode cX12_undo 94 = .ok (.aload_n 0, 1) := by decide +kernel
theorem dX12_undo_95 : decode cX12_undo 95 = .ok (.getfield 7, 3) := by decide +kernel
theorem dX12_undo_98 : decode cX12_undo 98 = .ok (.iload_n 2, 1) := by decide +kernel
theorem dX12_undo_99 : decode cX12_undo 99 = .ok (.iconst 4, 1) := by decide +kernel
theorem dX12_undo_100 : decode cX12_undo 100 = .ok (.invokestatic 73, 3) := by decide +kernel
theorem dX12_undo_103 : decode cX12_undo 103 = .ok (.aload_n 0, 1) := by decide +kernel
theorem dX12_undo_104 : decode cX12_undo 104 = .ok (.getfield 7, 3) := by decide +kernel
theorem dX12_undo_107 : decode cX12_undo 107 = .ok (.iload_n 1, 1) := by decide +kernel
theorem dX12_undo_108 : decode cX12_undo 108 = .ok (.bipush 10, 2) := by decide +kernel
theorem dX12_undo_110 : decode cX12_undo 110 = .ok (.iadd, 1) := by decide +kernel
