theorem dX7_isSo_152 : decode cX7_isSo 152 = .ok (.goto (-122), 3) := by decide +kernel
theorem dX7_isSo_155 : decode cX7_isSo 155 = .ok (.iload_n 1, 1) := by decide +kernel
theorem dX7_isSo_156 : decode cX7_isSo 156 = .ok (.ireturn, 1) := by decide +kernel
theorem dX7_plots_0 : decode cX7_plots 0 = .ok (.aload_n 0, 1) := by decide +kernel
theorem dX7_plots_1 : decode cX7_plots 1 = .ok (.iload_n 1, 1) := by decide +kernel
theorem dX7_plots_2 : decode cX7_plots 2 = .ok (.invokevirtual 133, 3) := by decide +kernel
theorem dX7_plots_5 : decode cX7_plots 5 = .ok (.ifCond .ne 5, 3) := by decide +kernel
theorem dX7_plots_8 : decode cX7_plots 8 = .ok (.iconst (-1), 1) := by decide +kernel
theorem dX7_plots_9 : decode cX7_plots 9 = .ok (.ireturn, 1) := by decide +kernel
theorem dX7_plots_10 : decode cX7_plots 10 = .ok (.iconst 0, 1) := by decide +kernel
theorem dX7_plots_11 : decode cX7_plots 11 = .ok (.istore_n 2, 1) := by decide +kernel
theorem dX7_plots_12 : decode cX7_plots 12 = .ok (.aload_n 0, 1) := by decide +kernel
theorem dX7_plots_13 : decode cX7_plots 13 = .ok (.invokevirtual 153, 3) := by decide +kernel
theorem dX7_plots_16 : decode cX7_plots 16 = .ok (.iconst 0, 1) := by decide +kernel
theorem dX7_plots_17 : decode cX7_plots 17 = .ok (.istore_n 3, 1) := by decide +kernel
theorem dX7_plots_18 : decode cX7_plots 18 = .ok (.iload_n 3, 1) := by decide +kernel
theorem dX7_plots_19 : decode cX7_plots 19 = .ok (.aload_n 0, 1) := by decide +kernel
theorem dX7_plots_20 : decode cX7_plots 20 = .ok (.getfield 13, 3) := by decide +kernel
theorem dX7_plots_23 : decode cX7_plots 23 = .ok (.iconst 0, 1) := by decide +kernel
theorem dX7_plots_24 : decode cX7_plots 24 = .ok (.iaload, 1) := by decide +kernel
theorem dX7_plots_25 : decode cX7_plots 25 = .ok (.if_icmp .ge 42, 3) := by decide +kernel
theorem dX7_plots_28 : decode cX7_plots 28 = .ok (.aload_n 0, 1) := by decide +kernel
theorem dX7_plots_29 : decode cX7_plots 29 = .ok (.iload_n 1, 1) := by decide +kernel
theorem dX7_plots_30 : decode cX7_plots 30 = .ok (.invokevirtual 136, 3) := by decide +kernel
theorem dX7_plots_33 : decode cX7_plots 33 = .ok (.pop, 1) := by decide +kernel
theorem dX7_plots_34 : decode cX7_plots 34 = .ok (.aload_n 0, 1) := by decide +kernel
theorem dX7_plots_35 : decode cX7_plots 35 = .ok (.iload_n 1, 1) := by decide +kernel
theorem dX7_plots_36 : decode cX7_plots 36 = .ok (.iload_n 3, 1) := by decide +kernel
theorem dX7_plots_37 : decode cX7_plots 37 = .ok (.invokevirtual 95, 3) := by decide +kernel
theorem dX7_plots_40 : decode cX7_plots 40 = .ok (.iload_n 2, 1) := by decide +kernel
theorem dX7_plots_41 : decode cX7_plots 41 = .ok (.aload_n 0, 1) := by decide +kernel
theorem dX7_plots_42 : decode cX7_plots 42 = .ok (.invokevirtual 180, 3) := by decide +kernel
theorem dX7_plots_45 : decode cX7_plots 45 = .ok (.ifCond .eq 9, 3) := by decide +kernel
theorem dX7_plots_48 : decode cX7_plots 48 = .ok (.iconst 1, 1) := by decide +kernel
theorem dX7_plots_49 : decode cX7_plots 49 = .ok (.iload_n 3, 1) := by decide +kernel
theorem dX7_plots_50 : decode cX7_plots 50 = .ok (.ishl, 1) := by decide +kernel
theorem dX7_plots_51 : decode cX7_plots 51 = .ok (.goto 4, 3) := by decide +kernel
theorem dX7_plots_54 : decode cX7_plots 54 = .ok (.iconst 0, 1) := by decide +kernel
theorem dX7_plots_55 : decode cX7_plots 55 = .ok (.ior, 1) := by decide +kernel
theorem dX7_plots_56 : decode cX7_plots 56 = .ok (.istore_n 2, 1) := by decide +kernel
theorem dX7_plots_57 : decode cX7_plots 57 = .ok (.aload_n 0, 1) := by decide +kernel
theorem dX7_plots_58 : decode cX7_plots 58 = .ok (.invokevirtual 118, 3) := by decide +kernel
theorem dX7_plots_61 : decode cX7_plots 61 = .ok (.iinc 3 1, 3) := by decide +kernel
theorem dX7_plots_64 : decode cX7_plots 64 = .ok (.goto (-46), 3) := by decide +kernel
theorem dX7_plots_67 : decode cX7_plots 67 = .ok (.iload_n 2, 1) := by decide +kernel
theorem dX7_plots_68 : decode cX7_plots 68 = .ok (.ireturn, 1) := by decide +kernel
theorem dX7_kinds_0 : decode cX7_kinds 0 = .ok (.aload_n 0, 1) := by decide +kernel
theorem dX7_kinds_1 : decode cX7_kinds 1 = .ok (.iload_n 1, 1) := by decide +kernel
theorem dX7_kinds_2 : decode cX7_kinds 2 = .ok (.invokevirtual 133, 3) := by decide +kernel
theorem dX7_kinds_5 : decode cX7_kinds 5 = .ok (.ifCond .ne 5, 3) := by decide +kernel
theorem dX7_kinds_8 : decode cX7_kinds 8 = .ok (.iconst (-1), 1) := by decide +kernel
theorem dX7_kinds_9 : decode cX7_kinds 9 = .ok (.ireturn, 1) := by decide +kernel
theorem dX7_kinds_10 : decode cX7_kinds 10 = .ok (.aload_n 0, 1) := by decide +kernel
theorem dX7_kinds_11 : decode cX7_kinds 11 = .ok (.getfield 13, 3) := by decide +kernel
theorem dX7_kinds_14 : decode cX7_kinds 14 = .ok (.iconst 2, 1) := by decide +kernel
theorem dX7_kinds_15 : decode cX7_kinds 15 = .ok (.iload_n 1, 1) := by decide +kernel
theorem dX7_kinds_16 : decode cX7_kinds 16 = .ok (.iadd, 1) := by decide +kernel
theorem dX7_kinds_17 : decode cX7_kinds 17 = .ok (.iaload, 1) := by decide +kernel
theorem dX7_kinds_18 : decode cX7_kinds 18 = .ok (.istore_n 2, 1) := by decide +kernel
theorem dX7_kinds_19 : decode cX7_kinds 19 = .ok (.iconst 0, 1) := by decide +kernel
theorem dX7_kinds_20 : decode cX7_kinds 20 = .ok (.istore_n 3, 1) := by decide +kernel
theorem dX7_kinds_21 : decode cX7_kinds 21 = .ok (.iconst 0, 1) := by decide +kernel
theorem dX7_kinds_22 : decode cX7_kinds 22 = .ok (.istore 4, 2) := by decide +kernel
theorem dX7_kinds_24 : decode cX7_kinds 24 = .ok (.iload 4, 2) := by decide +kernel
theorem dX7_kinds_26 : decode cX7_kinds 26 = .ok (.iconst 3, 1) := by decide +kernel
theorem dX7_kinds_27 : decode cX7_kinds 27 = .ok (.if_icmp .gt 37, 3) := by decide +kernel
theorem dX7_kinds_30 : decode cX7_kinds 30 = .ok (.aload_n 0, 1) := by decide +kernel
theorem dX7_kinds_31 : decode cX7_kinds 31 = .ok (.getfield 13, 3) := by decide +kernel
theorem dX7_kinds_34 : decode cX7_kinds 34 = .ok (.iconst 2, 1) := by decide +kernel
theorem dX7_kinds_35 : decode cX7_kinds 35 = .ok (.iload_n 1, 1) := by decide +kernel
theorem dX7_kinds_36 : decode cX7_kinds 36 = .ok (.iadd, 1) := by decide +kernel
theorem dX7_kinds_37 : decode cX7_kinds 37 = .ok (.iload 4, 2) := by decide +kernel
theorem dX7_kinds_39 : decode cX7_kinds 39 = .ok (.iastore, 1) := by decide +kernel
theorem dX7_kinds_40 : decode cX7_kinds 40 = .ok (.iload_n 3, 1) := by decide +kernel
theorem dX7_kinds_41 : decode cX7_kinds 41 = .ok (.aload_n 0, 1) := by decide +kernel
theorem dX7_kinds_42 : decode cX7_kinds 42 = .ok (.invokevirtual 180, 3) := by decide +kernel
theorem dX7_kinds_45 : decode cX7_kinds 45 = .ok (.ifCond .eq 10, 3) := by decide +kernel
theorem dX7_kinds_48 : decode cX7_kinds 48 = .ok (.iconst 1, 1) := by decide +kernel
theorem dX7_kinds_49 : decode cX7_kinds 49 = .ok (.iload 4, 2) := by decide +kernel
theorem dX7_kinds_51 : decode cX7_kinds 51 = .ok (.ishl, 1) := by decide +kernel
theorem dX7_kinds_52 : decode cX7_kinds 52 = .ok (.goto 4, 3) := by decide +kernel
theorem dX7_kinds_55 : decode cX7_kinds 55 = .ok (.iconst 0, 1) := by decide +kernel
theorem dX7_kinds_56 : decode cX7_kinds 56 = .ok (.ior, 1) := by decide +kernel
theorem dX7_kinds_57 : decode cX7_kinds 57 = .ok (.istore_n 3, 1) := by decide +kernel
theorem dX7_kinds_58 : decode cX7_kinds 58 = .ok (.iinc 4 1, 3) := by decide +kernel
theorem dX7_kinds_61 : decode cX7_kinds 61 = .ok (.goto (-37), 3) := by decide +kernel
theorem dX7_kinds_64 : decode cX7_kinds 64 = .ok (.aload_n 0, 1) := by decide +kernel
theorem dX7_kinds_65 : decode cX7_kinds 65 = .ok (.getfield 13, 3) := by decide +kernel
theorem dX7_kinds_68 : decode cX7_kinds 68 = .ok (.iconst 2, 1) := by decide +kernel
theorem dX7_kinds_69 : decode cX7_kinds 69 = .ok (.iload_n 1, 1) := by decide +kernel
theorem dX7_kinds_70 : decode cX7_kinds 70 = .ok (.iadd, 1) := by decide +kernel
theorem dX7_kinds_71 : decode cX7_kinds 71 = .ok (.iload_n 2, 1) := by decide +kernel
theorem dX7_kinds_72 : decode cX7_kinds 72 = .ok (.iastore, 1) := by decide +kernel
theorem dX7_kinds_73 : decode cX7_kinds 73 = .ok (.iload_n 3, 1) := by decide +kernel
theorem dX7_kinds_74 : decode cX7_kinds 74 = .ok (.ireturn, 1) := by decide +kernel
theorem dX7_likely_0 : decode cX7_likely 0 = .ok (.aload_n 0, 1) := by decide +kernel
theorem dX7_likely_1 : decode cX7_likely 1 = .ok (.iload_n 1, 1) := by decide +kernel
theorem dX7_likely_2 : decode cX7_likely 2 = .ok (.invokevirtual 133, 3) := by decide +kernel
theorem dX7_likely_5 : decode cX7_likely 5 = .ok (.ifCond .eq 33, 3) := by decide +kernel
theorem dX7_likely_8 : decode cX7_likely 8 = .ok (.iload_n 2, 1) := by decide +kernel
theorem dX7_likely_9 : decode cX7_likely 9 = .ok (.iconst 0, 1) := by decide +kernel
theorem dX7_likely_10 : decode cX7_likely 10 = .ok (.bipush 8, 2) := by decide +kernel
theorem dX7_likely_12 : decode cX7_likely 12 = .ok (.invokestatic 56, 3) := by decide +kernel
theorem dX7_likely_15 : decode cX7_likely 15 = .ok (.ifCond .eq 23, 3) := by decide +kernel
theorem dX7_likely_18 : decode cX7_likely 18 = .ok (.iload_n 3, 1) := by decide +kernel
theorem dX7_likely_19 : decode cX7_likely 19 = .ok (.iconst 0, 1) := by decide +kernel
theorem dX7_likely_20 : decode cX7_likely 20 = .ok (.bipush 10, 2) := by decide +kernel
theorem dX7_likely_22 : decode cX7_likely 22 = .ok (.invokestatic 56, 3) := by decide +kernel
theorem dX7_likely_25 : decode cX7_likely 25 = .ok (.ifCond .eq 13, 3) := by decide +kernel
theorem dX7_likely_28 : decode cX7_likely 28 = .ok (.iload 4, 2) := by decide +kernel
theorem dX7_likely_30 : decode cX7_likely 30 = .ok (.iconst 0, 1) := by decide +kernel
theorem dX7_likely_31 : decode cX7_likely 31 = .ok (.iconst 1, 1) := by decide +kernel
theorem dX7_likely_32 : decode cX7_likely 32 = .ok (.invokestatic 56, 3) := by decide +kernel
theorem dX7_likely_35 : decode cX7_likely 35 = .ok (.ifCond .ne 5, 3) := by decide +kernel
theorem dX7_likely_38 : decode cX7_likely 38 = .ok (.iconst (-1), 1) := by decide +kernel
theorem dX7_likely_39 : decode cX7_likely 39 = .ok (.ireturn, 1) := by decide +kernel
theorem dX7_likely_40 : decode cX7_likely 40 = .ok (.aload_n 0, 1) := by decide +kernel
theorem dX7_likely_41 : decode cX7_likely 41 = .ok (.getfield 19, 3) := by decide +kernel
theorem dX7_likely_44 : decode cX7_likely 44 = .ok (.bipush 7, 2) := by decide +kernel
theorem dX7_likely_46 : decode cX7_likely 46 = .ok (.iload_n 1, 1) := by decide +kernel
theorem dX7_likely_47 : decode cX7_likely 47 = .ok (.iadd, 1) := by decide +kernel
theorem dX7_likely_48 : decode cX7_likely 48 = .ok (.iaload, 1) := by decide +kernel
theorem dX7_likely_49 : decode cX7_likely 49 = .ok (.iconst (-1), 1) := by decide +kernel
theorem dX7_likely_50 : decode cX7_likely 50 = .ok (.if_icmp .ne 6, 3) := by decide +kernel
theorem dX7_likely_53 : decode cX7_likely 53 = .ok (.bipush (-2), 2) := by decide +kernel
theorem dX7_likely_55 : decode cX7_likely 55 = .ok (.ireturn, 1) := by decide +kernel
theorem dX7_likely_56 : decode cX7_likely 56 = .ok (.aload_n 0, 1) := by decide +kernel
theorem dX7_likely_57 : decode cX7_likely 57 = .ok (.invokevirtual 153, 3) := by decide +kernel
theorem dX7_likely_60 : decode cX7_likely 60 = .ok (.iconst 0, 1) := by decide +kernel
theorem dX7_likely_61 : decode cX7_likely 61 = .ok (.istore 5, 2) := by decide +kernel
theorem dX7_likely_63 : decode cX7_likely 63 = .ok (.iconst 1, 1) := by decide +kernel
theorem dX7_likely_64 : decode cX7_likely 64 = .ok (.istore 6, 2) := by decide +kernel
theorem dX7_likely_66 : decode cX7_likely 66 = .ok (.iconst 0, 1) := by decide +kernel
theorem dX7_likely_67 : decode cX7_likely 67 = .ok (.istore 7, 2) := by decide +kernel
theorem dX7_likely_69 : decode cX7_likely 69 = .ok (.iload 7, 2) := by decide +kernel
theorem dX7_likely_71 : decode cX7_likely 71 = .ok (.iload_n 2, 1) := by decide +kernel
theorem dX7_likely_72 : decode cX7_likely 72 = .ok (.if_icmp .ge 16, 3) := by decide +kernel
theorem dX7_likely_75 : decode cX7_likely 75 = .ok (.iload 6, 2) := by decide +kernel
theorem dX7_likely_77 : decode cX7_likely 77 = .ok (.bipush 10, 2) := by decide +kernel
theorem dX7_likely_79 : decode cX7_likely 79 = .ok (.imul, 1) := by decide +kernel
theorem dX7_likely_80 : decode cX7_likely 80 = .ok (.istore 6, 2) := by decide +kernel
theorem dX7_likely_82 : decode cX7_likely 82 = .ok (.iinc 7 1, 3) := by decide +kernel
theorem dX7_likely_85 : decode cX7_likely 85 = .ok (.goto (-16), 3) := by decide +kernel
theorem dX7_likely_88 : decode cX7_likely 88 = .ok (.iconst 0, 1) := by decide +kernel
theorem dX7_likely_89 : decode cX7_likely 89 = .ok (.istore 7, 2) := by decide +kernel
theorem dX7_likely_91 : decode cX7_likely 91 = .ok (.iload 7, 2) := by decide +kernel
theorem dX7_likely_93 : decode cX7_likely 93 = .ok (.iconst 1, 1) := by decide +kernel
theorem dX7_likely_94 : decode cX7_likely 94 = .ok (.iload_n 2, 1) := by decide +kernel
theorem dX7_likely_95 : decode cX7_likely 95 = .ok (.ishl, 1) := by decide +kernel
theorem dX7_likely_96 : decode cX7_likely 96 = .ok (.if_icmp .ge 98, 3) := by decide +kernel
theorem dX7_likely_99 : decode cX7_likely 99 = .ok (.iconst 1, 1) := by decide +kernel
theorem dX7_likely_100 : decode cX7_likely 100 = .ok (.istore 8, 2) := by decide +kernel
theorem dX7_likely_102 : decode cX7_likely 102 = .ok (.iconst 0, 1) := by decide +kernel
theorem dX7_likely_103 : decode cX7_likely 103 = .ok (.istore 9, 2) := by decide +kernel
theorem dX7_likely_105 : decode cX7_likely 105 = .ok (.iload 9, 2) := by decide +kernel
theorem dX7_likely_107 : decode cX7_likely 107 = .ok (.iload_n 2, 1) := by decide +kernel
theorem dX7_likely_108 : decode cX7_likely 108 = .ok (.if_icmp .ge 52, 3) := by decide +kernel
theorem dX7_likely_111 : decode cX7_likely 111 = .ok (.iload 7, 2) := by decide +kernel
theorem dX7_likely_113 : decode cX7_likely 113 = .ok (.iload 9, 2) := by decide +kernel
theorem dX7_likely_115 : decode cX7_likely 115 = .ok (.ishr, 1) := by decide +kernel
theorem dX7_likely_116 : decode cX7_likely 116 = .ok (.iconst 1, 1) := by decide +kernel
theorem dX7_likely_117 : decode cX7_likely 117 = .ok (.iand, 1) := by decide +kernel
theorem dX7_likely_118 : decode cX7_likely 118 = .ok (.iconst 1, 1) := by decide +kernel
theorem dX7_likely_119 : decode cX7_likely 119 = .ok (.if_icmp .ne 7, 3) := by decide +kernel
theorem dX7_likely_122 : decode cX7_likely 122 = .ok (.iconst 1, 1) := by decide +kernel
theorem dX7_likely_123 : decode cX7_likely 123 = .ok (.goto 4, 3) := by decide +kernel
theorem dX7_likely_126 : decode cX7_likely 126 = .ok (.iconst 0, 1) := by decide +kernel
theorem dX7_likely_127 : decode cX7_likely 127 = .ok (.istore 10, 2) := by decide +kernel
theorem dX7_likely_129 : decode cX7_likely 129 = .ok (.iload 8, 2) := by decide +kernel
theorem dX7_likely_131 : decode cX7_likely 131 = .ok (.iload 10, 2) := by decide +kernel
theorem dX7_likely_133 : decode cX7_likely 133 = .ok (.ifCond .eq 7, 3) := by decide +kernel
theorem dX7_likely_136 : decode cX7_likely 136 = .ok (.iload_n 3, 1) := by decide +kernel
theorem dX7_likely_137 : decode cX7_likely 137 = .ok (.goto 7, 3) := by decide +kernel
theorem dX7_likely_140 : decode cX7_likely 140 = .ok (.bipush 10, 2) := by decide +kernel
theorem dX7_likely_142 : decode cX7_likely 142 = .ok (.iload_n 3, 1) := by decide +kernel
theorem dX7_likely_143 : decode cX7_likely 143 = .ok (.isub, 1) := by decide +kernel
theorem dX7_likely_144 : decode cX7_likely 144 = .ok (.imul, 1) := by decide +kernel
theorem dX7_likely_145 : decode cX7_likely 145 = .ok (.istore 8, 2) := by decide +kernel
theorem dX7_likely_147 : decode cX7_likely 147 = .ok (.aload_n 0, 1) := by decide +kernel
theorem dX7_likely_148 : decode cX7_likely 148 = .ok (.iload 10, 2) := by decide +kernel
theorem dX7_likely_150 : decode cX7_likely 150 = .ok (.invokevirtual 142, 3) := by decide +kernel
theorem dX7_likely_153 : decode cX7_likely 153 = .ok (.pop, 1) := by decide +kernel
theorem dX7_likely_154 : decode cX7_likely 154 = .ok (.iinc 9 1, 3) := by decide +kernel
theorem dX7_likely_157 : decode cX7_likely 157 = .ok (.goto (-52), 3) := by decide +kernel
theorem dX7_likely_160 : decode cX7_likely 160 = .ok (.iload 5, 2) := by decide +kernel
theorem dX7_likely_162 : decode cX7_likely 162 = .ok (.aload_n 0, 1) := by decide +kernel
theorem dX7_likely_163 : decode cX7_likely 163 = .ok (.getfield 19, 3) := by decide +kernel
theorem dX7_likely_166 : decode cX7_likely 166 = .ok (.bipush 7, 2) := by decide +kernel
theorem dX7_likely_168 : decode cX7_likely 168 = .ok (.iload_n 1, 1) := by decide +kernel
theorem dX7_likely_169 : decode cX7_likely 169 = .ok (.iadd, 1) := by decide +kernel
theorem dX7_likely_170 : decode cX7_likely 170 = .ok (.iaload, 1) := by decide +kernel
theorem dX7_likely_171 : decode cX7_likely 171 = .ok (.iconst (-1), 1) := by decide +kernel
theorem dX7_likely_172 : decode cX7_likely 172 = .ok (.if_icmp .ne 7, 3) := by decide +kernel
theorem dX7_likely_175 : decode cX7_likely 175 = .ok (.iconst 0, 1) := by decide +kernel
theorem dX7_likely_176 : decode cX7_likely 176 = .ok (.goto 5, 3) := by decide +kernel
theorem dX7_likely_179 : decode cX7_likely 179 = .ok (.iload 8, 2) := by decide +kernel
theorem dX7_likely_181 : decode cX7_likely 181 = .ok (.iadd, 1) := by decide +kernel
theorem dX7_likely_182 : decode cX7_likely 182 = .ok (.istore 5, 2) := by decide +kernel
theorem dX7_likely_184 : decode cX7_likely 184 = .ok (.aload_n 0, 1) := by decide +kernel
theorem dX7_likely_185 : decode cX7_likely 185 = .ok (.invokevirtual 118, 3) := by decide +kernel
theorem dX7_likely_188 : decode cX7_likely 188 = .ok (.iinc 7 1, 3) := by decide +kernel
theorem dX7_likely_191 : decode cX7_likely 191 = .ok (.goto (-100), 3) := by decide +kernel
theorem dX7_likely_194 : decode cX7_likely 194 = .ok (.iload 5, 2) := by decide +kernel
theorem dX7_likely_196 : decode cX7_likely 196 = .ok (.istore 7, 2) := by decide +kernel
theorem dX7_likely_198 : decode cX7_likely 198 = .ok (.iload 6, 2) := by decide +kernel
theorem dX7_likely_200 : decode cX7_likely 200 = .ok (.istore 8, 2) := by decide +kernel
theorem dX7_likely_202 : decode cX7_likely 202 = .ok (.iload 8, 2) := by decide +kernel
theorem dX7_likely_204 : decode cX7_likely 204 = .ok (.ifCond .le 21, 3) := by decide +kernel
theorem dX7_likely_207 : decode cX7_likely 207 = .ok (.iload 7, 2) := by decide +kernel
theorem dX7_likely_209 : decode cX7_likely 209 = .ok (.iload 8, 2) := by decide +kernel
theorem dX7_likely_211 : decode cX7_likely 211 = .ok (.irem, 1) := by decide +kernel
theorem dX7_likely_212 : decode cX7_likely 212 = .ok (.istore 9, 2) := by decide +kernel
theorem dX7_likely_214 : decode cX7_likely 214 = .ok (.iload 8, 2) := by decide +kernel
theorem dX7_likely_216 : decode cX7_likely 216 = .ok (.istore 7, 2) := by decide +kernel
theorem dX7_likely_218 : decode cX7_likely 218 = .ok (.iload 9, 2) := by decide +kernel
theorem dX7_likely_220 : decode cX7_likely 220 = .ok (.istore 8, 2) := by decide +kernel
theorem dX7_likely_222 : decode cX7_likely 222 = .ok (.goto (-20), 3) := by decide +kernel
theorem dX7_likely_225 : decode cX7_likely 225 = .ok (.iload 4, 2) := by decide +kernel
theorem dX7_likely_227 : decode cX7_likely 227 = .ok (.ifCond .ne 11, 3) := by decide +kernel
theorem dX7_likely_230 : decode cX7_likely 230 = .ok (.iload 5, 2) := by decide +kernel
theorem dX7_likely_232 : decode cX7_likely 232 = .ok (.iload 7, 2) := by decide +kernel
theorem dX7_likely_234 : decode cX7_likely 234 = .ok (.idiv, 1) := by decide +kernel
theorem dX7_likely_235 : decode cX7_likely 235 = .ok (.goto 8, 3) := by decide +kernel
theorem dX7_likely_238 : decode cX7_likely 238 = .ok (.iload 6, 2) := by decide +kernel
theorem dX7_likely_240 : decode cX7_likely 240 = .ok (.iload 7, 2) := by decide +kernel
theorem dX7_likely_242 : decode cX7_likely 242 = .ok (.idiv, 1) := by decide +kernel
theorem dX7_likely_243 : decode cX7_likely 243 = .ok (.ireturn, 1) := by decide +kernel
theorem dX7_turn_0 : decode cX7_turn 0 = .ok (.iload_n 1, 1) := by decide +kernel
theorem dX7_turn_1 : decode cX7_turn 1 = .ok (.aload_n 0, 1) := by decide +kernel
theorem dX7_turn_2 : decode cX7_turn 2 = .ok (.getfield 13, 3) := by decide +kernel
theorem dX7_turn_5 : decode cX7_turn 5 = .ok (.iconst 1, 1) := by decide +kernel
theorem dX7_turn_6 : decode cX7_turn 6 = .ok (.iaload, 1) := by decide +kernel
theorem dX7_turn_7 : decode cX7_turn 7 = .ok (.irem, 1) := by decide +kernel
theorem dX7_turn_8 : decode cX7_turn 8 = .ok (.istore_n 2, 1) := by decide +kernel
theorem dX7_turn_9 : decode cX7_turn 9 = .ok (.iload_n 1, 1) := by decide +kernel
theorem dX7_turn_10 : decode cX7_turn 10 = .ok (.bipush 8, 2) := by decide +kernel
theorem dX7_turn_12 : decode cX7_turn 12 = .ok (.idiv, 1) := by decide +kernel
theorem dX7_turn_13 : decode cX7_turn 13 = .ok (.aload_n 0, 1) := by decide +kernel
theorem dX7_turn_14 : decode cX7_turn 14 = .ok (.getfield 13, 3) := by decide +kernel
theorem dX7_turn_17 : decode cX7_turn 17 = .ok (.iconst 0, 1) := by decide +kernel
theorem dX7_turn_18 : decode cX7_turn 18 = .ok (.iaload, 1) := by decide +kernel
theorem dX7_turn_19 : decode cX7_turn 19 = .ok (.irem, 1) := by decide +kernel
theorem dX7_turn_20 : decode cX7_turn 20 = .ok (.istore_n 3, 1) := by decide +kernel
theorem dX7_turn_21 : decode cX7_turn 21 = .ok (.aload_n 0, 1) := by decide +kernel
theorem dX7_turn_22 : decode cX7_turn 22 = .ok (.getfield 19, 3) := by decide +kernel
theorem dX7_turn_25 : decode cX7_turn 25 = .ok (.bipush 7, 2) := by decide +kernel
theorem dX7_turn_27 : decode cX7_turn 27 = .ok (.iload_n 2, 1) := by decide +kernel
theorem dX7_turn_28 : decode cX7_turn 28 = .ok (.iadd, 1) := by decide +kernel
theorem dX7_turn_29 : decode cX7_turn 29 = .ok (.iaload, 1) := by decide +kernel
theorem dX7_turn_30 : decode cX7_turn 30 = .ok (.iconst (-1), 1) := by decide +kernel
theorem dX7_turn_31 : decode cX7_turn 31 = .ok (.if_icmp .ne 28, 3) := by decide +kernel
theorem dX7_turn_34 : decode cX7_turn 34 = .ok (.aload_n 0, 1) := by decide +kernel
theorem dX7_turn_35 : decode cX7_turn 35 = .ok (.iload_n 2, 1) := by decide +kernel
theorem dX7_turn_36 : decode cX7_turn 36 = .ok (.iload_n 3, 1) := by decide +kernel
theorem dX7_turn_37 : decode cX7_turn 37 = .ok (.invokevirtual 145, 3) := by decide +kernel
theorem dX7_turn_40 : decode cX7_turn 40 = .ok (.ifCond .eq 42, 3) := by decide +kernel
theorem dX7_turn_43 : decode cX7_turn 43 = .ok (.aload_n 0, 1) := by decide +kernel
theorem dX7_turn_44 : decode cX7_turn 44 = .ok (.invokevirtual 149, 3) := by decide +kernel
theorem dX7_turn_47 : decode cX7_turn 47 = .ok (.ifCond .ne 35, 3) := by decide +kernel
theorem dX7_turn_50 : decode cX7_turn 50 = .ok (.aload_n 0, 1) := by decide +kernel
theorem dX7_turn_51 : decode cX7_turn 51 = .ok (.iload_n 2, 1) := by decide +kernel
theorem dX7_turn_52 : decode cX7_turn 52 = .ok (.iload_n 3, 1) := by decide +kernel
theorem dX7_turn_53 : decode cX7_turn 53 = .ok (.invokevirtual 95, 3) := by decide +kernel
theorem dX7_turn_56 : decode cX7_turn 56 = .ok (.goto 26, 3) := by decide +kernel
theorem dX7_turn_59 : decode cX7_turn 59 = .ok (.iload_n 1, 1) := by decide +kernel
theorem dX7_turn_60 : decode cX7_turn 60 = .ok (.bipush 64, 2) := by decide +kernel
theorem dX7_turn_62 : decode cX7_turn 62 = .ok (.idiv, 1) := by decide +kernel
theorem dX7_turn_63 : decode cX7_turn 63 = .ok (.iconst 4, 1) := by decide +kernel
theorem dX7_turn_64 : decode cX7_turn 64 = .ok (.irem, 1) := by decide +kernel
theorem dX7_turn_65 : decode cX7_turn 65 = .ok (.ifCond .ne 17, 3) := by decide +kernel
theorem dX7_turn_68 : decode cX7_turn 68 = .ok (.aload_n 0, 1) := by decide +kernel
theorem dX7_turn_69 : decode cX7_turn 69 = .ok (.getfield 19, 3) := by decide +kernel
theorem dX7_turn_72 : decode cX7_turn 72 = .ok (.iconst 1, 1) := by decide +kernel
theorem dX7_turn_73 : decode cX7_turn 73 = .ok (.dup2, 1) := by decide +kernel
theorem dX7_turn_74 : decode cX7_turn 74 = .ok (.iaload, 1) := by decide +kernel
theorem dX7_turn_75 : decode cX7_turn 75 = .ok (.aload_n 0, 1) := by decide +kernel
theorem dX7_turn_76 : decode cX7_turn 76 = .ok (.iload_n 2, 1) := by decide +kernel
theorem dX7_turn_77 : decode cX7_turn 77 = .ok (.invokevirtual 136, 3) := by decide +kernel
theorem dX7_turn_80 : decode cX7_turn 80 = .ok (.iadd, 1) := by decide +kernel
theorem dX7_turn_81 : decode cX7_turn 81 = .ok (.iastore, 1) := by decide +kernel
theorem dX7_turn_82 : decode cX7_turn 82 = .ok (.return_, 1) := by decide +kernel
theorem dX7_decade_0 : decode cX7_decade 0 = .ok (.iload_n 1, 1) := by decide +kernel
theorem dX7_decade_1 : decode cX7_decade 1 = .ok (.iconst 0, 1) := by decide +kernel
theorem dX7_decade_2 : decode cX7_decade 2 = .ok (.sipush 9999, 3) := by decide +kernel
theorem dX7_decade_5 : decode cX7_decade 5 = .ok (.invokestatic 56, 3) := by decide +kernel
theorem dX7_decade_8 : decode cX7_decade 8 = .ok (.ifCond .eq 22, 3) := by decide +kernel
theorem dX7_decade_11 : decode cX7_decade 11 = .ok (.iload_n 2, 1) := by decide +kernel
theorem dX7_decade_12 : decode cX7_decade 12 = .ok (.iconst 1, 1) := by decide +kernel
theorem dX7_decade_13 : decode cX7_decade 13 = .ok (.bipush 60, 2) := by decide +kernel
theorem dX7_decade_15 : decode cX7_decade 15 = .ok (.invokestatic 56, 3) := by decide +kernel
theorem dX7_decade_18 : decode cX7_decade 18 = .ok (.ifCond .eq 12, 3) := by decide +kernel
theorem dX7_decade_21 : decode cX7_decade 21 = .ok (.iload_n 3, 1) := by decide +kernel
theorem dX7_decade_22 : decode cX7_decade 22 = .ok (.iconst 0, 1) := by decide +kernel
theorem dX7_decade_23 : decode cX7_decade 23 = .ok (.iconst 2, 1) := by decide +kernel
theorem dX7_decade_24 : decode cX7_decade 24 = .ok (.invokestatic 56, 3) := by decide +kernel
theorem dX7_decade_27 : decode cX7_decade 27 = .ok (.ifCond .ne 5, 3) := by decide +kernel
theorem dX7_decade_30 : decode cX7_decade 30 = .ok (.iconst (-1), 1) := by decide +kernel
theorem dX7_decade_31 : decode cX7_decade 31 = .ok (.ireturn, 1) := by decide +kernel
theorem dX7_decade_32 : decode cX7_decade 32 = .ok (.aload_n 0, 1) := by decide +kernel
theorem dX7_decade_33 : decode cX7_decade 33 = .ok (.invokevirtual 153, 3) := by decide +kernel
theorem dX7_decade_36 : decode cX7_decade 36 = .ok (.iconst 0, 1) := by decide +kernel
theorem dX7_decade_37 : decode cX7_decade 37 = .ok (.istore 4, 2) := by decide +kernel
theorem dX7_decade_39 : decode cX7_decade 39 = .ok (.iload 4, 2) := by decide +kernel
theorem dX7_decade_41 : decode cX7_decade 41 = .ok (.iload_n 2, 1) := by decide +kernel
theorem dX7_decade_42 : decode cX7_decade 42 = .ok (.if_icmp .ge 51, 3) := by decide +kernel
theorem dX7_decade_45 : decode cX7_decade 45 = .ok (.ldc2_w 183, 3) := by decide +kernel
theorem dX7_decade_48 : decode cX7_decade 48 = .ok (.iload_n 1, 1) := by decide +kernel
theorem dX7_decade_49 : decode cX7_decade 49 = .ok (.i2l, 1) := by decide +kernel
theorem dX7_decade_50 : decode cX7_decade 50 = .ok (.lmul, 1) := by decide +kernel
theorem dX7_decade_51 : decode cX7_decade 51 = .ok (.ldc2_w 185, 3) := by decide +kernel
theorem dX7_decade_54 : decode cX7_decade 54 = .ok (.iload 4, 2) := by decide +kernel
theorem dX7_decade_56 : decode cX7_decade 56 = .ok (.i2l, 1) := by decide +kernel
theorem dX7_decade_57 : decode cX7_decade 57 = .ok (.lmul, 1) := by decide +kernel
theorem dX7_decade_58 : decode cX7_decade 58 = .ok (.ladd, 1) := by decide +kernel
theorem dX7_decade_59 : decode cX7_decade 59 = .ok (.lconst 1, 1) := by decide +kernel
theorem dX7_decade_60 : decode cX7_decade 60 = .ok (.ladd, 1) := by decide +kernel
theorem dX7_decade_61 : decode cX7_decade 61 = .ok (.lstore 5, 2) := by decide +kernel
theorem dX7_decade_63 : decode cX7_decade 63 = .ok (.aload_n 0, 1) := by decide +kernel
theorem dX7_decade_64 : decode cX7_decade 64 = .ok (.lload 5, 2) := by decide +kernel
theorem dX7_decade_66 : decode cX7_decade 66 = .ok (.lload 5, 2) := by decide +kernel
theorem dX7_decade_68 : decode cX7_decade 68 = .ok (.lmul, 1) := by decide +kernel
theorem dX7_decade_69 : decode cX7_decade 69 = .ok (.ldc2_w 187, 3) := by decide +kernel
theorem dX7_decade_72 : decode cX7_decade 72 = .ok (.lrem, 1) := by decide +kernel
theorem dX7_decade_73 : decode cX7_decade 73 = .ok (.ldc2_w 189, 3) := by decide +kernel
theorem dX7_decade_76 : decode cX7_decade 76 = .ok (.ldiv, 1) := by decide +kernel
theorem dX7_decade_77 : decode cX7_decade 77 = .ok (.l2i, 1) := by decide +kernel
theorem dX7_decade_78 : decode cX7_decade 78 = .ok (.invokevirtual 191, 3) := by decide +kernel
theorem dX7_decade_81 : decode cX7_decade 81 = .ok (.aload_n 0, 1) := by decide +kernel
theorem dX7_decade_82 : decode cX7_decade 82 = .ok (.iconst 1, 1) := by decide +kernel
theorem dX7_decade_83 : decode cX7_decade 83 = .ok (.invokevirtual 142, 3) := by decide +kernel
theorem dX7_decade_86 : decode cX7_decade 86 = .ok (.pop, 1) := by decide +kernel
theorem dX7_decade_87 : decode cX7_decade 87 = .ok (.iinc 4 1, 3) := by decide +kernel
theorem dX7_decade_90 : decode cX7_decade 90 = .ok (.goto (-51), 3) := by decide +kernel
theorem dX7_decade_93 : decode cX7_decade 93 = .ok (.aload_n 0, 1) := by decide +kernel
theorem dX7_decade_94 : decode cX7_decade 94 = .ok (.getfield 19, 3) := by decide +kernel
theorem dX7_decade_97 : decode cX7_decade 97 = .ok (.iconst 1, 1) := by decide +kernel
theorem dX7_decade_98 : decode cX7_decade 98 = .ok (.iaload, 1) := by decide +kernel
theorem dX7_decade_99 : decode cX7_decade 99 = .ok (.istore 4, 2) := by decide +kernel
theorem dX7_decade_101 : decode cX7_decade 101 = .ok (.aload_n 0, 1) := by decide +kernel
theorem dX7_decade_102 : decode cX7_decade 102 = .ok (.invokevirtual 171, 3) := by decide +kernel
theorem dX7_decade_105 : decode cX7_decade 105 = .ok (.istore 5, 2) := by decide +kernel
theorem dX7_decade_107 : decode cX7_decade 107 = .ok (.aload_n 0, 1) := by decide +kernel
theorem dX7_decade_108 : decode cX7_decade 108 = .ok (.invokevirtual 118, 3) := by decide +kernel
theorem dX7_decade_111 : decode cX7_decade 111 = .ok (.iload_n 3, 1) := by decide +kernel
theorem dX7_decade_112 : decode cX7_decade 112 = .ok (.ifCond .ne 11, 3) := by decide +kernel
theorem dX7_decade_115 : decode cX7_decade 115 = .ok (.iload 5, 2) := by decide +kernel
theorem dX7_decade_117 : decode cX7_decade 117 = .ok (.invokestatic 168, 3) := by decide +kernel
theorem dX7_decade_120 : decode cX7_decade 120 = .ok (.goto 26, 3) := by decide +kernel
theorem dX7_decade_123 : decode cX7_decade 123 = .ok (.iload_n 3, 1) := by decide +kernel
theorem dX7_decade_124 : decode cX7_decade 124 = .ok (.iconst 1, 1) := by decide +kernel
theorem dX7_decade_125 : decode cX7_decade 125 = .ok (.if_icmp .ne 12, 3) := by decide +kernel
theorem dX7_decade_128 : decode cX7_decade 128 = .ok (.aload_n 0, 1) := by decide +kernel
theorem dX7_decade_129 : decode cX7_decade 129 = .ok (.iload 5, 2) := by decide +kernel
theorem dX7_decade_131 : decode cX7_decade 131 = .ok (.invokevirtual 177, 3) := by decide +kernel
theorem dX7_decade_134 : decode cX7_decade 134 = .ok (.goto 12, 3) := by decide +kernel
theorem dX7_decade_137 : decode cX7_decade 137 = .ok (.iload 4, 2) := by decide +kernel
theorem dX7_decade_139 : decode cX7_decade 139 = .ok (.aload_n 0, 1) := by decide +kernel
theorem dX7_decade_140 : decode cX7_decade 140 = .ok (.getfield 19, 3) := by decide +kernel
theorem dX7_decade_143 : decode cX7_decade 143 = .ok (.iconst 1, 1) := by decide +kernel
theorem dX7_decade_144 : decode cX7_decade 144 = .ok (.iaload, 1) := by decide +kernel
theorem dX7_decade_145 : decode cX7_decade 145 = .ok (.isub, 1) := by decide +kernel
theorem dX7_decade_146 : decode cX7_decade 146 = .ok (.ireturn, 1) := by decide +kernel
theorem dX7_keep_0 : decode cX7_keep 0 = .ok (.aload_n 0, 1) := by decide +kernel
theorem dX7_keep_1 : decode cX7_keep 1 = .ok (.getfield 124, 3) := by decide +kernel
theorem dX7_keep_4 : decode cX7_keep 4 = .ok (.iconst 2, 1) := by decide +kernel
theorem dX7_keep_5 : decode cX7_keep 5 = .ok (.if_icmp .ne 6, 3) := by decide +kernel
theorem dX7_keep_8 : decode cX7_keep 8 = .ok (.bipush (-3), 2) := by decide +kernel
theorem dX7_keep_10 : decode cX7_keep 10 = .ok (.ireturn, 1) := by decide +kernel
theorem dX7_keep_11 : decode cX7_keep 11 = .ok (.iconst 0, 1) := by decide +kernel
theorem dX7_keep_12 : decode cX7_keep 12 = .ok (.istore_n 1, 1) := by decide +kernel
theorem dX7_keep_13 : decode cX7_keep 13 = .ok (.iload_n 1, 1) := by decide +kernel
theorem dX7_keep_14 : decode cX7_keep 14 = .ok (.bipush 21, 2) := by decide +kernel
theorem dX7_keep_16 : decode cX7_keep 16 = .ok (.if_icmp .ge 29, 3) := by decide +kernel
theorem dX7_keep_19 : decode cX7_keep 19 = .ok (.aload_n 0, 1) := by decide +kernel
theorem dX7_keep_20 : decode cX7_keep 20 = .ok (.getfield 25, 3) := by decide +kernel
theorem dX7_keep_23 : decode cX7_keep 23 = .ok (.bipush 21, 2) := by decide +kernel
theorem dX7_keep_25 : decode cX7_keep 25 = .ok (.aload_n 0, 1) := by decide +kernel
theorem dX7_keep_26 : decode cX7_keep 26 = .ok (.getfield 124, 3) := by decide +kernel
theorem dX7_keep_29 : decode cX7_keep 29 = .ok (.imul, 1) := by decide +kernel
theorem dX7_keep_30 : decode cX7_keep 30 = .ok (.iload_n 1, 1) := by decide +kernel
theorem dX7_keep_31 : decode cX7_keep 31 = .ok (.iadd, 1) := by decide +kernel
theorem dX7_keep_32 : decode cX7_keep 32 = .ok (.aload_n 0, 1) := by decide +kernel
theorem dX7_keep_33 : decode cX7_keep 33 = .ok (.getfield 19, 3) := by decide +kernel
theorem dX7_keep_36 : decode cX7_keep 36 = .ok (.iload_n 1, 1) := by decide +kernel
theorem dX7_keep_37 : decode cX7_keep 37 = .ok (.iaload, 1) := by decide +kernel
theorem dX7_keep_38 : decode cX7_keep 38 = .ok (.iastore, 1) := by decide +kernel
theorem dX7_keep_39 : decode cX7_keep 39 = .ok (.iinc 1 1, 3) := by decide +kernel
theorem dX7_keep_42 : decode cX7_keep 42 = .ok (.goto (-29), 3) := by decide +kernel
theorem dX7_keep_45 : decode cX7_keep 45 = .ok (.aload_n 0, 1) := by decide +kernel
theorem dX7_keep_46 : decode cX7_keep 46 = .ok (.dup, 1) := by decide +kernel
theorem dX7_keep_47 : decode cX7_keep 47 = .ok (.getfield 124, 3) := by decide +kernel
theorem dX7_keep_50 : decode cX7_keep 50 = .ok (.iconst 1, 1) := by decide +kernel
theorem dX7_keep_51 : decode cX7_keep 51 = .ok (.iadd, 1) := by decide +kernel
theorem dX7_keep_52 : decode cX7_keep 52 = .ok (.putfield 124, 3) := by decide +kernel
theorem dX7_keep_55 : decode cX7_keep 55 = .ok (.aload_n 0, 1) := by decide +kernel
theorem dX7_keep_56 : decode cX7_keep 56 = .ok (.getfield 124, 3) := by decide +kernel
theorem dX7_keep_59 : decode cX7_keep 59 = .ok (.ireturn, 1) := by decide +kernel
theorem dX7_back_0 : decode cX7_back 0 = .ok (.aload_n 0, 1) := by decide +kernel
theorem dX7_back_1 : decode cX7_back 1 = .ok (.getfield 124, 3) := by decide +kernel
theorem dX7_back_4 : decode cX7_back 4 = .ok (.ifCond .ne 6, 3) := by decide +kernel
theorem dX7_back_7 : decode cX7_back 7 = .ok (.bipush (-2), 2) := by decide +kernel
theorem dX7_back_9 : decode cX7_back 9 = .ok (.ireturn, 1) := by decide +kernel
theorem dX7_back_10 : decode cX7_back 10 = .ok (.aload_n 0, 1) := by decide +kernel
theorem dX7_back_11 : decode cX7_back 11 = .ok (.dup, 1) := by decide +kernel
theorem dX7_back_12 : decode cX7_back 12 = .ok (.getfield 124, 3) := by decide +kernel
theorem dX7_back_15 : decode cX7_back 15 = .ok (.iconst 1, 1) := by decide +kernel
theorem dX7_back_16 : decode cX7_back 16 = .ok (.isub, 1) := by decide +kernel
theorem dX7_back_17 : decode cX7_back 17 = .ok (.putfield 124, 3) := by decide +kernel
theorem dX7_back_20 : decode cX7_back 20 = .ok (.iconst 0, 1) := by decide +kernel
theorem dX7_back_21 : decode cX7_back 21 = .ok (.istore_n 1, 1) := by decide +kernel
theorem dX7_back_22 : decode cX7_back 22 = .ok (.iload_n 1, 1) := by decide +kernel
theorem dX7_back_23 : decode cX7_back 23 = .ok (.bipush 21, 2) := by decide +kernel
theorem dX7_back_25 : decode cX7_back 25 = .ok (.if_icmp .ge 29, 3) := by decide +kernel
theorem dX7_back_28 : decode cX7_back 28 = .ok (.aload_n 0, 1) := by decide +kernel
theorem dX7_back_29 : decode cX7_back 29 = .ok (.getfield 19, 3) := by decide +kernel
theorem dX7_back_32 : decode cX7_back 32 = .ok (.iload_n 1, 1) := by decide +kernel
theorem dX7_back_33 : decode cX7_back 33 = .ok (.aload_n 0, 1) := by decide +kernel
theorem dX7_back_34 : decode cX7_back 34 = .ok (.getfield 25, 3) := by decide +kernel
theorem dX7_back_37 : decode cX7_back 37 = .ok (.bipush 21, 2) := by decide +kernel
theorem dX7_back_39 : decode cX7_back 39 = .ok (.aload_n 0, 1) := by decide +kernel
theorem dX7_back_40 : decode cX7_back 40 = .ok (.getfield 124, 3) := by decide +kernel
theorem dX7_back_43 : decode cX7_back 43 = .ok (.imul, 1) := by decide +kernel
theorem dX7_back_44 : decode cX7_back 44 = .ok (.iload_n 1, 1) := by decide +kernel
theorem dX7_back_45 : decode cX7_back 45 = .ok (.iadd, 1) := by decide +kernel
theorem dX7_back_46 : decode cX7_back 46 = .ok (.iaload, 1) := by decide +kernel
theorem dX7_back_47 : decode cX7_back 47 = .ok (.iastore, 1) := by decide +kernel
theorem dX7_back_48 : decode cX7_back 48 = .ok (.iinc 1 1, 3) := by decide +kernel
theorem dX7_back_51 : decode cX7_back 51 = .ok (.goto (-29), 3) := by decide +kernel
theorem dX7_back_54 : decode cX7_back 54 = .ok (.aload_n 0, 1) := by decide +kernel
theorem dX7_back_55 : decode cX7_back 55 = .ok (.iconst 0, 1) := by decide +kernel
theorem dX7_back_56 : decode cX7_back 56 = .ok (.putfield 121, 3) := by decide +kernel
theorem dX7_back_59 : decode cX7_back 59 = .ok (.aload_n 0, 1) := by decide +kernel
theorem dX7_back_60 : decode cX7_back 60 = .ok (.getfield 124, 3) := by decide +kernel
theorem dX7_back_63 : decode cX7_back 63 = .ok (.ireturn, 1) := by decide +kernel
theorem dX7_count_0 : decode cX7_count 0 = .ok (.iload_n 1, 1) := by decide +kernel
theorem dX7_count_1 : decode cX7_count 1 = .ok (.tableswitch 137 0 10 #[59, 66, 73, 80, 88, 97, 110, 117, 122, 127, 132], 59) := by decide +kernel
theorem dX7_count_60 : decode cX7_count 60 = .ok (.aload_n 0, 1) := by decide +kernel
theorem dX7_count_61 : decode cX7_count 61 = .ok (.getfield 13, 3) := by decide +kernel
theorem dX7_count_64 : decode cX7_count 64 = .ok (.iconst 0, 1) := by decide +kernel
theorem dX7_count_65 : decode cX7_count 65 = .ok (.iaload, 1) := by decide +kernel
theorem dX7_count_66 : decode cX7_count 66 = .ok (.ireturn, 1) := by decide +kernel
theorem dX7_count_67 : decode cX7_count 67 = .ok (.aload_n 0, 1) := by decide +kernel
theorem dX7_count_68 : decode cX7_count 68 = .ok (.getfield 13, 3) := by decide +kernel
theorem dX7_count_71 : decode cX7_count 71 = .ok (.iconst 1, 1) := by decide +kernel
theorem dX7_count_72 : decode cX7_count 72 = .ok (.iaload, 1) := by decide +kernel
theorem dX7_count_73 : decode cX7_count 73 = .ok (.ireturn, 1) := by decide +kernel
theorem dX7_count_74 : decode cX7_count 74 = .ok (.aload_n 0, 1) := by decide +kernel
theorem dX7_count_75 : decode cX7_count 75 = .ok (.getfield 19, 3) := by decide +kernel
theorem dX7_count_78 : decode cX7_count 78 = .ok (.iconst 0, 1) := by decide +kernel
theorem dX7_count_79 : decode cX7_count 79 = .ok (.iaload, 1) := by decide +kernel
theorem dX7_count_80 : decode cX7_count 80 = .ok (.ireturn, 1) := by decide +kernel
theorem dX7_count_81 : decode cX7_count 81 = .ok (.aload_n 0, 1) := by decide +kernel
theorem dX7_count_82 : decode cX7_count 82 = .ok (.invokevirtual 171, 3) := by decide +kernel
theorem dX7_count_85 : decode cX7_count 85 = .ok (.invokestatic 168, 3) := by decide +kernel
theorem dX7_count_88 : decode cX7_count 88 = .ok (.ireturn, 1) := by decide +kernel
theorem dX7_count_89 : decode cX7_count 89 = .ok (.aload_n 0, 1) := by decide +kernel
theorem dX7_count_90 : decode cX7_count 90 = .ok (.aload_n 0, 1) := by decide +kernel
theorem dX7_count_91 : decode cX7_count 91 = .ok (.invokevirtual 171, 3) := by decide +kernel
theorem dX7_count_94 : decode cX7_count 94 = .ok (.invokevirtual 177, 3) := by decide +kernel
theorem dX7_count_97 : decode cX7_count 97 = .ok (.ireturn, 1) := by decide +kernel
theorem dX7_count_98 : decode cX7_count 98 = .ok (.aload_n 0, 1) := by decide +kernel
theorem dX7_count_99 : decode cX7_count 99 = .ok (.invokevirtual 149, 3) := by decide +kernel
theorem dX7_count_102 : decode cX7_count 102 = .ok (.ifCond .eq 7, 3) := by decide +kernel
theorem dX7_count_105 : decode cX7_count 105 = .ok (.iconst 1, 1) := by decide +kernel
theorem dX7_count_106 : decode cX7_count 106 = .ok (.goto 4, 3) := by decide +kernel
theorem dX7_count_109 : decode cX7_count 109 = .ok (.iconst 0, 1) := by decide +kernel
theorem dX7_count_110 : decode cX7_count 110 = .ok (.ireturn, 1) := by decide +kernel
theorem dX7_count_111 : decode cX7_count 111 = .ok (.aload_n 0, 1) := by decide +kernel
theorem dX7_count_112 : decode cX7_count 112 = .ok (.getfield 19, 3) := by decide +kernel
theorem dX7_count_115 : decode cX7_count 115 = .ok (.iconst 1, 1) := by decide +kernel
theorem dX7_count_116 : decode cX7_count 116 = .ok (.iaload, 1) := by decide +kernel
theorem dX7_count_117 : decode cX7_count 117 = .ok (.ireturn, 1) := by decide +kernel
theorem dX7_count_118 : decode cX7_count 118 = .ok (.aload_n 0, 1) := by decide +kernel
theorem dX7_count_119 : decode cX7_count 119 = .ok (.getfield 127, 3) := by decide +kernel
theorem dX7_count_122 : decode cX7_count 122 = .ok (.ireturn, 1) := by decide +kernel
theorem dX7_count_123 : decode cX7_count 123 = .ok (.aload_n 0, 1) := by decide +kernel
theorem dX7_count_124 : decode cX7_count 124 = .ok (.getfield 121, 3) := by decide +kernel
theorem dX7_count_127 : decode cX7_count 127 = .ok (.ireturn, 1) := by decide +kernel
theorem dX7_count_128 : decode cX7_count 128 = .ok (.aload_n 0, 1) := by decide +kernel
theorem dX7_count_129 : decode cX7_count 129 = .ok (.getfield 124, 3) := by decide +kernel
theorem dX7_count_132 : decode cX7_count 132 = .ok (.ireturn, 1) := by decide +kernel
theorem dX7_count_133 : decode cX7_count 133 = .ok (.aload_n 0, 1) := by decide +kernel
theorem dX7_count_134 : decode cX7_count 134 = .ok (.getfield 81, 3) := by decide +kernel
theorem dX7_count_137 : decode cX7_count 137 = .ok (.ireturn, 1) := by decide +kernel
theorem dX7_count_138 : decode cX7_count 138 = .ok (.iconst (-1), 1) := by decide +kernel
theorem dX7_count_139 : decode cX7_count 139 = .ok (.ireturn, 1) := by decide +kernel
theorem dJ6_bitCount_0f7a4_0 : decode cJ6_bitCount_0f7a4 0 = .ok (.iload_n 0, 1) := by decide +kernel
theorem dJ6_bitCount_0f7a4_1 : decode cJ6_bitCount_0f7a4 1 = .ok (.iload_n 0, 1) := by decide +kernel
theorem dJ6_bitCount_0f7a4_2 : decode cJ6_bitCount_0f7a4 2 = .ok (.iconst 1, 1) := by decide +kernel
theorem dJ6_bitCount_0f7a4_3 : decode cJ6_bitCount_0f7a4 3 = .ok (.iushr, 1) := by decide +kernel
theorem dJ6_bitCount_0f7a4_4 : decode cJ6_bitCount_0f7a4 4 = .ok (.ldc_w 265, 3) := by decide +kernel
theorem dJ6_bitCount_0f7a4_7 : decode cJ6_bitCount_0f7a4 7 = .ok (.iand, 1) := by decide +kernel
theorem dJ6_bitCount_0f7a4_8 : decode cJ6_bitCount_0f7a4 8 = .ok (.isub, 1) := by decide +kernel
theorem dJ6_bitCount_0f7a4_9 : decode cJ6_bitCount_0f7a4 9 = .ok (.istore_n 0, 1) := by decide +kernel
theorem dJ6_bitCount_0f7a4_10 : decode cJ6_bitCount_0f7a4 10 = .ok (.iload_n 0, 1) := by decide +kernel
theorem dJ6_bitCount_0f7a4_11 : decode cJ6_bitCount_0f7a4 11 = .ok (.ldc_w 266, 3) := by decide +kernel
theorem dJ6_bitCount_0f7a4_14 : decode cJ6_bitCount_0f7a4 14 = .ok (.iand, 1) := by decide +kernel
theorem dJ6_bitCount_0f7a4_15 : decode cJ6_bitCount_0f7a4 15 = .ok (.iload_n 0, 1) := by decide +kernel
theorem dJ6_bitCount_0f7a4_16 : decode cJ6_bitCount_0f7a4 16 = .ok (.iconst 2, 1) := by decide +kernel
theorem dJ6_bitCount_0f7a4_17 : decode cJ6_bitCount_0f7a4 17 = .ok (.iushr, 1) := by decide +kernel
theorem dJ6_bitCount_0f7a4_18 : decode cJ6_bitCount_0f7a4 18 = .ok (.ldc_w 266, 3) := by decide +kernel
theorem dJ6_bitCount_0f7a4_21 : decode cJ6_bitCount_0f7a4 21 = .ok (.iand, 1) := by decide +kernel
theorem dJ6_bitCount_0f7a4_22 : decode cJ6_bitCount_0f7a4 22 = .ok (.iadd, 1) := by decide +kernel
theorem dJ6_bitCount_0f7a4_23 : decode cJ6_bitCount_0f7a4 23 = .ok (.istore_n 0, 1) := by decide +kernel
theorem dJ6_bitCount_0f7a4_24 : decode cJ6_bitCount_0f7a4 24 = .ok (.iload_n 0, 1) := by decide +kernel
theorem dJ6_bitCount_0f7a4_25 : decode cJ6_bitCount_0f7a4 25 = .ok (.iload_n 0, 1) := by decide +kernel
theorem dJ6_bitCount_0f7a4_26 : decode cJ6_bitCount_0f7a4 26 = .ok (.iconst 4, 1) := by decide +kernel
theorem dJ6_bitCount_0f7a4_27 : decode cJ6_bitCount_0f7a4 27 = .ok (.iushr, 1) := by decide +kernel
theorem dJ6_bitCount_0f7a4_28 : decode cJ6_bitCount_0f7a4 28 = .ok (.iadd, 1) := by decide +kernel
theorem dJ6_bitCount_0f7a4_29 : decode cJ6_bitCount_0f7a4 29 = .ok (.ldc_w 267, 3) := by decide +kernel
theorem dJ6_bitCount_0f7a4_32 : decode cJ6_bitCount_0f7a4 32 = .ok (.iand, 1) := by decide +kernel
theorem dJ6_bitCount_0f7a4_33 : decode cJ6_bitCount_0f7a4 33 = .ok (.istore_n 0, 1) := by decide +kernel
theorem dJ6_bitCount_0f7a4_34 : decode cJ6_bitCount_0f7a4 34 = .ok (.iload_n 0, 1) := by decide +kernel
theorem dJ6_bitCount_0f7a4_35 : decode cJ6_bitCount_0f7a4 35 = .ok (.iload_n 0, 1) := by decide +kernel
theorem dJ6_bitCount_0f7a4_36 : decode cJ6_bitCount_0f7a4 36 = .ok (.bipush 8, 2) := by decide +kernel
theorem dJ6_bitCount_0f7a4_38 : decode cJ6_bitCount_0f7a4 38 = .ok (.iushr, 1) := by decide +kernel
theorem dJ6_bitCount_0f7a4_39 : decode cJ6_bitCount_0f7a4 39 = .ok (.iadd, 1) := by decide +kernel
theorem dJ6_bitCount_0f7a4_40 : decode cJ6_bitCount_0f7a4 40 = .ok (.istore_n 0, 1) := by decide +kernel
theorem dJ6_bitCount_0f7a4_41 : decode cJ6_bitCount_0f7a4 41 = .ok (.iload_n 0, 1) := by decide +kernel
theorem dJ6_bitCount_0f7a4_42 : decode cJ6_bitCount_0f7a4 42 = .ok (.iload_n 0, 1) := by decide +kernel
theorem dJ6_bitCount_0f7a4_43 : decode cJ6_bitCount_0f7a4 43 = .ok (.bipush 16, 2) := by decide +kernel
theorem dJ6_bitCount_0f7a4_45 : decode cJ6_bitCount_0f7a4 45 = .ok (.iushr, 1) := by decide +kernel
theorem dJ6_bitCount_0f7a4_46 : decode cJ6_bitCount_0f7a4 46 = .ok (.iadd, 1) := by decide +kernel
theorem dJ6_bitCount_0f7a4_47 : decode cJ6_bitCount_0f7a4 47 = .ok (.istore_n 0, 1) := by decide +kernel
theorem dJ6_bitCount_0f7a4_48 : decode cJ6_bitCount_0f7a4 48 = .ok (.iload_n 0, 1) := by decide +kernel
theorem dJ6_bitCount_0f7a4_49 : decode cJ6_bitCount_0f7a4 49 = .ok (.bipush 63, 2) := by decide +kernel
theorem dJ6_bitCount_0f7a4_51 : decode cJ6_bitCount_0f7a4 51 = .ok (.iand, 1) := by decide +kernel
theorem dJ6_bitCount_0f7a4_52 : decode cJ6_bitCount_0f7a4 52 = .ok (.ireturn, 1) := by decide +kernel
theorem dJ9_max_7cf53_0 : decode cJ9_max_7cf53 0 = .ok (.iload_n 0, 1) := by decide +kernel
theorem dJ9_max_7cf53_1 : decode cJ9_max_7cf53 1 = .ok (.iload_n 1, 1) := by decide +kernel
theorem dJ9_max_7cf53_2 : decode cJ9_max_7cf53 2 = .ok (.if_icmp .lt 7, 3) := by decide +kernel
theorem dJ9_max_7cf53_5 : decode cJ9_max_7cf53 5 = .ok (.iload_n 0, 1) := by decide +kernel
theorem dJ9_max_7cf53_6 : decode cJ9_max_7cf53 6 = .ok (.goto 4, 3) := by decide +kernel
theorem dJ9_max_7cf53_9 : decode cJ9_max_7cf53 9 = .ok (.iload_n 1, 1) := by decide +kernel
theorem dJ9_max_7cf53_10 : decode cJ9_max_7cf53 10 = .ok (.ireturn, 1) := by decide +kernel
theorem dL_law_0 : decode cL_law 0 = .ok (.new 7, 3) := by decide +kernel
theorem dL_law_3 : decode cL_law 3 = .ok (.dup, 1) := by decide +kernel
theorem dL_law_4 : decode cL_law 4 = .ok (.invokespecial 9, 3) := by decide +kernel
theorem dL_law_7 : decode cL_law 7 = .ok (.astore_n 1, 1) := by decide +kernel
theorem dL_law_8 : decode cL_law 8 = .ok (.new 10, 3) := by decide +kernel
theorem dL_law_11 : decode cL_law 11 = .ok (.dup, 1) := by decide +kernel
theorem dL_law_12 : decode cL_law 12 = .ok (.invokespecial 12, 3) := by decide +kernel
theorem dL_law_15 : decode cL_law 15 = .ok (.astore_n 2, 1) := by decide +kernel
theorem dL_law_16 : decode cL_law 16 = .ok (.iconst 0, 1) := by decide +kernel
theorem dL_law_17 : decode cL_law 17 = .ok (.istore_n 3, 1) := by decide +kernel
theorem dL_law_18 : decode cL_law 18 = .ok (.iload_n 3, 1) := by decide +kernel
theorem dL_law_19 : decode cL_law 19 = .ok (.aload_n 0, 1) := by decide +kernel
theorem dL_law_20 : decode cL_law 20 = .ok (.arraylength, 1) := by decide +kernel
theorem dL_law_21 : decode cL_law 21 = .ok (.iconst 5, 1) := by decide +kernel
theorem dL_law_22 : decode cL_law 22 = .ok (.isub, 1) := by decide +kernel
theorem dL_law_23 : decode cL_law 23 = .ok (.if_icmp .gt 874, 3) := by decide +kernel
theorem dL_law_26 : decode cL_law 26 = .ok (.aload_n 0, 1) := by decide +kernel
theorem dL_law_27 : decode cL_law 27 = .ok (.iload_n 3, 1) := by decide +kernel
theorem dL_law_28 : decode cL_law 28 = .ok (.iaload, 1) := by decide +kernel
theorem dL_law_29 : decode cL_law 29 = .ok (.bipush 31, 2) := by decide +kernel
theorem dL_law_31 : decode cL_law 31 = .ok (.iand, 1) := by decide +kernel
theorem dL_law_32 : decode cL_law 32 = .ok (.tableswitch 859 0 28 #[132, 155, 168, 181, 194, 227, 260, 293, 316, 349, 372, 395, 408, 431, 464, 487, 510, 533, 566, 589, 612, 655, 668, 691, 714, 767, 810, 823, 836], 132) := by decide +kernel
theorem dL_law_164 : decode cL_law 164 = .ok (.aload_n 1, 1) := by decide +kernel
theorem dL_law_165 : decode cL_law 165 = .ok (.aload_n 0, 1) := by decide +kernel
theorem dL_law_166 : decode cL_law 166 = .ok (.iload_n 3, 1) := by decide +kernel
theorem dL_law_167 : decode cL_law 167 = .ok (.iconst 1, 1) := by decide +kernel
theorem dL_law_168 : decode cL_law 168 = .ok (.iadd, 1) := by decide +kernel
theorem dL_law_169 : decode cL_law 169 = .ok (.iaload, 1) := by decide +kernel
theorem dL_law_170 : decode cL_law 170 = .ok (.invokevirtual 13, 3) := by decide +kernel
theorem dL_law_173 : decode cL_law 173 = .ok (.aload_n 2, 1) := by decide +kernel
theorem dL_law_174 : decode cL_law 174 = .ok (.aload_n 0, 1) := by decide +kernel
theorem dL_law_175 : decode cL_law 175 = .ok (.iload_n 3, 1) := by decide +kernel
theorem dL_law_176 : decode cL_law 176 = .ok (.iconst 1, 1) := by decide +kernel
theorem dL_law_177 : decode cL_law 177 = .ok (.iadd, 1) := by decide +kernel
theorem dL_law_178 : decode cL_law 178 = .ok (.iaload, 1) := by decide +kernel
theorem dL_law_179 : decode cL_law 179 = .ok (.invokevirtual 17, 3) := by decide +kernel
theorem dL_law_182 : decode cL_law 182 = .ok (.if_icmp .eq 709, 3) := by decide +kernel
theorem dL_law_185 : decode cL_law 185 = .ok (.iconst 0, 1) := by decide +kernel
theorem dL_law_186 : decode cL_law 186 = .ok (.ireturn, 1) := by decide +kernel
theorem dL_law_187 : decode cL_law 187 = .ok (.aload_n 1, 1) := by decide +kernel
theorem dL_law_188 : decode cL_law 188 = .ok (.invokevirtual 18, 3) := by decide +kernel
theorem dL_law_191 : decode cL_law 191 = .ok (.aload_n 2, 1) := by decide +kernel
theorem dL_law_192 : decode cL_law 192 = .ok (.invokevirtual 22, 3) := by decide +kernel
theorem dL_law_195 : decode cL_law 195 = .ok (.if_icmp .eq 696, 3) := by decide +kernel
theorem dL_law_198 : decode cL_law 198 = .ok (.iconst 0, 1) := by decide +kernel
theorem dL_law_199 : decode cL_law 199 = .ok (.ireturn, 1) := by decide +kernel
theorem dL_law_200 : decode cL_law 200 = .ok (.aload_n 1, 1) := by decide +kernel
theorem dL_law_201 : decode cL_law 201 = .ok (.invokevirtual 23, 3) := by decide +kernel
theorem dL_law_204 : decode cL_law 204 = .ok (.aload_n 2, 1) := by decide +kernel
theorem dL_law_205 : decode cL_law 205 = .ok (.invokevirtual 26, 3) := by decide +kernel
theorem dL_law_208 : decode cL_law 208 = .ok (.if_icmp .eq 683, 3) := by decide +kernel
theorem dL_law_211 : decode cL_law 211 = .ok (.iconst 0, 1) := by decide +kernel
theorem dL_law_212 : decode cL_law 212 = .ok (.ireturn, 1) := by decide +kernel
theorem dL_law_213 : decode cL_law 213 = .ok (.aload_n 1, 1) := by decide +kernel
theorem dL_law_214 : decode cL_law 214 = .ok (.invokevirtual 27, 3) := by decide +kernel
theorem dL_law_217 : decode cL_law 217 = .ok (.aload_n 2, 1) := by decide +kernel
theorem dL_law_218 : decode cL_law 218 = .ok (.invokevirtual 30, 3) := by decide +kernel
theorem dL_law_221 : decode cL_law 221 = .ok (.if_icmp .eq 670, 3) := by decide +kernel
theorem dL_law_224 : decode cL_law 224 = .ok (.iconst 0, 1) := by decide +kernel
theorem dL_law_225 : decode cL_law 225 = .ok (.ireturn, 1) := by decide +kernel
theorem dL_law_226 : decode cL_law 226 = .ok (.aload_n 1, 1) := by decide +kernel
theorem dL_law_227 : decode cL_law 227 = .ok (.aload_n 0, 1) := by decide +kernel
theorem dL_law_228 : decode cL_law 228 = .ok (.iload_n 3, 1) := by decide +kernel
theorem dL_law_229 : decode cL_law 229 = .ok (.iconst 1, 1) := by decide +kernel
theorem dL_law_230 : decode cL_law 230 = .ok (.iadd, 1) := by decide +kernel
theorem dL_law_231 : decode cL_law 231 = .ok (.iaload, 1) := by decide +kernel
theorem dL_law_232 : decode cL_law 232 = .ok (.aload_n 0, 1) := by decide +kernel
theorem dL_law_233 : decode cL_law 233 = .ok (.iload_n 3, 1) := by decide +kernel
theorem dL_law_234 : decode cL_law 234 = .ok (.iconst 2, 1) := by decide +kernel
theorem dL_law_235 : decode cL_law 235 = .ok (.iadd, 1) := by decide +kernel
theorem dL_law_236 : decode cL_law 236 = .ok (.iaload, 1) := by decide +kernel
theorem dL_law_237 : decode cL_law 237 = .ok (.invokevirtual 31, 3) := by decide +kernel
theorem dL_law_240 : decode cL_law 240 = .ok (.aload_n 2, 1) := by decide +kernel
theorem dL_law_241 : decode cL_law 241 = .ok (.aload_n 0, 1) := by decide +kernel
theorem dL_law_242 : decode cL_law 242 = .ok (.iload_n 3, 1) := by decide +kernel
theorem dL_law_243 : decode cL_law 243 = .ok (.iconst 1, 1) := by decide +kernel
theorem dL_law_244 : decode cL_law 244 = .ok (.iadd, 1) := by decide +kernel
theorem dL_law_245 : decode cL_law 245 = .ok (.iaload, 1) := by decide +kernel
theorem dL_law_246 : decode cL_law 246 = .ok (.aload_n 0, 1) := by decide +kernel
theorem dL_law_247 : decode cL_law 247 = .ok (.iload_n 3, 1) := by decide +kernel
theorem dL_law_248 : decode cL_law 248 = .ok (.iconst 2, 1) := by decide +kernel
theorem dL_law_249 : decode cL_law 249 = .ok (.iadd, 1) := by decide +kernel
theorem dL_law_250 : decode cL_law 250 = .ok (.iaload, 1) := by decide +kernel
theorem dL_law_251 : decode cL_law 251 = .ok (.invokevirtual 35, 3) := by decide +kernel
theorem dL_law_254 : decode cL_law 254 = .ok (.if_icmp .eq 637, 3) := by decide +kernel
theorem dL_law_257 : decode cL_law 257 = .ok (.iconst 0, 1) := by decide +kernel
theorem dL_law_258 : decode cL_law 258 = .ok (.ireturn, 1) := by decide +kernel
theorem dL_law_259 : decode cL_law 259 = .ok (.aload_n 1, 1) := by decide +kernel
theorem dL_law_260 : decode cL_law 260 = .ok (.aload_n 0, 1) := by decide +kernel
theorem dL_law_261 : decode cL_law 261 = .ok (.iload_n 3, 1) := by decide +kernel
theorem dL_law_262 : decode cL_law 262 = .ok (.iconst 1, 1) := by decide +kernel
theorem dL_law_263 : decode cL_law 263 = .ok (.iadd, 1) := by decide +kernel
theorem dL_law_264 : decode cL_law 264 = .ok (.iaload, 1) := by decide +kernel
theorem dL_law_265 : decode cL_law 265 = .ok (.aload_n 0, 1) := by decide +kernel
theorem dL_law_266 : decode cL_law 266 = .ok (.iload_n 3, 1) := by decide +kernel
theorem dL_law_267 : decode cL_law 267 = .ok (.iconst 2, 1) := by decide +kernel
theorem dL_law_268 : decode cL_law 268 = .ok (.iadd, 1) := by decide +kernel
theorem dL_law_269 : decode cL_law 269 = .ok (.iaload, 1) := by decide +kernel
theorem dL_law_270 : decode cL_law 270 = .ok (.invokevirtual 36, 3) := by decide +kernel
theorem dL_law_273 : decode cL_law 273 = .ok (.aload_n 2, 1) := by decide +kernel
theorem dL_law_274 : decode cL_law 274 = .ok (.aload_n 0, 1) := by decide +kernel
theorem dL_law_275 : decode cL_law 275 = .ok (.iload_n 3, 1) := by decide +kernel
theorem dL_law_276 : decode cL_law 276 = .ok (.iconst 1, 1) := by decide +kernel
theorem dL_law_277 : decode cL_law 277 = .ok (.iadd, 1) := by decide +kernel
theorem dL_law_278 : decode cL_law 278 = .ok (.iaload, 1) := by decide +kernel
theorem dL_law_279 : decode cL_law 279 = .ok (.aload_n 0, 1) := by decide +kernel
theorem dL_law_280 : decode cL_law 280 = .ok (.iload_n 3, 1) := by decide +kernel
theorem dL_law_281 : decode cL_law 281 = .ok (.iconst 2, 1) := by decide +kernel
theorem dL_law_282 : decode cL_law 282 = .ok (.iadd, 1) := by decide +kernel
theorem dL_law_283 : decode cL_law 283 = .ok (.iaload, 1) := by decide +kernel
theorem dL_law_284 : decode cL_law 284 = .ok (.invokevirtual 39, 3) := by decide +kernel
theorem dL_law_287 : decode cL_law 287 = .ok (.if_icmp .eq 604, 3) := by decide +kernel
theorem dL_law_290 : decode cL_law 290 = .ok (.iconst 0, 1) := by decide +kernel
theorem dL_law_291 : decode cL_law 291 = .ok (.ireturn, 1) := by decide +kernel
theorem dL_law_292 : decode cL_law 292 = .ok (.aload_n 1, 1) := by decide +kernel
theorem dL_law_293 : decode cL_law 293 = .ok (.aload_n 0, 1) := by decide +kernel
theorem dL_law_294 : decode cL_law 294 = .ok (.iload_n 3, 1) := by decide +kernel
theorem dL_law_295 : decode cL_law 295 = .ok (.iconst 1, 1) := by decide +kernel
theorem dL_law_296 : decode cL_law 296 = .ok (.iadd, 1) := by decide +kernel
theorem dL_law_297 : decode cL_law 297 = .ok (.iaload, 1) := by decide +kernel
theorem dL_law_298 : decode cL_law 298 = .ok (.aload_n 0, 1) := by decide +kernel
theorem dL_law_299 : decode cL_law 299 = .ok (.iload_n 3, 1) := by decide +kernel
theorem dL_law_300 : decode cL_law 300 = .ok (.iconst 2, 1) := by decide +kernel
theorem dL_law_301 : decode cL_law 301 = .ok (.iadd, 1) := by decide +kernel
theorem dL_law_302 : decode cL_law 302 = .ok (.iaload, 1) := by decide +kernel
theorem dL_law_303 : decode cL_law 303 = .ok (.invokevirtual 40, 3) := by decide +kernel
theorem dL_law_306 : decode cL_law 306 = .ok (.aload_n 2, 1) := by decide +kernel
theorem dL_law_307 : decode cL_law 307 = .ok (.aload_n 0, 1) := by decide +kernel
theorem dL_law_308 : decode cL_law 308 = .ok (.iload_n 3, 1) := by decide +kernel
theorem dL_law_309 : decode cL_law 309 = .ok (.iconst 1, 1) := by decide +kernel
theorem dL_law_310 : decode cL_law 310 = .ok (.iadd, 1) := by decide +kernel
theorem dL_law_311 : decode cL_law 311 = .ok (.iaload, 1) := by decide +kernel
theorem dL_law_312 : decode cL_law 312 = .ok (.aload_n 0, 1) := by decide +kernel
theorem dL_law_313 : decode cL_law 313 = .ok (.iload_n 3, 1) := by decide +kernel
theorem dL_law_314 : decode cL_law 314 = .ok (.iconst 2, 1) := by decide +kernel
theorem dL_law_315 : decode cL_law 315 = .ok (.iadd, 1) := by decide +kernel
theorem dL_law_316 : decode cL_law 316 = .ok (.iaload, 1) := by decide +kernel
theorem dL_law_317 : decode cL_law 317 = .ok (.invokevirtual 43, 3) := by decide +kernel
theorem dL_law_320 : decode cL_law 320 = .ok (.if_icmp .eq 571, 3) := by decide +kernel
theorem dL_law_323 : decode cL_law 323 = .ok (.iconst 0, 1) := by decide +kernel
theorem dL_law_324 : decode cL_law 324 = .ok (.ireturn, 1) := by decide +kernel
theorem dL_law_325 : decode cL_law 325 = .ok (.aload_n 1, 1) := by decide +kernel
theorem dL_law_326 : decode cL_law 326 = .ok (.aload_n 0, 1) := by decide +kernel
theorem dL_law_327 : decode cL_law 327 = .ok (.iload_n 3, 1) := by decide +kernel
theorem dL_law_328 : decode cL_law 328 = .ok (.iconst 1, 1) := by decide +kernel
theorem dL_law_329 : decode cL_law 329 = .ok (.iadd, 1) := by decide +kernel
theorem dL_law_330 : decode cL_law 330 = .ok (.iaload, 1) := by decide +kernel
theorem dL_law_331 : decode cL_law 331 = .ok (.invokevirtual 44, 3) := by decide +kernel
theorem dL_law_334 : decode cL_law 334 = .ok (.aload_n 2, 1) := by decide +kernel
theorem dL_law_335 : decode cL_law 335 = .ok (.aload_n 0, 1) := by decide +kernel
theorem dL_law_336 : decode cL_law 336 = .ok (.iload_n 3, 1) := by decide +kernel
theorem dL_law_337 : decode cL_law 337 = .ok (.iconst 1, 1) := by decide +kernel
theorem dL_law_338 : decode cL_law 338 = .ok (.iadd, 1) := by decide +kernel
theorem dL_law_339 : decode cL_law 339 = .ok (.iaload, 1) := by decide +kernel
theorem dL_law_340 : decode cL_law 340 = .ok (.invokevirtual 47, 3) := by decide +kernel
theorem dL_law_343 : decode cL_law 343 = .ok (.if_icmp .eq 548, 3) := by decide +kernel
theorem dL_law_346 : decode cL_law 346 = .ok (.iconst 0, 1) := by decide +kernel
theorem dL_law_347 : decode cL_law 347 = .ok (.ireturn, 1) := by decide +kernel
theorem dL_law_348 : decode cL_law 348 = .ok (.aload_n 1, 1) := by decide +kernel
theorem dL_law_349 : decode cL_law 349 = .ok (.aload_n 0, 1) := by decide +kernel
theorem dL_law_350 : decode cL_law 350 = .ok (.iload_n 3, 1) := by decide +kernel
theorem dL_law_351 : decode cL_law 351 = .ok (.iconst 1, 1) := by decide +kernel
theorem dL_law_352 : decode cL_law 352 = .ok (.iadd, 1) := by decide +kernel
theorem dL_law_353 : decode cL_law 353 = .ok (.iaload, 1) := by decide +kernel
theorem dL_law_354 : decode cL_law 354 = .ok (.aload_n 0, 1) := by decide +kernel
theorem dL_law_355 : decode cL_law 355 = .ok (.iload_n 3, 1) := by decide +kernel
theorem dL_law_356 : decode cL_law 356 = .ok (.iconst 2, 1) := by decide +kernel
theorem dL_law_357 : decode cL_law 357 = .ok (.iadd, 1) := by decide +kernel
theorem dL_law_358 : decode cL_law 358 = .ok (.iaload, 1) := by decide +kernel
theorem dL_law_359 : decode cL_law 359 = .ok (.invokevirtual 48, 3) := by decide +kernel
theorem dL_law_362 : decode cL_law 362 = .ok (.aload_n 2, 1) := by decide +kernel
theorem dL_law_363 : decode cL_law 363 = .ok (.aload_n 0, 1) := by decide +kernel
theorem dL_law_364 : decode cL_law 364 = .ok (.iload_n 3, 1) := by decide +kernel
theorem dL_law_365 : decode cL_law 365 = .ok (.iconst 1, 1) := by decide +kernel
theorem dL_law_366 : decode cL_law 366 = .ok (.iadd, 1) := by decide +kernel
theorem dL_law_367 : decode cL_law 367 = .ok (.iaload, 1) := by decide +kernel
theorem dL_law_368 : decode cL_law 368 = .ok (.aload_n 0, 1) := by decide +kernel
theorem dL_law_369 : decode cL_law 369 = .ok (.iload_n 3, 1) := by decide +kernel
theorem dL_law_370 : decode cL_law 370 = .ok (.iconst 2, 1) := by decide +kernel
theorem dL_law_371 : decode cL_law 371 = .ok (.iadd, 1) := by decide +kernel
theorem dL_law_372 : decode cL_law 372 = .ok (.iaload, 1) := by decide +kernel
theorem dL_law_373 : decode cL_law 373 = .ok (.invokevirtual 51, 3) := by decide +kernel
theorem dL_law_376 : decode cL_law 376 = .ok (.if_icmp .eq 515, 3) := by decide +kernel
theorem dL_law_379 : decode cL_law 379 = .ok (.iconst 0, 1) := by decide +kernel
theorem dL_law_380 : decode cL_law 380 = .ok (.ireturn, 1) := by decide +kernel
theorem dL_law_381 : decode cL_law 381 = .ok (.aload_n 1, 1) := by decide +kernel
theorem dL_law_382 : decode cL_law 382 = .ok (.aload_n 0, 1) := by decide +kernel
theorem dL_law_383 : decode cL_law 383 = .ok (.iload_n 3, 1) := by decide +kernel
theorem dL_law_384 : decode cL_law 384 = .ok (.iconst 1, 1) := by decide +kernel
theorem dL_law_385 : decode cL_law 385 = .ok (.iadd, 1) := by decide +kernel
theorem dL_law_386 : decode cL_law 386 = .ok (.iaload, 1) := by decide +kernel
theorem dL_law_387 : decode cL_law 387 = .ok (.invokevirtual 52, 3) := by decide +kernel
theorem dL_law_390 : decode cL_law 390 = .ok (.aload_n 2, 1) := by decide +kernel
theorem dL_law_391 : decode cL_law 391 = .ok (.aload_n 0, 1) := by decide +kernel
theorem dL_law_392 : decode cL_law 392 = .ok (.iload_n 3, 1) := by decide +kernel
theorem dL_law_393 : decode cL_law 393 = .ok (.iconst 1, 1) := by decide +kernel
theorem dL_law_394 : decode cL_law 394 = .ok (.iadd, 1) := by decide +kernel
theorem dL_law_395 : decode cL_law 395 = .ok (.iaload, 1) := by decide +kernel
theorem dL_law_396 : decode cL_law 396 = .ok (.invokevirtual 55, 3) := by decide +kernel
theorem dL_law_399 : decode cL_law 399 = .ok (.if_icmp .eq 492, 3) := by decide +kernel
theorem dL_law_402 : decode cL_law 402 = .ok (.iconst 0, 1) := by decide +kernel
theorem dL_law_403 : decode cL_law 403 = .ok (.ireturn, 1) := by decide +kernel
theorem dL_law_404 : decode cL_law 404 = .ok (.aload_n 1, 1) := by decide +kernel
theorem dL_law_405 : decode cL_law 405 = .ok (.aload_n 0, 1) := by decide +kernel
theorem dL_law_406 : decode cL_law 406 = .ok (.iload_n 3, 1) := by decide +kernel
theorem dL_law_407 : decode cL_law 407 = .ok (.iconst 1, 1) := by decide +kernel
theorem dL_law_408 : decode cL_law 408 = .ok (.iadd, 1) := by decide +kernel
theorem dL_law_409 : decode cL_law 409 = .ok (.iaload, 1) := by decide +kernel
theorem dL_law_410 : decode cL_law 410 = .ok (.invokevirtual 56, 3) := by decide +kernel
theorem dL_law_413 : decode cL_law 413 = .ok (.aload_n 2, 1) := by decide +kernel
theorem dL_law_414 : decode cL_law 414 = .ok (.aload_n 0, 1) := by decide +kernel
theorem dL_law_415 : decode cL_law 415 = .ok (.iload_n 3, 1) := by decide +kernel
theorem dL_law_416 : decode cL_law 416 = .ok (.iconst 1, 1) := by decide +kernel
theorem dL_law_417 : decode cL_law 417 = .ok (.iadd, 1) := by decide +kernel
theorem dL_law_418 : decode cL_law 418 = .ok (.iaload, 1) := by decide +kernel
theorem dL_law_419 : decode cL_law 419 = .ok (.invokevirtual 59, 3) := by decide +kernel
theorem dL_law_422 : decode cL_law 422 = .ok (.if_icmp .eq 469, 3) := by decide +kernel
theorem dL_law_425 : decode cL_law 425 = .ok (.iconst 0, 1) := by decide +kernel
theorem dL_law_426 : decode cL_law 426 = .ok (.ireturn, 1) := by decide +kernel
theorem dL_law_427 : decode cL_law 427 = .ok (.aload_n 1, 1) := by decide +kernel
theorem dL_law_428 : decode cL_law 428 = .ok (.invokevirtual 60, 3) := by decide +kernel
theorem dL_law_431 : decode cL_law 431 = .ok (.aload_n 2, 1) := by decide +kernel
theorem dL_law_432 : decode cL_law 432 = .ok (.invokevirtual 63, 3) := by decide +kernel
theorem dL_law_435 : decode cL_law 435 = .ok (.if_icmp .eq 456, 3) := by decide +kernel
theorem dL_law_438 : decode cL_law 438 = .ok (.iconst 0, 1) := by decide +kernel
theorem dL_law_439 : decode cL_law 439 = .ok (.ireturn, 1) := by decide +kernel
theorem dL_law_440 : decode cL_law 440 = .ok (.aload_n 1, 1) := by decide +kernel
theorem dL_law_441 : decode cL_law 441 = .ok (.aload_n 0, 1) := by decide +kernel
theorem dL_law_442 : decode cL_law 442 = .ok (.iload_n 3, 1) := by decide +kernel
theorem dL_law_443 : decode cL_law 443 = .ok (.iconst 1, 1) := by decide +kernel
theorem dL_law_444 : decode cL_law 444 = .ok (.iadd, 1) := by decide +kernel
theorem dL_law_445 : decode cL_law 445 = .ok (.iaload, 1) := by decide +kernel
theorem dL_law_446 : decode cL_law 446 = .ok (.invokevirtual 64, 3) := by decide +kernel
theorem dL_law_449 : decode cL_law 449 = .ok (.aload_n 2, 1) := by decide +kernel
theorem dL_law_450 : decode cL_law 450 = .ok (.aload_n 0, 1) := by decide +kernel
theorem dL_law_451 : decode cL_law 451 = .ok (.iload_n 3, 1) := by decide +kernel
theorem dL_law_452 : decode cL_law 452 = .ok (.iconst 1, 1) := by decide +kernel
theorem dL_law_453 : decode cL_law 453 = .ok (.iadd, 1) := by decide +kernel
theorem dL_law_454 : decode cL_law 454 = .ok (.iaload, 1) := by decide +kernel
theorem dL_law_455 : decode cL_law 455 = .ok (.invokevirtual 67, 3) := by decide +kernel
theorem dL_law_458 : decode cL_law 458 = .ok (.if_icmp .eq 433, 3) := by decide +kernel
theorem dL_law_461 : decode cL_law 461 = .ok (.iconst 0, 1) := by decide +kernel
theorem dL_law_462 : decode cL_law 462 = .ok (.ireturn, 1) := by decide +kernel
theorem dL_law_463 : decode cL_law 463 = .ok (.aload_n 1, 1) := by decide +kernel
theorem dL_law_464 : decode cL_law 464 = .ok (.aload_n 0, 1) := by decide +kernel
theorem dL_law_465 : decode cL_law 465 = .ok (.iload_n 3, 1) := by decide +kernel
theorem dL_law_466 : decode cL_law 466 = .ok (.iconst 1, 1) := by decide +kernel
theorem dL_law_467 : decode cL_law 467 = .ok (.iadd, 1) := by decide +kernel
theorem dL_law_468 : decode cL_law 468 = .ok (.iaload, 1) := by decide +kernel
theorem dL_law_469 : decode cL_law 469 = .ok (.aload_n 0, 1) := by decide +kernel
theorem dL_law_470 : decode cL_law 470 = .ok (.iload_n 3, 1) := by decide +kernel
theorem dL_law_471 : decode cL_law 471 = .ok (.iconst 2, 1) := by decide +kernel
theorem dL_law_472 : decode cL_law 472 = .ok (.iadd, 1) := by decide +kernel
theorem dL_law_473 : decode cL_law 473 = .ok (.iaload, 1) := by decide +kernel
theorem dL_law_474 : decode cL_law 474 = .ok (.invokevirtual 68, 3) := by decide +kernel
theorem dL_law_477 : decode cL_law 477 = .ok (.aload_n 2, 1) := by decide +kernel
theorem dL_law_478 : decode cL_law 478 = .ok (.aload_n 0, 1) := by decide +kernel
theorem dL_law_479 : decode cL_law 479 = .ok (.iload_n 3, 1) := by decide +kernel
theorem dL_law_480 : decode cL_law 480 = .ok (.iconst 1, 1) := by decide +kernel
theorem dL_law_481 : decode cL_law 481 = .ok (.iadd, 1) := by decide +kernel
theorem dL_law_482 : decode cL_law 482 = .ok (.iaload, 1) := by decide +kernel
theorem dL_law_483 : decode cL_law 483 = .ok (.aload_n 0, 1) := by decide +kernel
theorem dL_law_484 : decode cL_law 484 = .ok (.iload_n 3, 1) := by decide +kernel
theorem dL_law_485 : decode cL_law 485 = .ok (.iconst 2, 1) := by decide +kernel
theorem dL_law_486 : decode cL_law 486 = .ok (.iadd, 1) := by decide +kernel
theorem dL_law_487 : decode cL_law 487 = .ok (.iaload, 1) := by decide +kernel
theorem dL_law_488 : decode cL_law 488 = .ok (.invokevirtual 71, 3) := by decide +kernel
theorem dL_law_491 : decode cL_law 491 = .ok (.if_icmp .eq 400, 3) := by decide +kernel
theorem dL_law_494 : decode cL_law 494 = .ok (.iconst 0, 1) := by decide +kernel
theorem dL_law_495 : decode cL_law 495 = .ok (.ireturn, 1) := by decide +kernel
theorem dL_law_496 : decode cL_law 496 = .ok (.aload_n 1, 1) := by decide +kernel
theorem dL_law_497 : decode cL_law 497 = .ok (.aload_n 0, 1) := by decide +kernel
theorem dL_law_498 : decode cL_law 498 = .ok (.iload_n 3, 1) := by decide +kernel
theorem dL_law_499 : decode cL_law 499 = .ok (.iconst 1, 1) := by decide +kernel
theorem dL_law_500 : decode cL_law 500 = .ok (.iadd, 1) := by decide +kernel
theorem dL_law_501 : decode cL_law 501 = .ok (.iaload, 1) := by decide +kernel
theorem dL_law_502 : decode cL_law 502 = .ok (.invokevirtual 72, 3) := by decide +kernel
theorem dL_law_505 : decode cL_law 505 = .ok (.aload_n 2, 1) := by decide +kernel
theorem dL_law_506 : decode cL_law 506 = .ok (.aload_n 0, 1) := by decide +kernel
theorem dL_law_507 : decode cL_law 507 = .ok (.iload_n 3, 1) := by decide +kernel
theorem dL_law_508 : decode cL_law 508 = .ok (.iconst 1, 1) := by decide +kernel
theorem dL_law_509 : decode cL_law 509 = .ok (.iadd, 1) := by decide +kernel
theorem dL_law_510 : decode cL_law 510 = .ok (.iaload, 1) := by decide +kernel
theorem dL_law_511 : decode cL_law 511 = .ok (.invokevirtual 75, 3) := by decide +kernel
theorem dL_law_514 : decode cL_law 514 = .ok (.if_icmp .eq 377, 3) := by decide +kernel
theorem dL_law_517 : decode cL_law 517 = .ok (.iconst 0, 1) := by decide +kernel
theorem dL_law_518 : decode cL_law 518 = .ok (.ireturn, 1) := by decide +kernel
theorem dL_law_519 : decode cL_law 519 = .ok (.aload_n 1, 1) := by decide +kernel
theorem dL_law_520 : decode cL_law 520 = .ok (.aload_n 0, 1) := by decide +kernel
theorem dL_law_521 : decode cL_law 521 = .ok (.iload_n 3, 1) := by decide +kernel
theorem dL_law_522 : decode cL_law 522 = .ok (.iconst 1, 1) := by decide +kernel
theorem dL_law_523 : decode cL_law 523 = .ok (.iadd, 1) := by decide +kernel
theorem dL_law_524 : decode cL_law 524 = .ok (.iaload, 1) := by decide +kernel
theorem dL_law_525 : decode cL_law 525 = .ok (.invokevirtual 76, 3) := by decide +kernel
theorem dL_law_528 : decode cL_law 528 = .ok (.aload_n 2, 1) := by decide +kernel
theorem dL_law_529 : decode cL_law 529 = .ok (.aload_n 0, 1) := by decide +kernel
theorem dL_law_530 : decode cL_law 530 = .ok (.iload_n 3, 1) := by decide +kernel
theorem dL_law_531 : decode cL_law 531 = .ok (.iconst 1, 1) := by decide +kernel
theorem dL_law_532 : decode cL_law 532 = .ok (.iadd, 1) := by decide +kernel
theorem dL_law_533 : decode cL_law 533 = .ok (.iaload, 1) := by decide +kernel
theorem dL_law_534 : decode cL_law 534 = .ok (.invokevirtual 79, 3) := by decide +kernel
theorem dL_law_537 : decode cL_law 537 = .ok (.if_icmp .eq 354, 3) := by decide +kernel
theorem dL_law_540 : decode cL_law 540 = .ok (.iconst 0, 1) := by decide +kernel
theorem dL_law_541 : decode cL_law 541 = .ok (.ireturn, 1) := by decide +kernel
theorem dL_law_542 : decode cL_law 542 = .ok (.aload_n 1, 1) := by decide +kernel
theorem dL_law_543 : decode cL_law 543 = .ok (.aload_n 0, 1) := by decide +kernel
theorem dL_law_544 : decode cL_law 544 = .ok (.iload_n 3, 1) := by decide +kernel
theorem dL_law_545 : decode cL_law 545 = .ok (.iconst 1, 1) := by decide +kernel
theorem dL_law_546 : decode cL_law 546 = .ok (.iadd, 1) := by decide +kernel
theorem dL_law_547 : decode cL_law 547 = .ok (.iaload, 1) := by decide +kernel
theorem dL_law_548 : decode cL_law 548 = .ok (.invokevirtual 80, 3) := by decide +kernel
theorem dL_law_551 : decode cL_law 551 = .ok (.aload_n 2, 1) := by decide +kernel
theorem dL_law_552 : decode cL_law 552 = .ok (.aload_n 0, 1) := by decide +kernel
theorem dL_law_553 : decode cL_law 553 = .ok (.iload_n 3, 1) := by decide +kernel
theorem dL_law_554 : decode cL_law 554 = .ok (.iconst 1, 1) := by decide +kernel
theorem dL_law_555 : decode cL_law 555 = .ok (.iadd, 1) := by decide +kernel
theorem dL_law_556 : decode cL_law 556 = .ok (.iaload, 1) := by decide +kernel
theorem dL_law_557 : decode cL_law 557 = .ok (.invokevirtual 83, 3) := by decide +kernel
theorem dL_law_560 : decode cL_law 560 = .ok (.if_icmp .eq 331, 3) := by decide +kernel
theorem dL_law_563 : decode cL_law 563 = .ok (.iconst 0, 1) := by decide +kernel
theorem dL_law_564 : decode cL_law 564 = .ok (.ireturn, 1) := by decide +kernel
theorem dL_law_565 : decode cL_law 565 = .ok (.aload_n 1, 1) := by decide +kernel
theorem dL_law_566 : decode cL_law 566 = .ok (.aload_n 0, 1) := by decide +kernel
theorem dL_law_567 : decode cL_law 567 = .ok (.iload_n 3, 1) := by decide +kernel
theorem dL_law_568 : decode cL_law 568 = .ok (.iconst 1, 1) := by decide +kernel
theorem dL_law_569 : decode cL_law 569 = .ok (.iadd, 1) := by decide +kernel
theorem dL_law_570 : decode cL_law 570 = .ok (.iaload, 1) := by decide +kernel
theorem dL_law_571 : decode cL_law 571 = .ok (.aload_n 0, 1) := by decide +kernel
theorem dL_law_572 : decode cL_law 572 = .ok (.iload_n 3, 1) := by decide +kernel
theorem dL_law_573 : decode cL_law 573 = .ok (.iconst 2, 1) := by decide +kernel
theorem dL_law_574 : decode cL_law 574 = .ok (.iadd, 1) := by decide +kernel
theorem dL_law_575 : decode cL_law 575 = .ok (.iaload, 1) := by decide +kernel
theorem dL_law_576 : decode cL_law 576 = .ok (.invokevirtual 84, 3) := by decide +kernel
theorem dL_law_579 : decode cL_law 579 = .ok (.aload_n 2, 1) := by decide +kernel
theorem dL_law_580 : decode cL_law 580 = .ok (.aload_n 0, 1) := by decide +kernel
theorem dL_law_581 : decode cL_law 581 = .ok (.iload_n 3, 1) := by decide +kernel
theorem dL_law_582 : decode cL_law 582 = .ok (.iconst 1, 1) := by decide +kernel
theorem dL_law_583 : decode cL_law 583 = .ok (.iadd, 1) := by decide +kernel
theorem dL_law_584 : decode cL_law 584 = .ok (.iaload, 1) := by decide +kernel
theorem dL_law_585 : decode cL_law 585 = .ok (.aload_n 0, 1) := by decide +kernel
theorem dL_law_586 : decode cL_law 586 = .ok (.iload_n 3, 1) := by decide +kernel
theorem dL_law_587 : decode cL_law 587 = .ok (.iconst 2, 1) := by decide +kernel
theorem dL_law_588 : decode cL_law 588 = .ok (.iadd, 1) := by decide +kernel
theorem dL_law_589 : decode cL_law 589 = .ok (.iaload, 1) := by decide +kernel
theorem dL_law_590 : decode cL_law 590 = .ok (.invokevirtual 87, 3) := by decide +kernel
theorem dL_law_593 : decode cL_law 593 = .ok (.if_icmp .eq 298, 3) := by decide +kernel
theorem dL_law_596 : decode cL_law 596 = .ok (.iconst 0, 1) := by decide +kernel
theorem dL_law_597 : decode cL_law 597 = .ok (.ireturn, 1) := by decide +kernel
theorem dL_law_598 : decode cL_law 598 = .ok (.aload_n 1, 1) := by decide +kernel
theorem dL_law_599 : decode cL_law 599 = .ok (.aload_n 0, 1) := by decide +kernel
theorem dL_law_600 : decode cL_law 600 = .ok (.iload_n 3, 1) := by decide +kernel
theorem dL_law_601 : decode cL_law 601 = .ok (.iconst 1, 1) := by decide +kernel
theorem dL_law_602 : decode cL_law 602 = .ok (.iadd, 1) := by decide +kernel
theorem dL_law_603 : decode cL_law 603 = .ok (.iaload, 1) := by decide +kernel
theorem dL_law_604 : decode cL_law 604 = .ok (.invokevirtual 88, 3) := by decide +kernel
theorem dL_law_607 : decode cL_law 607 = .ok (.aload_n 2, 1) := by decide +kernel
theorem dL_law_608 : decode cL_law 608 = .ok (.aload_n 0, 1) := by decide +kernel
theorem dL_law_609 : decode cL_law 609 = .ok (.iload_n 3, 1) := by decide +kernel
theorem dL_law_610 : decode cL_law 610 = .ok (.iconst 1, 1) := by decide +kernel
theorem dL_law_611 : decode cL_law 611 = .ok (.iadd, 1) := by decide +kernel
theorem dL_law_612 : decode cL_law 612 = .ok (.iaload, 1) := by decide +kernel
theorem dL_law_613 : decode cL_law 613 = .ok (.invokevirtual 91, 3) := by decide +kernel
theorem dL_law_616 : decode cL_law 616 = .ok (.if_icmp .eq 275, 3) := by decide +kernel
theorem dL_law_619 : decode cL_law 619 = .ok (.iconst 0, 1) := by decide +kernel
theorem dL_law_620 : decode cL_law 620 = .ok (.ireturn, 1) := by decide +kernel
theorem dL_law_621 : decode cL_law 621 = .ok (.aload_n 1, 1) := by decide +kernel
theorem dL_law_622 : decode cL_law 622 = .ok (.aload_n 0, 1) := by decide +kernel
theorem dL_law_623 : decode cL_law 623 = .ok (.iload_n 3, 1) := by decide +kernel
theorem dL_law_624 : decode cL_law 624 = .ok (.iconst 1, 1) := by decide +kernel
theorem dL_law_625 : decode cL_law 625 = .ok (.iadd, 1) := by decide +kernel
theorem dL_law_626 : decode cL_law 626 = .ok (.iaload, 1) := by decide +kernel
theorem dL_law_627 : decode cL_law 627 = .ok (.invokevirtual 92, 3) := by decide +kernel
theorem dL_law_630 : decode cL_law 630 = .ok (.aload_n 2, 1) := by decide +kernel
theorem dL_law_631 : decode cL_law 631 = .ok (.aload_n 0, 1) := by decide +kernel
theorem dL_law_632 : decode cL_law 632 = .ok (.iload_n 3, 1) := by decide +kernel
theorem dL_law_633 : decode cL_law 633 = .ok (.iconst 1, 1) := by decide +kernel
theorem dL_law_634 : decode cL_law 634 = .ok (.iadd, 1) := by decide +kernel
theorem dL_law_635 : decode cL_law 635 = .ok (.iaload, 1) := by decide +kernel
theorem dL_law_636 : decode cL_law 636 = .ok (.invokevirtual 95, 3) := by decide +kernel
theorem dL_law_639 : decode cL_law 639 = .ok (.if_icmp .eq 252, 3) := by decide +kernel
theorem dL_law_642 : decode cL_law 642 = .ok (.iconst 0, 1) := by decide +kernel
theorem dL_law_643 : decode cL_law 643 = .ok (.ireturn, 1) := by decide +kernel
theorem dL_law_644 : decode cL_law 644 = .ok (.aload_n 1, 1) := by decide +kernel
theorem dL_law_645 : decode cL_law 645 = .ok (.aload_n 0, 1) := by decide +kernel
theorem dL_law_646 : decode cL_law 646 = .ok (.iload_n 3, 1) := by decide +kernel
theorem dL_law_647 : decode cL_law 647 = .ok (.iconst 1, 1) := by decide +kernel
theorem dL_law_648 : decode cL_law 648 = .ok (.iadd, 1) := by decide +kernel
theorem dL_law_649 : decode cL_law 649 = .ok (.iaload, 1) := by decide +kernel
theorem dL_law_650 : decode cL_law 650 = .ok (.aload_n 0, 1) := by decide +kernel
theorem dL_law_651 : decode cL_law 651 = .ok (.iload_n 3, 1) := by decide +kernel
theorem dL_law_652 : decode cL_law 652 = .ok (.iconst 2, 1) := by decide +kernel
theorem dL_law_653 : decode cL_law 653 = .ok (.iadd, 1) := by decide +kernel
theorem dL_law_654 : decode cL_law 654 = .ok (.iaload, 1) := by decide +kernel
theorem dL_law_655 : decode cL_law 655 = .ok (.aload_n 0, 1) := by decide +kernel
theorem dL_law_656 : decode cL_law 656 = .ok (.iload_n 3, 1) := by decide +kernel
theorem dL_law_657 : decode cL_law 657 = .ok (.iconst 3, 1) := by decide +kernel
theorem dL_law_658 : decode cL_law 658 = .ok (.iadd, 1) := by decide +kernel
theorem dL_law_659 : decode cL_law 659 = .ok (.iaload, 1) := by decide +kernel
theorem dL_law_660 : decode cL_law 660 = .ok (.invokevirtual 96, 3) := by decide +kernel
theorem dL_law_663 : decode cL_law 663 = .ok (.aload_n 2, 1) := by decide +kernel
theorem dL_law_664 : decode cL_law 664 = .ok (.aload_n 0, 1) := by decide +kernel
theorem dL_law_665 : decode cL_law 665 = .ok (.iload_n 3, 1) := by decide +kernel
theorem dL_law_666 : decode cL_law 666 = .ok (.iconst 1, 1) := by decide +kernel
theorem dL_law_667 : decode cL_law 667 = .ok (.iadd, 1) := by decide +kernel
theorem dL_law_668 : decode cL_law 668 = .ok (.iaload, 1) := by decide +kernel
theorem dL_law_669 : decode cL_law 669 = .ok (.aload_n 0, 1) := by decide +kernel
theorem dL_law_670 : decode cL_law 670 = .ok (.iload_n 3, 1) := by decide +kernel
theorem dL_law_671 : decode cL_law 671 = .ok (.iconst 2, 1) := by decide +kernel
theorem dL_law_672 : decode cL_law 672 = .ok (.iadd, 1) := by decide +kernel
theorem dL_law_673 : decode cL_law 673 = .ok (.iaload, 1) := by decide +kernel
theorem dL_law_674 : decode cL_law 674 = .ok (.aload_n 0, 1) := by decide +kernel
theorem dL_law_675 : decode cL_law 675 = .ok (.iload_n 3, 1) := by decide +kernel
theorem dL_law_676 : decode cL_law 676 = .ok (.iconst 3, 1) := by decide +kernel
theorem dL_law_677 : decode cL_law 677 = .ok (.iadd, 1) := by decide +kernel
theorem dL_law_678 : decode cL_law 678 = .ok (.iaload, 1) := by decide +kernel
theorem dL_law_679 : decode cL_law 679 = .ok (.invokevirtual 100, 3) := by decide +kernel
theorem dL_law_682 : decode cL_law 682 = .ok (.if_icmp .eq 209, 3) := by decide +kernel
theorem dL_law_685 : decode cL_law 685 = .ok (.iconst 0, 1) := by decide +kernel
theorem dL_law_686 : decode cL_law 686 = .ok (.ireturn, 1) := by decide +kernel
theorem dL_law_687 : decode cL_law 687 = .ok (.aload_n 1, 1) := by decide +kernel
theorem dL_law_688 : decode cL_law 688 = .ok (.invokevirtual 101, 3) := by decide +kernel
theorem dL_law_691 : decode cL_law 691 = .ok (.aload_n 2, 1) := by decide +kernel
theorem dL_law_692 : decode cL_law 692 = .ok (.invokevirtual 104, 3) := by decide +kernel
theorem dL_law_695 : decode cL_law 695 = .ok (.if_icmp .eq 196, 3) := by decide +kernel
theorem dL_law_698 : decode cL_law 698 = .ok (.iconst 0, 1) := by decide +kernel
theorem dL_law_699 : decode cL_law 699 = .ok (.ireturn, 1) := by decide +kernel
theorem dL_law_700 : decode cL_law 700 = .ok (.aload_n 1, 1) := by decide +kernel
theorem dL_law_701 : decode cL_law 701 = .ok (.aload_n 0, 1) := by decide +kernel
theorem dL_law_702 : decode cL_law 702 = .ok (.iload_n 3, 1) := by decide +kernel
theorem dL_law_703 : decode cL_law 703 = .ok (.iconst 1, 1) := by decide +kernel
theorem dL_law_704 : decode cL_law 704 = .ok (.iadd, 1) := by decide +kernel
theorem dL_law_705 : decode cL_law 705 = .ok (.iaload, 1) := by decide +kernel
theorem dL_law_706 : decode cL_law 706 = .ok (.invokevirtual 105, 3) := by decide +kernel
theorem dL_law_709 : decode cL_law 709 = .ok (.aload_n 2, 1) := by decide +kernel
theorem dL_law_710 : decode cL_law 710 = .ok (.aload_n 0, 1) := by decide +kernel
theorem dL_law_711 : decode cL_law 711 = .ok (.iload_n 3, 1) := by decide +kernel
theorem dL_law_712 : decode cL_law 712 = .ok (.iconst 1, 1) := by decide +kernel
theorem dL_law_713 : decode cL_law 713 = .ok (.iadd, 1) := by decide +kernel
theorem dL_law_714 : decode cL_law 714 = .ok (.iaload, 1) := by decide +kernel
theorem dL_law_715 : decode cL_law 715 = .ok (.invokevirtual 108, 3) := by decide +kernel
theorem dL_law_718 : decode cL_law 718 = .ok (.if_icmp .eq 173, 3) := by decide +kernel
theorem dL_law_721 : decode cL_law 721 = .ok (.iconst 0, 1) := by decide +kernel
theorem dL_law_722 : decode cL_law 722 = .ok (.ireturn, 1) := by decide +kernel
theorem dL_law_723 : decode cL_law 723 = .ok (.aload_n 1, 1) := by decide +kernel
theorem dL_law_724 : decode cL_law 724 = .ok (.aload_n 0, 1) := by decide +kernel
theorem dL_law_725 : decode cL_law 725 = .ok (.iload_n 3, 1) := by decide +kernel
theorem dL_law_726 : decode cL_law 726 = .ok (.iconst 1, 1) := by decide +kernel
theorem dL_law_727 : decode cL_law 727 = .ok (.iadd, 1) := by decide +kernel
theorem dL_law_728 : decode cL_law 728 = .ok (.iaload, 1) := by decide +kernel
theorem dL_law_729 : decode cL_law 729 = .ok (.invokevirtual 109, 3) := by decide +kernel
theorem dL_law_732 : decode cL_law 732 = .ok (.aload_n 2, 1) := by decide +kernel
theorem dL_law_733 : decode cL_law 733 = .ok (.aload_n 0, 1) := by decide +kernel
theorem dL_law_734 : decode cL_law 734 = .ok (.iload_n 3, 1) := by decide +kernel
theorem dL_law_735 : decode cL_law 735 = .ok (.iconst 1, 1) := by decide +kernel
theorem dL_law_736 : decode cL_law 736 = .ok (.iadd, 1) := by decide +kernel
theorem dL_law_737 : decode cL_law 737 = .ok (.iaload, 1) := by decide +kernel
theorem dL_law_738 : decode cL_law 738 = .ok (.invokevirtual 112, 3) := by decide +kernel
theorem dL_law_741 : decode cL_law 741 = .ok (.if_icmp .eq 150, 3) := by decide +kernel
theorem dL_law_744 : decode cL_law 744 = .ok (.iconst 0, 1) := by decide +kernel
theorem dL_law_745 : decode cL_law 745 = .ok (.ireturn, 1) := by decide +kernel
theorem dL_law_746 : decode cL_law 746 = .ok (.aload_n 1, 1) := by decide +kernel
theorem dL_law_747 : decode cL_law 747 = .ok (.aload_n 0, 1) := by decide +kernel
theorem dL_law_748 : decode cL_law 748 = .ok (.iload_n 3, 1) := by decide +kernel
theorem dL_law_749 : decode cL_law 749 = .ok (.iconst 1, 1) := by decide +kernel
theorem dL_law_750 : decode cL_law 750 = .ok (.iadd, 1) := by decide +kernel
theorem dL_law_751 : decode cL_law 751 = .ok (.iaload, 1) := by decide +kernel
theorem dL_law_752 : decode cL_law 752 = .ok (.aload_n 0, 1) := by decide +kernel
theorem dL_law_753 : decode cL_law 753 = .ok (.iload_n 3, 1) := by decide +kernel
theorem dL_law_754 : decode cL_law 754 = .ok (.iconst 2, 1) := by decide +kernel
theorem dL_law_755 : decode cL_law 755 = .ok (.iadd, 1) := by decide +kernel
theorem dL_law_756 : decode cL_law 756 = .ok (.iaload, 1) := by decide +kernel
theorem dL_law_757 : decode cL_law 757 = .ok (.aload_n 0, 1) := by decide +kernel
theorem dL_law_758 : decode cL_law 758 = .ok (.iload_n 3, 1) := by decide +kernel
theorem dL_law_759 : decode cL_law 759 = .ok (.iconst 3, 1) := by decide +kernel
theorem dL_law_760 : decode cL_law 760 = .ok (.iadd, 1) := by decide +kernel
theorem dL_law_761 : decode cL_law 761 = .ok (.iaload, 1) := by decide +kernel
theorem dL_law_762 : decode cL_law 762 = .ok (.aload_n 0, 1) := by decide +kernel
theorem dL_law_763 : decode cL_law 763 = .ok (.iload_n 3, 1) := by decide +kernel
theorem dL_law_764 : decode cL_law 764 = .ok (.iconst 4, 1) := by decide +kernel
theorem dL_law_765 : decode cL_law 765 = .ok (.iadd, 1) := by decide +kernel
theorem dL_law_766 : decode cL_law 766 = .ok (.iaload, 1) := by decide +kernel
theorem dL_law_767 : decode cL_law 767 = .ok (.invokevirtual 113, 3) := by decide +kernel
theorem dL_law_770 : decode cL_law 770 = .ok (.aload_n 2, 1) := by decide +kernel
theorem dL_law_771 : decode cL_law 771 = .ok (.aload_n 0, 1) := by decide +kernel
theorem dL_law_772 : decode cL_law 772 = .ok (.iload_n 3, 1) := by decide +kernel
theorem dL_law_773 : decode cL_law 773 = .ok (.iconst 1, 1) := by decide +kernel
theorem dL_law_774 : decode cL_law 774 = .ok (.iadd, 1) := by decide +kernel
theorem dL_law_775 : decode cL_law 775 = .ok (.iaload, 1) := by decide +kernel
theorem dL_law_776 : decode cL_law 776 = .ok (.aload_n 0, 1) := by decide +kernel
theorem dL_law_777 : decode cL_law 777 = .ok (.iload_n 3, 1) := by decide +kernel
theorem dL_law_778 : decode cL_law 778 = .ok (.iconst 2, 1) := by decide +kernel
theorem dL_law_779 : decode cL_law 779 = .ok (.iadd, 1) := by decide +kernel
theorem dL_law_780 : decode cL_law 780 = .ok (.iaload, 1) := by decide +kernel
theorem dL_law_781 : decode cL_law 781 = .ok (.aload_n 0, 1) := by decide +kernel
theorem dL_law_782 : decode cL_law 782 = .ok (.iload_n 3, 1) := by decide +kernel
theorem dL_law_783 : decode cL_law 783 = .ok (.iconst 3, 1) := by decide +kernel
theorem dL_law_784 : decode cL_law 784 = .ok (.iadd, 1) := by decide +kernel
theorem dL_law_785 : decode cL_law 785 = .ok (.iaload, 1) := by decide +kernel
theorem dL_law_786 : decode cL_law 786 = .ok (.aload_n 0, 1) := by decide +kernel
theorem dL_law_787 : decode cL_law 787 = .ok (.iload_n 3, 1) := by decide +kernel
theorem dL_law_788 : decode cL_law 788 = .ok (.iconst 4, 1) := by decide +kernel
theorem dL_law_789 : decode cL_law 789 = .ok (.iadd, 1) := by decide +kernel
theorem dL_law_790 : decode cL_law 790 = .ok (.iaload, 1) := by decide +kernel
theorem dL_law_791 : decode cL_law 791 = .ok (.invokevirtual 117, 3) := by decide +kernel
theorem dL_law_794 : decode cL_law 794 = .ok (.if_icmp .eq 97, 3) := by decide +kernel
theorem dL_law_797 : decode cL_law 797 = .ok (.iconst 0, 1) := by decide +kernel
theorem dL_law_798 : decode cL_law 798 = .ok (.ireturn, 1) := by decide +kernel
theorem dL_law_799 : decode cL_law 799 = .ok (.aload_n 1, 1) := by decide +kernel
theorem dL_law_800 : decode cL_law 800 = .ok (.aload_n 0, 1) := by decide +kernel
theorem dL_law_801 : decode cL_law 801 = .ok (.iload_n 3, 1) := by decide +kernel
theorem dL_law_802 : decode cL_law 802 = .ok (.iconst 1, 1) := by decide +kernel
theorem dL_law_803 : decode cL_law 803 = .ok (.iadd, 1) := by decide +kernel
theorem dL_law_804 : decode cL_law 804 = .ok (.iaload, 1) := by decide +kernel
theorem dL_law_805 : decode cL_law 805 = .ok (.aload_n 0, 1) := by decide +kernel
theorem dL_law_806 : decode cL_law 806 = .ok (.iload_n 3, 1) := by decide +kernel
theorem dL_law_807 : decode cL_law 807 = .ok (.iconst 2, 1) := by decide +kernel
theorem dL_law_808 : decode cL_law 808 = .ok (.iadd, 1) := by decide +kernel
theorem dL_law_809 : decode cL_law 809 = .ok (.iaload, 1) := by decide +kernel
theorem dL_law_810 : decode cL_law 810 = .ok (.aload_n 0, 1) := by decide +kernel
theorem dL_law_811 : decode cL_law 811 = .ok (.iload_n 3, 1) := by decide +kernel
theorem dL_law_812 : decode cL_law 812 = .ok (.iconst 3, 1) := by decide +kernel
theorem dL_law_813 : decode cL_law 813 = .ok (.iadd, 1) := by decide +kernel
theorem dL_law_814 : decode cL_law 814 = .ok (.iaload, 1) := by decide +kernel
theorem dL_law_815 : decode cL_law 815 = .ok (.invokevirtual 118, 3) := by decide +kernel
theorem dL_law_818 : decode cL_law 818 = .ok (.aload_n 2, 1) := by decide +kernel
theorem dL_law_819 : decode cL_law 819 = .ok (.aload_n 0, 1) := by decide +kernel
theorem dL_law_820 : decode cL_law 820 = .ok (.iload_n 3, 1) := by decide +kernel
theorem dL_law_821 : decode cL_law 821 = .ok (.iconst 1, 1) := by decide +kernel
theorem dL_law_822 : decode cL_law 822 = .ok (.iadd, 1) := by decide +kernel
theorem dL_law_823 : decode cL_law 823 = .ok (.iaload, 1) := by decide +kernel
theorem dL_law_824 : decode cL_law 824 = .ok (.aload_n 0, 1) := by decide +kernel
theorem dL_law_825 : decode cL_law 825 = .ok (.iload_n 3, 1) := by decide +kernel
theorem dL_law_826 : decode cL_law 826 = .ok (.iconst 2, 1) := by decide +kernel
theorem dL_law_827 : decode cL_law 827 = .ok (.iadd, 1) := by decide +kernel
theorem dL_law_828 : decode cL_law 828 = .ok (.iaload, 1) := by decide +kernel
theorem dL_law_829 : decode cL_law 829 = .ok (.aload_n 0, 1) := by decide +kernel
theorem dL_law_830 : decode cL_law 830 = .ok (.iload_n 3, 1) := by decide +kernel
theorem dL_law_831 : decode cL_law 831 = .ok (.iconst 3, 1) := by decide +kernel
theorem dL_law_832 : decode cL_law 832 = .ok (.iadd, 1) := by decide +kernel
theorem dL_law_833 : decode cL_law 833 = .ok (.iaload, 1) := by decide +kernel
theorem dL_law_834 : decode cL_law 834 = .ok (.invokevirtual 121, 3) := by decide +kernel
theorem dL_law_837 : decode cL_law 837 = .ok (.if_icmp .eq 54, 3) := by decide +kernel
theorem dL_law_840 : decode cL_law 840 = .ok (.iconst 0, 1) := by decide +kernel
theorem dL_law_841 : decode cL_law 841 = .ok (.ireturn, 1) := by decide +kernel
theorem dL_law_842 : decode cL_law 842 = .ok (.aload_n 1, 1) := by decide +kernel
theorem dL_law_843 : decode cL_law 843 = .ok (.invokevirtual 122, 3) := by decide +kernel
theorem dL_law_846 : decode cL_law 846 = .ok (.aload_n 2, 1) := by decide +kernel
theorem dL_law_847 : decode cL_law 847 = .ok (.invokevirtual 125, 3) := by decide +kernel
theorem dL_law_850 : decode cL_law 850 = .ok (.if_icmp .eq 41, 3) := by decide +kernel
theorem dL_law_853 : decode cL_law 853 = .ok (.iconst 0, 1) := by decide +kernel
theorem dL_law_854 : decode cL_law 854 = .ok (.ireturn, 1) := by decide +kernel
theorem dL_law_855 : decode cL_law 855 = .ok (.aload_n 1, 1) := by decide +kernel
theorem dL_law_856 : decode cL_law 856 = .ok (.invokevirtual 126, 3) := by decide +kernel
theorem dL_law_859 : decode cL_law 859 = .ok (.aload_n 2, 1) := by decide +kernel
theorem dL_law_860 : decode cL_law 860 = .ok (.invokevirtual 129, 3) := by decide +kernel
theorem dL_law_863 : decode cL_law 863 = .ok (.if_icmp .eq 28, 3) := by decide +kernel
theorem dL_law_866 : decode cL_law 866 = .ok (.iconst 0, 1) := by decide +kernel
theorem dL_law_867 : decode cL_law 867 = .ok (.ireturn, 1) := by decide +kernel
theorem dL_law_868 : decode cL_law 868 = .ok (.aload_n 1, 1) := by decide +kernel
theorem dL_law_869 : decode cL_law 869 = .ok (.aload_n 0, 1) := by decide +kernel
theorem dL_law_870 : decode cL_law 870 = .ok (.iload_n 3, 1) := by decide +kernel
theorem dL_law_871 : decode cL_law 871 = .ok (.iconst 1, 1) := by decide +kernel
theorem dL_law_872 : decode cL_law 872 = .ok (.iadd, 1) := by decide +kernel
theorem dL_law_873 : decode cL_law 873 = .ok (.iaload, 1) := by decide +kernel
theorem dL_law_874 : decode cL_law 874 = .ok (.invokevirtual 130, 3) := by decide +kernel
theorem dL_law_877 : decode cL_law 877 = .ok (.aload_n 2, 1) := by decide +kernel
theorem dL_law_878 : decode cL_law 878 = .ok (.aload_n 0, 1) := by decide +kernel
theorem dL_law_879 : decode cL_law 879 = .ok (.iload_n 3, 1) := by decide +kernel
theorem dL_law_880 : decode cL_law 880 = .ok (.iconst 1, 1) := by decide +kernel
theorem dL_law_881 : decode cL_law 881 = .ok (.iadd, 1) := by decide +kernel
theorem dL_law_882 : decode cL_law 882 = .ok (.iaload, 1) := by decide +kernel
theorem dL_law_883 : decode cL_law 883 = .ok (.invokevirtual 133, 3) := by decide +kernel
theorem dL_law_886 : decode cL_law 886 = .ok (.if_icmp .eq 5, 3) := by decide +kernel
theorem dL_law_889 : decode cL_law 889 = .ok (.iconst 0, 1) := by decide +kernel
theorem dL_law_890 : decode cL_law 890 = .ok (.ireturn, 1) := by decide +kernel
theorem dL_law_891 : decode cL_law 891 = .ok (.iinc 3 5, 3) := by decide +kernel
theorem dL_law_894 : decode cL_law 894 = .ok (.goto (-876), 3) := by decide +kernel
theorem dL_law_897 : decode cL_law 897 = .ok (.iconst 1, 1) := by decide +kernel
theorem dL_law_898 : decode cL_law 898 = .ok (.ireturn, 1) := by decide +kernel
