theorem dX7_hour_67 : decode cX7_hour 67 = .ok (.iaload, 1) := by decide +kernel
theorem dX7_hour_68 : decode cX7_hour 68 = .ok (.ireturn, 1) := by decide +kernel
theorem dX7_hour_69 : decode cX7_hour 69 = .ok (.aload_n 0, 1) := by decide +kernel
theorem dX7_hour_70 : decode cX7_hour 70 = .ok (.getfield 13, 3) := by decide +kernel
theorem dX7_hour_73 : decode cX7_hour 73 = .ok (.bipush 9, 2) := by decide +kernel
theorem dX7_hour_75 : decode cX7_hour 75 = .ok (.iload_n 1, 1) := by decide +kernel
theorem dX7_hour_76 : decode cX7_hour 76 = .ok (.iadd, 1) := by decide +kernel
theorem dX7_hour_77 : decode cX7_hour 77 = .ok (.iaload, 1) := by decide +kernel
theorem dX7_hour_78 : decode cX7_hour 78 = .ok (.ireturn, 1) := by decide +kernel
theorem dX7_hour_79 : decode cX7_hour 79 = .ok (.iload_n 3, 1) := by decide +kernel
theorem dX7_hour_80 : decode cX7_hour 80 = .ok (.iconst (-1), 1) := by decide +kernel
theorem dX7_hour_81 : decode cX7_hour 81 = .ok (.if_icmp .ne 8, 3) := by decide +kernel
theorem dX7_hour_84 : decode cX7_hour 84 = .ok (.bipush (-4), 2) := by decide +kernel
theorem dX7_hour_86 : decode cX7_hour 86 = .ok (.goto 4, 3) := by decide +kernel
theorem dX7_hour_89 : decode cX7_hour 89 = .ok (.iload_n 3, 1) := by decide +kernel
theorem dX7_hour_90 : decode cX7_hour 90 = .ok (.ireturn, 1) := by decide +kernel
theorem dX7_hour_91 : decode cX7_hour 91 = .ok (.iload_n 3, 1) := by decide +kernel
theorem dX7_hour_92 : decode cX7_hour 92 = .ok (.iconst (-1), 1) := by decide +kernel
theorem dX7_hour_93 : decode cX7_hour 93 = .ok (.if_icmp .ne 8, 3) := by decide +kernel
theorem dX7_hour_96 : decode cX7_hour 96 = .ok (.bipush (-4), 2) := by decide +kernel
theorem dX7_hour_98 : decode cX7_hour 98 = .ok (.goto 12, 3) := by decide +kernel
theorem dX7_hour_101 : decode cX7_hour 101 = .ok (.aload_n 0, 1) := by decide +kernel
theorem dX7_hour_102 : decode cX7_hour 102 = .ok (.getfield 19, 3) := by decide +kernel
theorem dX7_hour_105 : decode cX7_hour 105 = .ok (.bipush 14, 2) := by decide +kernel
theorem dX7_hour_107 : decode cX7_hour 107 = .ok (.iload_n 1, 1) := by decide +kernel
theorem dX7_hour_108 : decode cX7_hour 108 = .ok (.iadd, 1) := by decide +kernel
theorem dX7_hour_109 : decode cX7_hour 109 = .ok (.iaload, 1) := by decide +kernel
theorem dX7_hour_110 : decode cX7_hour 110 = .ok (.ireturn, 1) := by decide +kernel
theorem dX7_hour_111 : decode cX7_hour 111 = .ok (.iload_n 3, 1) := by decide +kernel
theorem dX7_hour_112 : decode cX7_hour 112 = .ok (.iconst (-1), 1) := by decide +kernel
theorem dX7_hour_113 : decode cX7_hour 113 = .ok (.if_icmp .ne 8, 3) := by decide +kernel
theorem dX7_hour_116 : decode cX7_hour 116 = .ok (.bipush (-4), 2) := by decide +kernel
theorem dX7_hour_118 : decode cX7_hour 118 = .ok (.goto 35, 3) := by decide +kernel
theorem dX7_hour_121 : decode cX7_hour 121 = .ok (.aload_n 0, 1) := by decide +kernel
theorem dX7_hour_122 : decode cX7_hour 122 = .ok (.getfield 13, 3) := by decide +kernel
theorem dX7_hour_125 : decode cX7_hour 125 = .ok (.iconst 2, 1) := by decide +kernel
theorem dX7_hour_126 : decode cX7_hour 126 = .ok (.iload_n 1, 1) := by decide +kernel
theorem dX7_hour_127 : decode cX7_hour 127 = .ok (.iadd, 1) := by decide +kernel
theorem dX7_hour_128 : decode cX7_hour 128 = .ok (.iaload, 1) := by decide +kernel
theorem dX7_hour_129 : decode cX7_hour 129 = .ok (.aload_n 0, 1) := by decide +kernel
theorem dX7_hour_130 : decode cX7_hour 130 = .ok (.aload_n 0, 1) := by decide +kernel
theorem dX7_hour_131 : decode cX7_hour 131 = .ok (.iload_n 3, 1) := by decide +kernel
theorem dX7_hour_132 : decode cX7_hour 132 = .ok (.aload_n 0, 1) := by decide +kernel
theorem dX7_hour_133 : decode cX7_hour 133 = .ok (.getfield 19, 3) := by decide +kernel
theorem dX7_hour_136 : decode cX7_hour 136 = .ok (.bipush 14, 2) := by decide +kernel
theorem dX7_hour_138 : decode cX7_hour 138 = .ok (.iload_n 1, 1) := by decide +kernel
theorem dX7_hour_139 : decode cX7_hour 139 = .ok (.iadd, 1) := by decide +kernel
theorem dX7_hour_140 : decode cX7_hour 140 = .ok (.iaload, 1) := by decide +kernel
theorem dX7_hour_141 : decode cX7_hour 141 = .ok (.iconst 1, 1) := by decide +kernel
theorem dX7_hour_142 : decode cX7_hour 142 = .ok (.isub, 1) := by decide +kernel
theorem dX7_hour_143 : decode cX7_hour 143 = .ok (.invokevirtual 64, 3) := by decide +kernel
theorem dX7_hour_146 : decode cX7_hour 146 = .ok (.iconst 0, 1) := by decide +kernel
theorem dX7_hour_147 : decode cX7_hour 147 = .ok (.invokevirtual 68, 3) := by decide +kernel
theorem dX7_hour_150 : decode cX7_hour 150 = .ok (.invokestatic 72, 3) := by decide +kernel
theorem dX7_hour_153 : decode cX7_hour 153 = .ok (.ireturn, 1) := by decide +kernel
theorem dX7_fits_0 : decode cX7_fits 0 = .ok (.aload_n 0, 1) := by decide +kernel
theorem dX7_fits_1 : decode cX7_fits 1 = .ok (.iload_n 1, 1) := by decide +kernel
theorem dX7_fits_2 : decode cX7_fits 2 = .ok (.invokevirtual 133, 3) := by decide +kernel
theorem dX7_fits_5 : decode cX7_fits 5 = .ok (.ifCond .eq 11, 3) := by decide +kernel
theorem dX7_fits_8 : decode cX7_fits 8 = .ok (.aload_n 0, 1) := by decide +kernel
theorem dX7_fits_9 : decode cX7_fits 9 = .ok (.iload_n 2, 1) := by decide +kernel
theorem dX7_fits_10 : decode cX7_fits 10 = .ok (.invokevirtual 130, 3) := by decide +kernel
theorem dX7_fits_13 : decode cX7_fits 13 = .ok (.ifCond .ne 5, 3) := by decide +kernel
theorem dX7_fits_16 : decode cX7_fits 16 = .ok (.iconst (-1), 1) := by decide +kernel
theorem dX7_fits_17 : decode cX7_fits 17 = .ok (.ireturn, 1) := by decide +kernel
theorem dX7_fits_18 : decode cX7_fits 18 = .ok (.aload_n 0, 1) := by decide +kernel
theorem dX7_fits_19 : decode cX7_fits 19 = .ok (.getfield 19, 3) := by decide +kernel
theorem dX7_fits_22 : decode cX7_fits 22 = .ok (.bipush 7, 2) := by decide +kernel
theorem dX7_fits_24 : decode cX7_fits 24 = .ok (.iload_n 1, 1) := by decide +kernel
theorem dX7_fits_25 : decode cX7_fits 25 = .ok (.iadd, 1) := by decide +kernel
theorem dX7_fits_26 : decode cX7_fits 26 = .ok (.iaload, 1) := by decide +kernel
theorem dX7_fits_27 : decode cX7_fits 27 = .ok (.iload_n 2, 1) := by decide +kernel
theorem dX7_fits_28 : decode cX7_fits 28 = .ok (.if_icmp .eq 24, 3) := by decide +kernel
theorem dX7_fits_31 : decode cX7_fits 31 = .ok (.aload_n 0, 1) := by decide +kernel
theorem dX7_fits_32 : decode cX7_fits 32 = .ok (.aload_n 0, 1) := by decide +kernel
theorem dX7_fits_33 : decode cX7_fits 33 = .ok (.getfield 13, 3) := by decide +kernel
theorem dX7_fits_36 : decode cX7_fits 36 = .ok (.iconst 2, 1) := by decide +kernel
theorem dX7_fits_37 : decode cX7_fits 37 = .ok (.iload_n 1, 1) := by decide +kernel
theorem dX7_fits_38 : decode cX7_fits 38 = .ok (.iadd, 1) := by decide +kernel
theorem dX7_fits_39 : decode cX7_fits 39 = .ok (.iaload, 1) := by decide +kernel
theorem dX7_fits_40 : decode cX7_fits 40 = .ok (.iload_n 2, 1) := by decide +kernel
theorem dX7_fits_41 : decode cX7_fits 41 = .ok (.iconst 0, 1) := by decide +kernel
theorem dX7_fits_42 : decode cX7_fits 42 = .ok (.invokevirtual 103, 3) := by decide +kernel
theorem dX7_fits_45 : decode cX7_fits 45 = .ok (.ifCond .eq 7, 3) := by decide +kernel
theorem dX7_fits_48 : decode cX7_fits 48 = .ok (.iconst 1, 1) := by decide +kernel
theorem dX7_fits_49 : decode cX7_fits 49 = .ok (.goto 4, 3) := by decide +kernel
theorem dX7_fits_52 : decode cX7_fits 52 = .ok (.iconst 0, 1) := by decide +kernel
theorem dX7_fits_53 : decode cX7_fits 53 = .ok (.ireturn, 1) := by decide +kernel
theorem dX7_isFrost_0 : decode cX7_isFrost 0 = .ok (.aload_n 0, 1) := by decide +kernel
theorem dX7_isFrost_1 : decode cX7_isFrost 1 = .ok (.getfield 19, 3) := by decide +kernel
theorem dX7_isFrost_4 : decode cX7_isFrost 4 = .ok (.iconst 0, 1) := by decide +kernel
theorem dX7_isFrost_5 : decode cX7_isFrost 5 = .ok (.iaload, 1) := by decide +kernel
theorem dX7_isFrost_6 : decode cX7_isFrost 6 = .ok (.bipush 40, 2) := by decide +kernel
theorem dX7_isFrost_8 : decode cX7_isFrost 8 = .ok (.if_icmp .ge 25, 3) := by decide +kernel
theorem dX7_isFrost_11 : decode cX7_isFrost 11 = .ok (.aload_n 0, 1) := by decide +kernel
theorem dX7_isFrost_12 : decode cX7_isFrost 12 = .ok (.getfield 13, 3) := by decide +kernel
theorem dX7_isFrost_15 : decode cX7_isFrost 15 = .ok (.bipush 16, 2) := by decide +kernel
theorem dX7_isFrost_17 : decode cX7_isFrost 17 = .ok (.aload_n 0, 1) := by decide +kernel
theorem dX7_isFrost_18 : decode cX7_isFrost 18 = .ok (.getfield 19, 3) := by decide +kernel
theorem dX7_isFrost_21 : decode cX7_isFrost 21 = .ok (.iconst 0, 1) := by decide +kernel
theorem dX7_isFrost_22 : decode cX7_isFrost 22 = .ok (.iaload, 1) := by decide +kernel
theorem dX7_isFrost_23 : decode cX7_isFrost 23 = .ok (.iadd, 1) := by decide +kernel
theorem dX7_isFrost_24 : decode cX7_isFrost 24 = .ok (.iaload, 1) := by decide +kernel
theorem dX7_isFrost_25 : decode cX7_isFrost 25 = .ok (.iconst 1, 1) := by decide +kernel
theorem dX7_isFrost_26 : decode cX7_isFrost 26 = .ok (.if_icmp .ne 7, 3) := by decide +kernel
theorem dX7_isFrost_29 : decode cX7_isFrost 29 = .ok (.iconst 1, 1) := by decide +kernel
theorem dX7_isFrost_30 : decode cX7_isFrost 30 = .ok (.goto 4, 3) := by decide +kernel
theorem dX7_isFrost_33 : decode cX7_isFrost 33 = .ok (.iconst 0, 1) := by decide +kernel
theorem dX7_isFrost_34 : decode cX7_isFrost 34 = .ok (.ireturn, 1) := by decide +kernel
theorem dX7_passes_0 : decode cX7_passes 0 = .ok (.aload_n 0, 1) := by decide +kernel
theorem dX7_passes_1 : decode cX7_passes 1 = .ok (.aload_n 0, 1) := by decide +kernel
theorem dX7_passes_2 : decode cX7_passes 2 = .ok (.getfield 19, 3) := by decide +kernel
theorem dX7_passes_5 : decode cX7_passes 5 = .ok (.iconst 0, 1) := by decide +kernel
theorem dX7_passes_6 : decode cX7_passes 6 = .ok (.iaload, 1) := by decide +kernel
theorem dX7_passes_7 : decode cX7_passes 7 = .ok (.aload_n 0, 1) := by decide +kernel
theorem dX7_passes_8 : decode cX7_passes 8 = .ok (.getfield 13, 3) := by decide +kernel
theorem dX7_passes_11 : decode cX7_passes 11 = .ok (.iconst 0, 1) := by decide +kernel
theorem dX7_passes_12 : decode cX7_passes 12 = .ok (.iaload, 1) := by decide +kernel
theorem dX7_passes_13 : decode cX7_passes 13 = .ok (.irem, 1) := by decide +kernel
theorem dX7_passes_14 : decode cX7_passes 14 = .ok (.invokevirtual 75, 3) := by decide +kernel
theorem dX7_passes_17 : decode cX7_passes 17 = .ok (.istore_n 2, 1) := by decide +kernel
theorem dX7_passes_18 : decode cX7_passes 18 = .ok (.aload_n 0, 1) := by decide +kernel
theorem dX7_passes_19 : decode cX7_passes 19 = .ok (.iload_n 2, 1) := by decide +kernel
theorem dX7_passes_20 : decode cX7_passes 20 = .ok (.iconst 0, 1) := by decide +kernel
theorem dX7_passes_21 : decode cX7_passes 21 = .ok (.invokevirtual 68, 3) := by decide +kernel
theorem dX7_passes_24 : decode cX7_passes 24 = .ok (.istore_n 3, 1) := by decide +kernel
theorem dX7_passes_25 : decode cX7_passes 25 = .ok (.iload_n 1, 1) := by decide +kernel
theorem dX7_passes_26 : decode cX7_passes 26 = .ok (.ifCond .eq 16, 3) := by decide +kernel
theorem dX7_passes_29 : decode cX7_passes 29 = .ok (.iload_n 3, 1) := by decide +kernel
theorem dX7_passes_30 : decode cX7_passes 30 = .ok (.ifCond .eq 8, 3) := by decide +kernel
theorem dX7_passes_33 : decode cX7_passes 33 = .ok (.iload_n 3, 1) := by decide +kernel
theorem dX7_passes_34 : decode cX7_passes 34 = .ok (.iconst 2, 1) := by decide +kernel
theorem dX7_passes_35 : decode cX7_passes 35 = .ok (.if_icmp .ne 7, 3) := by decide +kernel
theorem dX7_passes_38 : decode cX7_passes 38 = .ok (.iconst 1, 1) := by decide +kernel
theorem dX7_passes_39 : decode cX7_passes 39 = .ok (.goto 4, 3) := by decide +kernel
theorem dX7_passes_42 : decode cX7_passes 42 = .ok (.iconst 0, 1) := by decide +kernel
theorem dX7_passes_43 : decode cX7_passes 43 = .ok (.istore 4, 2) := by decide +kernel
theorem dX7_passes_45 : decode cX7_passes 45 = .ok (.iload 4, 2) := by decide +kernel
theorem dX7_passes_47 : decode cX7_passes 47 = .ok (.ifCond .eq 9, 3) := by decide +kernel
theorem dX7_passes_50 : decode cX7_passes 50 = .ok (.aload_n 0, 1) := by decide +kernel
theorem dX7_passes_51 : decode cX7_passes 51 = .ok (.iload_n 2, 1) := by decide +kernel
theorem dX7_passes_52 : decode cX7_passes 52 = .ok (.invokevirtual 136, 3) := by decide +kernel
theorem dX7_passes_55 : decode cX7_passes 55 = .ok (.pop, 1) := by decide +kernel
theorem dX7_passes_56 : decode cX7_passes 56 = .ok (.aload_n 0, 1) := by decide +kernel
theorem dX7_passes_57 : decode cX7_passes 57 = .ok (.getfield 19, 3) := by decide +kernel
theorem dX7_passes_60 : decode cX7_passes 60 = .ok (.iconst 0, 1) := by decide +kernel
theorem dX7_passes_61 : decode cX7_passes 61 = .ok (.dup2, 1) := by decide +kernel
theorem dX7_passes_62 : decode cX7_passes 62 = .ok (.iaload, 1) := by decide +kernel
theorem dX7_passes_63 : decode cX7_passes 63 = .ok (.iconst 1, 1) := by decide +kernel
theorem dX7_passes_64 : decode cX7_passes 64 = .ok (.iadd, 1) := by decide +kernel
theorem dX7_passes_65 : decode cX7_passes 65 = .ok (.iastore, 1) := by decide +kernel
theorem dX7_passes_66 : decode cX7_passes 66 = .ok (.iload 4, 2) := by decide +kernel
theorem dX7_passes_68 : decode cX7_passes 68 = .ok (.ireturn, 1) := by decide +kernel
theorem dX7_keeps_0 : decode cX7_keeps 0 = .ok (.aload_n 0, 1) := by decide +kernel
theorem dX7_keeps_1 : decode cX7_keeps 1 = .ok (.getfield 121, 3) := by decide +kernel
theorem dX7_keeps_4 : decode cX7_keeps 4 = .ok (.bipush 8, 2) := by decide +kernel
theorem dX7_keeps_6 : decode cX7_keeps 6 = .ok (.if_icmp .ne 43, 3) := by decide +kernel
theorem dX7_keeps_9 : decode cX7_keeps 9 = .ok (.iconst 0, 1) := by decide +kernel
theorem dX7_keeps_10 : decode cX7_keeps 10 = .ok (.istore_n 1, 1) := by decide +kernel
theorem dX7_keeps_11 : decode cX7_keeps 11 = .ok (.iload_n 1, 1) := by decide +kernel
theorem dX7_keeps_12 : decode cX7_keeps 12 = .ok (.sipush 147, 3) := by decide +kernel
theorem dX7_keeps_15 : decode cX7_keeps 15 = .ok (.if_icmp .ge 24, 3) := by decide +kernel
theorem dX7_keeps_18 : decode cX7_keeps 18 = .ok (.aload_n 0, 1) := by decide +kernel
theorem dX7_keeps_19 : decode cX7_keeps 19 = .ok (.getfield 22, 3) := by decide +kernel
theorem dX7_keeps_22 : decode cX7_keeps 22 = .ok (.iload_n 1, 1) := by decide +kernel
theorem dX7_keeps_23 : decode cX7_keeps 23 = .ok (.aload_n 0, 1) := by decide +kernel
theorem dX7_keeps_24 : decode cX7_keeps 24 = .ok (.getfield 22, 3) := by decide +kernel
theorem dX7_keeps_27 : decode cX7_keeps 27 = .ok (.iload_n 1, 1) := by decide +kernel
theorem dX7_keeps_28 : decode cX7_keeps 28 = .ok (.bipush 21, 2) := by decide +kernel
theorem dX7_keeps_30 : decode cX7_keeps 30 = .ok (.iadd, 1) := by decide +kernel
theorem dX7_keeps_31 : decode cX7_keeps 31 = .ok (.iaload, 1) := by decide +kernel
theorem dX7_keeps_32 : decode cX7_keeps 32 = .ok (.iastore, 1) := by decide +kernel
theorem dX7_keeps_33 : decode cX7_keeps 33 = .ok (.iinc 1 1, 3) := by decide +kernel
theorem dX7_keeps_36 : decode cX7_keeps 36 = .ok (.goto (-25), 3) := by decide +kernel
theorem dX7_keeps_39 : decode cX7_keeps 39 = .ok (.aload_n 0, 1) := by decide +kernel
theorem dX7_keeps_40 : decode cX7_keeps 40 = .ok (.dup, 1) := by decide +kernel
theorem dX7_keeps_41 : decode cX7_keeps 41 = .ok (.getfield 121, 3) := by decide +kernel
theorem dX7_keeps_44 : decode cX7_keeps 44 = .ok (.iconst 1, 1) := by decide +kernel
theorem dX7_keeps_45 : decode cX7_keeps 45 = .ok (.isub, 1) := by decide +kernel
theorem dX7_keeps_46 : decode cX7_keeps 46 = .ok (.putfield 121, 3) := by decide +kernel
theorem dX7_keeps_49 : decode cX7_keeps 49 = .ok (.iconst 0, 1) := by decide +kernel
theorem dX7_keeps_50 : decode cX7_keeps 50 = .ok (.istore_n 1, 1) := by decide +kernel
theorem dX7_keeps_51 : decode cX7_keeps 51 = .ok (.iload_n 1, 1) := by decide +kernel
theorem dX7_keeps_52 : decode cX7_keeps 52 = .ok (.bipush 21, 2) := by decide +kernel
theorem dX7_keeps_54 : decode cX7_keeps 54 = .ok (.if_icmp .ge 29, 3) := by decide +kernel
theorem dX7_keeps_57 : decode cX7_keeps 57 = .ok (.aload_n 0, 1) := by decide +kernel
theorem dX7_keeps_58 : decode cX7_keeps 58 = .ok (.getfield 22, 3) := by decide +kernel
theorem dX7_keeps_61 : decode cX7_keeps 61 = .ok (.bipush 21, 2) := by decide +kernel
theorem dX7_keeps_63 : decode cX7_keeps 63 = .ok (.aload_n 0, 1) := by decide +kernel
theorem dX7_keeps_64 : decode cX7_keeps 64 = .ok (.getfield 121, 3) := by decide +kernel
theorem dX7_keeps_67 : decode cX7_keeps 67 = .ok (.imul, 1) := by decide +kernel
theorem dX7_keeps_68 : decode cX7_keeps 68 = .ok (.iload_n 1, 1) := by decide +kernel
theorem dX7_keeps_69 : decode cX7_keeps 69 = .ok (.iadd, 1) := by decide +kernel
theorem dX7_keeps_70 : decode cX7_keeps 70 = .ok (.aload_n 0, 1) := by decide +kernel
theorem dX7_keeps_71 : decode cX7_keeps 71 = .ok (.getfield 19, 3) := by decide +kernel
theorem dX7_keeps_74 : decode cX7_keeps 74 = .ok (.iload_n 1, 1) := by decide +kernel
theorem dX7_keeps_75 : decode cX7_keeps 75 = .ok (.iaload, 1) := by decide +kernel
theorem dX7_keeps_76 : decode cX7_keeps 76 = .ok (.iastore, 1) := by decide +kernel
theorem dX7_keeps_77 : decode cX7_keeps 77 = .ok (.iinc 1 1, 3) := by decide +kernel
theorem dX7_keeps_80 : decode cX7_keeps 80 = .ok (.goto (-29), 3) := by decide +kernel
theorem dX7_keeps_83 : decode cX7_keeps 83 = .ok (.aload_n 0, 1) := by decide +kernel
theorem dX7_keeps_84 : decode cX7_keeps 84 = .ok (.dup, 1) := by decide +kernel
theorem dX7_keeps_85 : decode cX7_keeps 85 = .ok (.getfield 121, 3) := by decide +kernel
theorem dX7_keeps_88 : decode cX7_keeps 88 = .ok (.iconst 1, 1) := by decide +kernel
theorem dX7_keeps_89 : decode cX7_keeps 89 = .ok (.iadd, 1) := by decide +kernel
theorem dX7_keeps_90 : decode cX7_keeps 90 = .ok (.putfield 121, 3) := by decide +kernel
theorem dX7_keeps_93 : decode cX7_keeps 93 = .ok (.return_, 1) := by decide +kernel
theorem dX7_pass_0 : decode cX7_pass 0 = .ok (.iload_n 1, 1) := by decide +kernel
theorem dX7_pass_1 : decode cX7_pass 1 = .ok (.iconst 1, 1) := by decide +kernel
theorem dX7_pass_2 : decode cX7_pass 2 = .ok (.bipush 20, 2) := by decide +kernel
theorem dX7_pass_4 : decode cX7_pass 4 = .ok (.invokestatic 56, 3) := by decide +kernel
theorem dX7_pass_7 : decode cX7_pass 7 = .ok (.ifCond .ne 5, 3) := by decide +kernel
theorem dX7_pass_10 : decode cX7_pass 10 = .ok (.iconst (-1), 1) := by decide +kernel
theorem dX7_pass_11 : decode cX7_pass 11 = .ok (.ireturn, 1) := by decide +kernel
theorem dX7_pass_12 : decode cX7_pass 12 = .ok (.aload_n 0, 1) := by decide +kernel
theorem dX7_pass_13 : decode cX7_pass 13 = .ok (.getfield 19, 3) := by decide +kernel
theorem dX7_pass_16 : decode cX7_pass 16 = .ok (.iconst 0, 1) := by decide +kernel
theorem dX7_pass_17 : decode cX7_pass 17 = .ok (.iaload, 1) := by decide +kernel
theorem dX7_pass_18 : decode cX7_pass 18 = .ok (.iload_n 1, 1) := by decide +kernel
theorem dX7_pass_19 : decode cX7_pass 19 = .ok (.iadd, 1) := by decide +kernel
theorem dX7_pass_20 : decode cX7_pass 20 = .ok (.sipush 999, 3) := by decide +kernel
theorem dX7_pass_23 : decode cX7_pass 23 = .ok (.if_icmp .le 6, 3) := by decide +kernel
theorem dX7_pass_26 : decode cX7_pass 26 = .ok (.bipush (-2), 2) := by decide +kernel
theorem dX7_pass_28 : decode cX7_pass 28 = .ok (.ireturn, 1) := by decide +kernel
theorem dX7_pass_29 : decode cX7_pass 29 = .ok (.aload_n 0, 1) := by decide +kernel
theorem dX7_pass_30 : decode cX7_pass 30 = .ok (.invokevirtual 139, 3) := by decide +kernel
theorem dX7_pass_33 : decode cX7_pass 33 = .ok (.iconst 0, 1) := by decide +kernel
theorem dX7_pass_34 : decode cX7_pass 34 = .ok (.istore_n 2, 1) := by decide +kernel
theorem dX7_pass_35 : decode cX7_pass 35 = .ok (.iconst 0, 1) := by decide +kernel
theorem dX7_pass_36 : decode cX7_pass 36 = .ok (.istore_n 3, 1) := by decide +kernel
theorem dX7_pass_37 : decode cX7_pass 37 = .ok (.iload_n 3, 1) := by decide +kernel
theorem dX7_pass_38 : decode cX7_pass 38 = .ok (.iload_n 1, 1) := by decide +kernel
theorem dX7_pass_39 : decode cX7_pass 39 = .ok (.if_icmp .ge 25, 3) := by decide +kernel
theorem dX7_pass_42 : decode cX7_pass 42 = .ok (.iload_n 2, 1) := by decide +kernel
theorem dX7_pass_43 : decode cX7_pass 43 = .ok (.aload_n 0, 1) := by decide +kernel
theorem dX7_pass_44 : decode cX7_pass 44 = .ok (.iconst 1, 1) := by decide +kernel
theorem dX7_pass_45 : decode cX7_pass 45 = .ok (.invokevirtual 142, 3) := by decide +kernel
theorem dX7_pass_48 : decode cX7_pass 48 = .ok (.ifCond .eq 7, 3) := by decide +kernel
theorem dX7_pass_51 : decode cX7_pass 51 = .ok (.iconst 1, 1) := by decide +kernel
theorem dX7_pass_52 : decode cX7_pass 52 = .ok (.goto 4, 3) := by decide +kernel
theorem dX7_pass_55 : decode cX7_pass 55 = .ok (.iconst 0, 1) := by decide +kernel
theorem dX7_pass_56 : decode cX7_pass 56 = .ok (.iadd, 1) := by decide +kernel
theorem dX7_pass_57 : decode cX7_pass 57 = .ok (.istore_n 2, 1) := by decide +kernel
theorem dX7_pass_58 : decode cX7_pass 58 = .ok (.iinc 3 1, 3) := by decide +kernel
theorem dX7_pass_61 : decode cX7_pass 61 = .ok (.goto (-24), 3) := by decide +kernel
theorem dX7_pass_64 : decode cX7_pass 64 = .ok (.iload_n 2, 1) := by decide +kernel
theorem dX7_pass_65 : decode cX7_pass 65 = .ok (.ireturn, 1) := by decide +kernel
theorem dX7_mayPut_0 : decode cX7_mayPut 0 = .ok (.aload_n 0, 1) := by decide +kernel
theorem dX7_mayPut_1 : decode cX7_mayPut 1 = .ok (.getfield 19, 3) := by decide +kernel
theorem dX7_mayPut_4 : decode cX7_mayPut 4 = .ok (.bipush 7, 2) := by decide +kernel
theorem dX7_mayPut_6 : decode cX7_mayPut 6 = .ok (.iload_n 1, 1) := by decide +kernel
theorem dX7_mayPut_7 : decode cX7_mayPut 7 = .ok (.iadd, 1) := by decide +kernel
theorem dX7_mayPut_8 : decode cX7_mayPut 8 = .ok (.iaload, 1) := by decide +kernel
theorem dX7_mayPut_9 : decode cX7_mayPut 9 = .ok (.iconst (-1), 1) := by decide +kernel
theorem dX7_mayPut_10 : decode cX7_mayPut 10 = .ok (.if_icmp .ne 24, 3) := by decide +kernel
theorem dX7_mayPut_13 : decode cX7_mayPut 13 = .ok (.aload_n 0, 1) := by decide +kernel
theorem dX7_mayPut_14 : decode cX7_mayPut 14 = .ok (.aload_n 0, 1) := by decide +kernel
theorem dX7_mayPut_15 : decode cX7_mayPut 15 = .ok (.getfield 13, 3) := by decide +kernel
theorem dX7_mayPut_18 : decode cX7_mayPut 18 = .ok (.iconst 2, 1) := by decide +kernel
theorem dX7_mayPut_19 : decode cX7_mayPut 19 = .ok (.iload_n 1, 1) := by decide +kernel
theorem dX7_mayPut_20 : decode cX7_mayPut 20 = .ok (.iadd, 1) := by decide +kernel
theorem dX7_mayPut_21 : decode cX7_mayPut 21 = .ok (.iaload, 1) := by decide +kernel
theorem dX7_mayPut_22 : decode cX7_mayPut 22 = .ok (.iload_n 2, 1) := by decide +kernel
theorem dX7_mayPut_23 : decode cX7_mayPut 23 = .ok (.iconst 0, 1) := by decide +kernel
theorem dX7_mayPut_24 : decode cX7_mayPut 24 = .ok (.invokevirtual 103, 3) := by decide +kernel
theorem dX7_mayPut_27 : decode cX7_mayPut 27 = .ok (.ifCond .eq 7, 3) := by decide +kernel
theorem dX7_mayPut_30 : decode cX7_mayPut 30 = .ok (.iconst 1, 1) := by decide +kernel
theorem dX7_mayPut_31 : decode cX7_mayPut 31 = .ok (.goto 4, 3) := by decide +kernel
theorem dX7_mayPut_34 : decode cX7_mayPut 34 = .ok (.iconst 0, 1) := by decide +kernel
theorem dX7_mayPut_35 : decode cX7_mayPut 35 = .ok (.ireturn, 1) := by decide +kernel
theorem dX7_put_0 : decode cX7_put 0 = .ok (.aload_n 0, 1) := by decide +kernel
theorem dX7_put_1 : decode cX7_put 1 = .ok (.iload_n 1, 1) := by decide +kernel
theorem dX7_put_2 : decode cX7_put 2 = .ok (.invokevirtual 133, 3) := by decide +kernel
theorem dX7_put_5 : decode cX7_put 5 = .ok (.ifCond .eq 11, 3) := by decide +kernel
theorem dX7_put_8 : decode cX7_put 8 = .ok (.aload_n 0, 1) := by decide +kernel
theorem dX7_put_9 : decode cX7_put 9 = .ok (.iload_n 2, 1) := by decide +kernel
theorem dX7_put_10 : decode cX7_put 10 = .ok (.invokevirtual 130, 3) := by decide +kernel
theorem dX7_put_13 : decode cX7_put 13 = .ok (.ifCond .ne 5, 3) := by decide +kernel
theorem dX7_put_16 : decode cX7_put 16 = .ok (.iconst (-1), 1) := by decide +kernel
theorem dX7_put_17 : decode cX7_put 17 = .ok (.ireturn, 1) := by decide +kernel
theorem dX7_put_18 : decode cX7_put 18 = .ok (.aload_n 0, 1) := by decide +kernel
theorem dX7_put_19 : decode cX7_put 19 = .ok (.iload_n 1, 1) := by decide +kernel
theorem dX7_put_20 : decode cX7_put 20 = .ok (.iload_n 2, 1) := by decide +kernel
theorem dX7_put_21 : decode cX7_put 21 = .ok (.invokevirtual 145, 3) := by decide +kernel
theorem dX7_put_24 : decode cX7_put 24 = .ok (.ifCond .eq 10, 3) := by decide +kernel
theorem dX7_put_27 : decode cX7_put 27 = .ok (.aload_n 0, 1) := by decide +kernel
theorem dX7_put_28 : decode cX7_put 28 = .ok (.invokevirtual 149, 3) := by decide +kernel
theorem dX7_put_31 : decode cX7_put 31 = .ok (.ifCond .eq 6, 3) := by decide +kernel
theorem dX7_put_34 : decode cX7_put 34 = .ok (.bipush (-2), 2) := by decide +kernel
theorem dX7_put_36 : decode cX7_put 36 = .ok (.ireturn, 1) := by decide +kernel
theorem dX7_put_37 : decode cX7_put 37 = .ok (.aload_n 0, 1) := by decide +kernel
theorem dX7_put_38 : decode cX7_put 38 = .ok (.invokevirtual 139, 3) := by decide +kernel
theorem dX7_put_41 : decode cX7_put 41 = .ok (.aload_n 0, 1) := by decide +kernel
theorem dX7_put_42 : decode cX7_put 42 = .ok (.iload_n 1, 1) := by decide +kernel
theorem dX7_put_43 : decode cX7_put 43 = .ok (.iload_n 2, 1) := by decide +kernel
theorem dX7_put_44 : decode cX7_put 44 = .ok (.invokevirtual 95, 3) := by decide +kernel
theorem dX7_put_47 : decode cX7_put 47 = .ok (.aload_n 0, 1) := by decide +kernel
theorem dX7_put_48 : decode cX7_put 48 = .ok (.getfield 19, 3) := by decide +kernel
theorem dX7_put_51 : decode cX7_put 51 = .ok (.iconst 2, 1) := by decide +kernel
theorem dX7_put_52 : decode cX7_put 52 = .ok (.iload_n 2, 1) := by decide +kernel
theorem dX7_put_53 : decode cX7_put 53 = .ok (.iadd, 1) := by decide +kernel
theorem dX7_put_54 : decode cX7_put 54 = .ok (.iaload, 1) := by decide +kernel
theorem dX7_put_55 : decode cX7_put 55 = .ok (.aload_n 0, 1) := by decide +kernel
theorem dX7_put_56 : decode cX7_put 56 = .ok (.iload_n 2, 1) := by decide +kernel
theorem dX7_put_57 : decode cX7_put 57 = .ok (.iconst 0, 1) := by decide +kernel
theorem dX7_put_58 : decode cX7_put 58 = .ok (.invokevirtual 78, 3) := by decide +kernel
theorem dX7_put_61 : decode cX7_put 61 = .ok (.isub, 1) := by decide +kernel
theorem dX7_put_62 : decode cX7_put 62 = .ok (.ireturn, 1) := by decide +kernel
theorem dX7_up_0 : decode cX7_up 0 = .ok (.aload_n 0, 1) := by decide +kernel
theorem dX7_up_1 : decode cX7_up 1 = .ok (.iload_n 1, 1) := by decide +kernel
theorem dX7_up_2 : decode cX7_up 2 = .ok (.invokevirtual 133, 3) := by decide +kernel
theorem dX7_up_5 : decode cX7_up 5 = .ok (.ifCond .ne 5, 3) := by decide +kernel
theorem dX7_up_8 : decode cX7_up 8 = .ok (.iconst (-1), 1) := by decide +kernel
theorem dX7_up_9 : decode cX7_up 9 = .ok (.ireturn, 1) := by decide +kernel
theorem dX7_up_10 : decode cX7_up 10 = .ok (.aload_n 0, 1) := by decide +kernel
theorem dX7_up_11 : decode cX7_up 11 = .ok (.getfield 19, 3) := by decide +kernel
theorem dX7_up_14 : decode cX7_up 14 = .ok (.bipush 7, 2) := by decide +kernel
theorem dX7_up_16 : decode cX7_up 16 = .ok (.iload_n 1, 1) := by decide +kernel
theorem dX7_up_17 : decode cX7_up 17 = .ok (.iadd, 1) := by decide +kernel
theorem dX7_up_18 : decode cX7_up 18 = .ok (.iaload, 1) := by decide +kernel
theorem dX7_up_19 : decode cX7_up 19 = .ok (.iconst (-1), 1) := by decide +kernel
theorem dX7_up_20 : decode cX7_up 20 = .ok (.if_icmp .ne 6, 3) := by decide +kernel
theorem dX7_up_23 : decode cX7_up 23 = .ok (.bipush (-2), 2) := by decide +kernel
theorem dX7_up_25 : decode cX7_up 25 = .ok (.ireturn, 1) := by decide +kernel
theorem dX7_up_26 : decode cX7_up 26 = .ok (.aload_n 0, 1) := by decide +kernel
theorem dX7_up_27 : decode cX7_up 27 = .ok (.invokevirtual 139, 3) := by decide +kernel
theorem dX7_up_30 : decode cX7_up 30 = .ok (.aload_n 0, 1) := by decide +kernel
theorem dX7_up_31 : decode cX7_up 31 = .ok (.iload_n 1, 1) := by decide +kernel
theorem dX7_up_32 : decode cX7_up 32 = .ok (.invokevirtual 136, 3) := by decide +kernel
theorem dX7_up_35 : decode cX7_up 35 = .ok (.istore_n 2, 1) := by decide +kernel
theorem dX7_up_36 : decode cX7_up 36 = .ok (.aload_n 0, 1) := by decide +kernel
theorem dX7_up_37 : decode cX7_up 37 = .ok (.getfield 19, 3) := by decide +kernel
theorem dX7_up_40 : decode cX7_up 40 = .ok (.iconst 1, 1) := by decide +kernel
theorem dX7_up_41 : decode cX7_up 41 = .ok (.dup2, 1) := by decide +kernel
theorem dX7_up_42 : decode cX7_up 42 = .ok (.iaload, 1) := by decide +kernel
theorem dX7_up_43 : decode cX7_up 43 = .ok (.iload_n 2, 1) := by decide +kernel
theorem dX7_up_44 : decode cX7_up 44 = .ok (.iadd, 1) := by decide +kernel
theorem dX7_up_45 : decode cX7_up 45 = .ok (.iastore, 1) := by decide +kernel
theorem dX7_up_46 : decode cX7_up 46 = .ok (.iload_n 2, 1) := by decide +kernel
theorem dX7_up_47 : decode cX7_up 47 = .ok (.ireturn, 1) := by decide +kernel
theorem dX7_dig_0 : decode cX7_dig 0 = .ok (.aload_n 0, 1) := by decide +kernel
theorem dX7_dig_1 : decode cX7_dig 1 = .ok (.iload_n 1, 1) := by decide +kernel
theorem dX7_dig_2 : decode cX7_dig 2 = .ok (.invokevirtual 130, 3) := by decide +kernel
theorem dX7_dig_5 : decode cX7_dig 5 = .ok (.ifCond .ne 5, 3) := by decide +kernel
theorem dX7_dig_8 : decode cX7_dig 8 = .ok (.iconst (-1), 1) := by decide +kernel
theorem dX7_dig_9 : decode cX7_dig 9 = .ok (.ireturn, 1) := by decide +kernel
theorem dX7_dig_10 : decode cX7_dig 10 = .ok (.aload_n 0, 1) := by decide +kernel
theorem dX7_dig_11 : decode cX7_dig 11 = .ok (.getfield 19, 3) := by decide +kernel
theorem dX7_dig_14 : decode cX7_dig 14 = .ok (.iconst 2, 1) := by decide +kernel
theorem dX7_dig_15 : decode cX7_dig 15 = .ok (.iload_n 1, 1) := by decide +kernel
theorem dX7_dig_16 : decode cX7_dig 16 = .ok (.iadd, 1) := by decide +kernel
theorem dX7_dig_17 : decode cX7_dig 17 = .ok (.iaload, 1) := by decide +kernel
theorem dX7_dig_18 : decode cX7_dig 18 = .ok (.bipush 9, 2) := by decide +kernel
theorem dX7_dig_20 : decode cX7_dig 20 = .ok (.if_icmp .ne 6, 3) := by decide +kernel
theorem dX7_dig_23 : decode cX7_dig 23 = .ok (.bipush (-2), 2) := by decide +kernel
theorem dX7_dig_25 : decode cX7_dig 25 = .ok (.ireturn, 1) := by decide +kernel
theorem dX7_dig_26 : decode cX7_dig 26 = .ok (.aload_n 0, 1) := by decide +kernel
theorem dX7_dig_27 : decode cX7_dig 27 = .ok (.invokevirtual 139, 3) := by decide +kernel
theorem dX7_dig_30 : decode cX7_dig 30 = .ok (.aload_n 0, 1) := by decide +kernel
theorem dX7_dig_31 : decode cX7_dig 31 = .ok (.getfield 19, 3) := by decide +kernel
theorem dX7_dig_34 : decode cX7_dig 34 = .ok (.iconst 2, 1) := by decide +kernel
theorem dX7_dig_35 : decode cX7_dig 35 = .ok (.iload_n 1, 1) := by decide +kernel
theorem dX7_dig_36 : decode cX7_dig 36 = .ok (.iadd, 1) := by decide +kernel
theorem dX7_dig_37 : decode cX7_dig 37 = .ok (.dup2, 1) := by decide +kernel
theorem dX7_dig_38 : decode cX7_dig 38 = .ok (.iaload, 1) := by decide +kernel
theorem dX7_dig_39 : decode cX7_dig 39 = .ok (.iconst 1, 1) := by decide +kernel
theorem dX7_dig_40 : decode cX7_dig 40 = .ok (.iadd, 1) := by decide +kernel
theorem dX7_dig_41 : decode cX7_dig 41 = .ok (.iastore, 1) := by decide +kernel
theorem dX7_dig_42 : decode cX7_dig 42 = .ok (.aload_n 0, 1) := by decide +kernel
theorem dX7_dig_43 : decode cX7_dig 43 = .ok (.getfield 19, 3) := by decide +kernel
theorem dX7_dig_46 : decode cX7_dig 46 = .ok (.iconst 2, 1) := by decide +kernel
theorem dX7_dig_47 : decode cX7_dig 47 = .ok (.iload_n 1, 1) := by decide +kernel
theorem dX7_dig_48 : decode cX7_dig 48 = .ok (.iadd, 1) := by decide +kernel
theorem dX7_dig_49 : decode cX7_dig 49 = .ok (.iaload, 1) := by decide +kernel
theorem dX7_dig_50 : decode cX7_dig 50 = .ok (.ireturn, 1) := by decide +kernel
theorem dX7_undo_0 : decode cX7_undo 0 = .ok (.aload_n 0, 1) := by decide +kernel
theorem dX7_undo_1 : decode cX7_undo 1 = .ok (.getfield 121, 3) := by decide +kernel
theorem dX7_undo_4 : decode cX7_undo 4 = .ok (.ifCond .ne 6, 3) := by decide +kernel
theorem dX7_undo_7 : decode cX7_undo 7 = .ok (.bipush (-2), 2) := by decide +kernel
theorem dX7_undo_9 : decode cX7_undo 9 = .ok (.ireturn, 1) := by decide +kernel
theorem dX7_undo_10 : decode cX7_undo 10 = .ok (.aload_n 0, 1) := by decide +kernel
theorem dX7_undo_11 : decode cX7_undo 11 = .ok (.dup, 1) := by decide +kernel
theorem dX7_undo_12 : decode cX7_undo 12 = .ok (.getfield 121, 3) := by decide +kernel
theorem dX7_undo_15 : decode cX7_undo 15 = .ok (.iconst 1, 1) := by decide +kernel
theorem dX7_undo_16 : decode cX7_undo 16 = .ok (.isub, 1) := by decide +kernel
theorem dX7_undo_17 : decode cX7_undo 17 = .ok (.putfield 121, 3) := by decide +kernel
theorem dX7_undo_20 : decode cX7_undo 20 = .ok (.iconst 0, 1) := by decide +kernel
theorem dX7_undo_21 : decode cX7_undo 21 = .ok (.istore_n 1, 1) := by decide +kernel
theorem dX7_undo_22 : decode cX7_undo 22 = .ok (.iload_n 1, 1) := by decide +kernel
theorem dX7_undo_23 : decode cX7_undo 23 = .ok (.bipush 21, 2) := by decide +kernel
theorem dX7_undo_25 : decode cX7_undo 25 = .ok (.if_icmp .ge 29, 3) := by decide +kernel
theorem dX7_undo_28 : decode cX7_undo 28 = .ok (.aload_n 0, 1) := by decide +kernel
theorem dX7_undo_29 : decode cX7_undo 29 = .ok (.getfield 19, 3) := by decide +kernel
theorem dX7_undo_32 : decode cX7_undo 32 = .ok (.iload_n 1, 1) := by decide +kernel
theorem dX7_undo_33 : decode cX7_undo 33 = .ok (.aload_n 0, 1) := by decide +kernel
theorem dX7_undo_34 : decode cX7_undo 34 = .ok (.getfield 22, 3) := by decide +kernel
theorem dX7_undo_37 : decode cX7_undo 37 = .ok (.bipush 21, 2) := by decide +kernel
theorem dX7_undo_39 : decode cX7_undo 39 = .ok (.aload_n 0, 1) := by decide +kernel
theorem dX7_undo_40 : decode cX7_undo 40 = .ok (.getfield 121, 3) := by decide +kernel
theorem dX7_undo_43 : decode cX7_undo 43 = .ok (.imul, 1) := by decide +kernel
theorem dX7_undo_44 : decode cX7_undo 44 = .ok (.iload_n 1, 1) := by decide +kernel
theorem dX7_undo_45 : decode cX7_undo 45 = .ok (.iadd, 1) := by decide +kernel
theorem dX7_undo_46 : decode cX7_undo 46 = .ok (.iaload, 1) := by decide +kernel
theorem dX7_undo_47 : decode cX7_undo 47 = .ok (.iastore, 1) := by decide +kernel
theorem dX7_undo_48 : decode cX7_undo 48 = .ok (.iinc 1 1, 3) := by decide +kernel
theorem dX7_undo_51 : decode cX7_undo 51 = .ok (.goto (-29), 3) := by decide +kernel
theorem dX7_undo_54 : decode cX7_undo 54 = .ok (.aload_n 0, 1) := by decide +kernel
theorem dX7_undo_55 : decode cX7_undo 55 = .ok (.getfield 121, 3) := by decide +kernel
theorem dX7_undo_58 : decode cX7_undo 58 = .ok (.ireturn, 1) := by decide +kernel
theorem dX7_looks_0 : decode cX7_looks 0 = .ok (.iconst 0, 1) := by decide +kernel
theorem dX7_looks_1 : decode cX7_looks 1 = .ok (.istore_n 1, 1) := by decide +kernel
theorem dX7_looks_2 : decode cX7_looks 2 = .ok (.iload_n 1, 1) := by decide +kernel
theorem dX7_looks_3 : decode cX7_looks 3 = .ok (.bipush 21, 2) := by decide +kernel
theorem dX7_looks_5 : decode cX7_looks 5 = .ok (.if_icmp .ge 21, 3) := by decide +kernel
theorem dX7_looks_8 : decode cX7_looks 8 = .ok (.aload_n 0, 1) := by decide +kernel
theorem dX7_looks_9 : decode cX7_looks 9 = .ok (.getfield 31, 3) := by decide +kernel
theorem dX7_looks_12 : decode cX7_looks 12 = .ok (.iload_n 1, 1) := by decide +kernel
theorem dX7_looks_13 : decode cX7_looks 13 = .ok (.aload_n 0, 1) := by decide +kernel
theorem dX7_looks_14 : decode cX7_looks 14 = .ok (.getfield 19, 3) := by decide +kernel
theorem dX7_looks_17 : decode cX7_looks 17 = .ok (.iload_n 1, 1) := by decide +kernel
theorem dX7_looks_18 : decode cX7_looks 18 = .ok (.iaload, 1) := by decide +kernel
theorem dX7_looks_19 : decode cX7_looks 19 = .ok (.iastore, 1) := by decide +kernel
theorem dX7_looks_20 : decode cX7_looks 20 = .ok (.iinc 1 1, 3) := by decide +kernel
theorem dX7_looks_23 : decode cX7_looks 23 = .ok (.goto (-21), 3) := by decide +kernel
theorem dX7_looks_26 : decode cX7_looks 26 = .ok (.return_, 1) := by decide +kernel
theorem dX7_lets_0 : decode cX7_lets 0 = .ok (.iconst 0, 1) := by decide +kernel
theorem dX7_lets_1 : decode cX7_lets 1 = .ok (.istore_n 1, 1) := by decide +kernel
theorem dX7_lets_2 : decode cX7_lets 2 = .ok (.iload_n 1, 1) := by decide +kernel
theorem dX7_lets_3 : decode cX7_lets 3 = .ok (.bipush 21, 2) := by decide +kernel
theorem dX7_lets_5 : decode cX7_lets 5 = .ok (.if_icmp .ge 21, 3) := by decide +kernel
theorem dX7_lets_8 : decode cX7_lets 8 = .ok (.aload_n 0, 1) := by decide +kernel
theorem dX7_lets_9 : decode cX7_lets 9 = .ok (.getfield 19, 3) := by decide +kernel
theorem dX7_lets_12 : decode cX7_lets 12 = .ok (.iload_n 1, 1) := by decide +kernel
theorem dX7_lets_13 : decode cX7_lets 13 = .ok (.aload_n 0, 1) := by decide +kernel
theorem dX7_lets_14 : decode cX7_lets 14 = .ok (.getfield 31, 3) := by decide +kernel
theorem dX7_lets_17 : decode cX7_lets 17 = .ok (.iload_n 1, 1) := by decide +kernel
theorem dX7_lets_18 : decode cX7_lets 18 = .ok (.iaload, 1) := by decide +kernel
theorem dX7_lets_19 : decode cX7_lets 19 = .ok (.iastore, 1) := by decide +kernel
theorem dX7_lets_20 : decode cX7_lets 20 = .ok (.iinc 1 1, 3) := by decide +kernel
theorem dX7_lets_23 : decode cX7_lets 23 = .ok (.goto (-21), 3) := by decide +kernel
theorem dX7_lets_26 : decode cX7_lets 26 = .ok (.return_, 1) := by decide +kernel
theorem dX7_out_0 : decode cX7_out 0 = .ok (.aload_n 0, 1) := by decide +kernel
theorem dX7_out_1 : decode cX7_out 1 = .ok (.iload_n 1, 1) := by decide +kernel
theorem dX7_out_2 : decode cX7_out 2 = .ok (.invokevirtual 133, 3) := by decide +kernel
theorem dX7_out_5 : decode cX7_out 5 = .ok (.ifCond .ne 5, 3) := by decide +kernel
theorem dX7_out_8 : decode cX7_out 8 = .ok (.iconst (-1), 1) := by decide +kernel
theorem dX7_out_9 : decode cX7_out 9 = .ok (.ireturn, 1) := by decide +kernel
theorem dX7_out_10 : decode cX7_out 10 = .ok (.aload_n 0, 1) := by decide +kernel
theorem dX7_out_11 : decode cX7_out 11 = .ok (.invokevirtual 153, 3) := by decide +kernel
theorem dX7_out_14 : decode cX7_out 14 = .ok (.iconst 0, 1) := by decide +kernel
theorem dX7_out_15 : decode cX7_out 15 = .ok (.istore_n 2, 1) := by decide +kernel
theorem dX7_out_16 : decode cX7_out 16 = .ok (.iload_n 2, 1) := by decide +kernel
theorem dX7_out_17 : decode cX7_out 17 = .ok (.bipush 60, 2) := by decide +kernel
theorem dX7_out_19 : decode cX7_out 19 = .ok (.if_icmp .gt 28, 3) := by decide +kernel
theorem dX7_out_22 : decode cX7_out 22 = .ok (.aload_n 0, 1) := by decide +kernel
theorem dX7_out_23 : decode cX7_out 23 = .ok (.getfield 19, 3) := by decide +kernel
theorem dX7_out_26 : decode cX7_out 26 = .ok (.bipush 7, 2) := by decide +kernel
theorem dX7_out_28 : decode cX7_out 28 = .ok (.iload_n 1, 1) := by decide +kernel
theorem dX7_out_29 : decode cX7_out 29 = .ok (.iadd, 1) := by decide +kernel
theorem dX7_out_30 : decode cX7_out 30 = .ok (.iaload, 1) := by decide +kernel
theorem dX7_out_31 : decode cX7_out 31 = .ok (.iconst (-1), 1) := by decide +kernel
theorem dX7_out_32 : decode cX7_out 32 = .ok (.if_icmp .eq 15, 3) := by decide +kernel
theorem dX7_out_35 : decode cX7_out 35 = .ok (.aload_n 0, 1) := by decide +kernel
theorem dX7_out_36 : decode cX7_out 36 = .ok (.iconst 1, 1) := by decide +kernel
theorem dX7_out_37 : decode cX7_out 37 = .ok (.invokevirtual 142, 3) := by decide +kernel
theorem dX7_out_40 : decode cX7_out 40 = .ok (.pop, 1) := by decide +kernel
theorem dX7_out_41 : decode cX7_out 41 = .ok (.iinc 2 1, 3) := by decide +kernel
theorem dX7_out_44 : decode cX7_out 44 = .ok (.goto (-28), 3) := by decide +kernel
theorem dX7_out_47 : decode cX7_out 47 = .ok (.aload_n 0, 1) := by decide +kernel
theorem dX7_out_48 : decode cX7_out 48 = .ok (.invokevirtual 118, 3) := by decide +kernel
theorem dX7_out_51 : decode cX7_out 51 = .ok (.iload_n 2, 1) := by decide +kernel
theorem dX7_out_52 : decode cX7_out 52 = .ok (.bipush 60, 2) := by decide +kernel
theorem dX7_out_54 : decode cX7_out 54 = .ok (.if_icmp .le 8, 3) := by decide +kernel
theorem dX7_out_57 : decode cX7_out 57 = .ok (.bipush (-4), 2) := by decide +kernel
theorem dX7_out_59 : decode cX7_out 59 = .ok (.goto 4, 3) := by decide +kernel
theorem dX7_out_62 : decode cX7_out 62 = .ok (.iload_n 2, 1) := by decide +kernel
theorem dX7_out_63 : decode cX7_out 63 = .ok (.ireturn, 1) := by decide +kernel
theorem dX7_behind_0 : decode cX7_behind 0 = .ok (.iload_n 1, 1) := by decide +kernel
theorem dX7_behind_1 : decode cX7_behind 1 = .ok (.iconst 0, 1) := by decide +kernel
theorem dX7_behind_2 : decode cX7_behind 2 = .ok (.bipush 60, 2) := by decide +kernel
theorem dX7_behind_4 : decode cX7_behind 4 = .ok (.invokestatic 56, 3) := by decide +kernel
theorem dX7_behind_7 : decode cX7_behind 7 = .ok (.ifCond .eq 11, 3) := by decide +kernel
theorem dX7_behind_10 : decode cX7_behind 10 = .ok (.aload_n 0, 1) := by decide +kernel
theorem dX7_behind_11 : decode cX7_behind 11 = .ok (.iload_n 2, 1) := by decide +kernel
theorem dX7_behind_12 : decode cX7_behind 12 = .ok (.invokevirtual 133, 3) := by decide +kernel
theorem dX7_behind_15 : decode cX7_behind 15 = .ok (.ifCond .ne 5, 3) := by decide +kernel
theorem dX7_behind_18 : decode cX7_behind 18 = .ok (.iconst (-1), 1) := by decide +kernel
theorem dX7_behind_19 : decode cX7_behind 19 = .ok (.ireturn, 1) := by decide +kernel
theorem dX7_behind_20 : decode cX7_behind 20 = .ok (.aload_n 0, 1) := by decide +kernel
theorem dX7_behind_21 : decode cX7_behind 21 = .ok (.invokevirtual 153, 3) := by decide +kernel
theorem dX7_behind_24 : decode cX7_behind 24 = .ok (.iconst 0, 1) := by decide +kernel
theorem dX7_behind_25 : decode cX7_behind 25 = .ok (.istore_n 3, 1) := by decide +kernel
theorem dX7_behind_26 : decode cX7_behind 26 = .ok (.iload_n 3, 1) := by decide +kernel
theorem dX7_behind_27 : decode cX7_behind 27 = .ok (.iload_n 1, 1) := by decide +kernel
theorem dX7_behind_28 : decode cX7_behind 28 = .ok (.if_icmp .ge 15, 3) := by decide +kernel
theorem dX7_behind_31 : decode cX7_behind 31 = .ok (.aload_n 0, 1) := by decide +kernel
theorem dX7_behind_32 : decode cX7_behind 32 = .ok (.iconst 1, 1) := by decide +kernel
theorem dX7_behind_33 : decode cX7_behind 33 = .ok (.invokevirtual 142, 3) := by decide +kernel
theorem dX7_behind_36 : decode cX7_behind 36 = .ok (.pop, 1) := by decide +kernel
theorem dX7_behind_37 : decode cX7_behind 37 = .ok (.iinc 3 1, 3) := by decide +kernel
theorem dX7_behind_40 : decode cX7_behind 40 = .ok (.goto (-14), 3) := by decide +kernel
theorem dX7_behind_43 : decode cX7_behind 43 = .ok (.aload_n 0, 1) := by decide +kernel
theorem dX7_behind_44 : decode cX7_behind 44 = .ok (.getfield 19, 3) := by decide +kernel
theorem dX7_behind_47 : decode cX7_behind 47 = .ok (.bipush 7, 2) := by decide +kernel
theorem dX7_behind_49 : decode cX7_behind 49 = .ok (.iload_n 2, 1) := by decide +kernel
theorem dX7_behind_50 : decode cX7_behind 50 = .ok (.iadd, 1) := by decide +kernel
theorem dX7_behind_51 : decode cX7_behind 51 = .ok (.iaload, 1) := by decide +kernel
theorem dX7_behind_52 : decode cX7_behind 52 = .ok (.istore_n 3, 1) := by decide +kernel
theorem dX7_behind_53 : decode cX7_behind 53 = .ok (.aload_n 0, 1) := by decide +kernel
theorem dX7_behind_54 : decode cX7_behind 54 = .ok (.invokevirtual 118, 3) := by decide +kernel
theorem dX7_behind_57 : decode cX7_behind 57 = .ok (.iload_n 3, 1) := by decide +kernel
theorem dX7_behind_58 : decode cX7_behind 58 = .ok (.iconst (-1), 1) := by decide +kernel
theorem dX7_behind_59 : decode cX7_behind 59 = .ok (.if_icmp .ne 8, 3) := by decide +kernel
theorem dX7_behind_62 : decode cX7_behind 62 = .ok (.bipush (-4), 2) := by decide +kernel
theorem dX7_behind_64 : decode cX7_behind 64 = .ok (.goto 4, 3) := by decide +kernel
theorem dX7_behind_67 : decode cX7_behind 67 = .ok (.iload_n 3, 1) := by decide +kernel
theorem dX7_behind_68 : decode cX7_behind 68 = .ok (.ireturn, 1) := by decide +kernel
theorem dX7_aboveOf_0 : decode cX7_aboveOf 0 = .ok (.iconst 0, 1) := by decide +kernel
theorem dX7_aboveOf_1 : decode cX7_aboveOf 1 = .ok (.istore_n 2, 1) := by decide +kernel
theorem dX7_aboveOf_2 : decode cX7_aboveOf 2 = .ok (.iconst 0, 1) := by decide +kernel
theorem dX7_aboveOf_3 : decode cX7_aboveOf 3 = .ok (.istore_n 3, 1) := by decide +kernel
theorem dX7_aboveOf_4 : decode cX7_aboveOf 4 = .ok (.iload_n 3, 1) := by decide +kernel
theorem dX7_aboveOf_5 : decode cX7_aboveOf 5 = .ok (.bipush 7, 2) := by decide +kernel
theorem dX7_aboveOf_7 : decode cX7_aboveOf 7 = .ok (.if_icmp .ge 74, 3) := by decide +kernel
theorem dX7_aboveOf_10 : decode cX7_aboveOf 10 = .ok (.iload_n 2, 1) := by decide +kernel
theorem dX7_aboveOf_11 : decode cX7_aboveOf 11 = .ok (.aload_n 0, 1) := by decide +kernel
theorem dX7_aboveOf_12 : decode cX7_aboveOf 12 = .ok (.getfield 19, 3) := by decide +kernel
theorem dX7_aboveOf_15 : decode cX7_aboveOf 15 = .ok (.bipush 7, 2) := by decide +kernel
theorem dX7_aboveOf_17 : decode cX7_aboveOf 17 = .ok (.iload_n 1, 1) := by decide +kernel
theorem dX7_aboveOf_18 : decode cX7_aboveOf 18 = .ok (.iadd, 1) := by decide +kernel
theorem dX7_aboveOf_19 : decode cX7_aboveOf 19 = .ok (.iaload, 1) := by decide +kernel
theorem dX7_aboveOf_20 : decode cX7_aboveOf 20 = .ok (.iconst (-1), 1) := by decide +kernel
theorem dX7_aboveOf_21 : decode cX7_aboveOf 21 = .ok (.if_icmp .eq 51, 3) := by decide +kernel
theorem dX7_aboveOf_24 : decode cX7_aboveOf 24 = .ok (.aload_n 0, 1) := by decide +kernel
theorem dX7_aboveOf_25 : decode cX7_aboveOf 25 = .ok (.getfield 19, 3) := by decide +kernel
theorem dX7_aboveOf_28 : decode cX7_aboveOf 28 = .ok (.bipush 7, 2) := by decide +kernel
theorem dX7_aboveOf_30 : decode cX7_aboveOf 30 = .ok (.iload_n 3, 1) := by decide +kernel
theorem dX7_aboveOf_31 : decode cX7_aboveOf 31 = .ok (.iadd, 1) := by decide +kernel
theorem dX7_aboveOf_32 : decode cX7_aboveOf 32 = .ok (.iaload, 1) := by decide +kernel
theorem dX7_aboveOf_33 : decode cX7_aboveOf 33 = .ok (.aload_n 0, 1) := by decide +kernel
theorem dX7_aboveOf_34 : decode cX7_aboveOf 34 = .ok (.getfield 19, 3) := by decide +kernel
theorem dX7_aboveOf_37 : decode cX7_aboveOf 37 = .ok (.bipush 7, 2) := by decide +kernel
theorem dX7_aboveOf_39 : decode cX7_aboveOf 39 = .ok (.iload_n 1, 1) := by decide +kernel
theorem dX7_aboveOf_40 : decode cX7_aboveOf 40 = .ok (.iadd, 1) := by decide +kernel
theorem dX7_aboveOf_41 : decode cX7_aboveOf 41 = .ok (.iaload, 1) := by decide +kernel
theorem dX7_aboveOf_42 : decode cX7_aboveOf 42 = .ok (.if_icmp .ne 30, 3) := by decide +kernel
theorem dX7_aboveOf_45 : decode cX7_aboveOf 45 = .ok (.aload_n 0, 1) := by decide +kernel
theorem dX7_aboveOf_46 : decode cX7_aboveOf 46 = .ok (.getfield 19, 3) := by decide +kernel
theorem dX7_aboveOf_49 : decode cX7_aboveOf 49 = .ok (.bipush 14, 2) := by decide +kernel
theorem dX7_aboveOf_51 : decode cX7_aboveOf 51 = .ok (.iload_n 3, 1) := by decide +kernel
theorem dX7_aboveOf_52 : decode cX7_aboveOf 52 = .ok (.iadd, 1) := by decide +kernel
theorem dX7_aboveOf_53 : decode cX7_aboveOf 53 = .ok (.iaload, 1) := by decide +kernel
theorem dX7_aboveOf_54 : decode cX7_aboveOf 54 = .ok (.aload_n 0, 1) := by decide +kernel
theorem dX7_aboveOf_55 : decode cX7_aboveOf 55 = .ok (.getfield 19, 3) := by decide +kernel
theorem dX7_aboveOf_58 : decode cX7_aboveOf 58 = .ok (.bipush 14, 2) := by decide +kernel
theorem dX7_aboveOf_60 : decode cX7_aboveOf 60 = .ok (.iload_n 1, 1) := by decide +kernel
theorem dX7_aboveOf_61 : decode cX7_aboveOf 61 = .ok (.iadd, 1) := by decide +kernel
theorem dX7_aboveOf_62 : decode cX7_aboveOf 62 = .ok (.iaload, 1) := by decide +kernel
theorem dX7_aboveOf_63 : decode cX7_aboveOf 63 = .ok (.if_icmp .le 9, 3) := by decide +kernel
theorem dX7_aboveOf_66 : decode cX7_aboveOf 66 = .ok (.iconst 1, 1) := by decide +kernel
theorem dX7_aboveOf_67 : decode cX7_aboveOf 67 = .ok (.iload_n 3, 1) := by decide +kernel
theorem dX7_aboveOf_68 : decode cX7_aboveOf 68 = .ok (.ishl, 1) := by decide +kernel
theorem dX7_aboveOf_69 : decode cX7_aboveOf 69 = .ok (.goto 4, 3) := by decide +kernel
theorem dX7_aboveOf_72 : decode cX7_aboveOf 72 = .ok (.iconst 0, 1) := by decide +kernel
theorem dX7_aboveOf_73 : decode cX7_aboveOf 73 = .ok (.ior, 1) := by decide +kernel
theorem dX7_aboveOf_74 : decode cX7_aboveOf 74 = .ok (.istore_n 2, 1) := by decide +kernel
theorem dX7_aboveOf_75 : decode cX7_aboveOf 75 = .ok (.iinc 3 1, 3) := by decide +kernel
theorem dX7_aboveOf_78 : decode cX7_aboveOf 78 = .ok (.goto (-74), 3) := by decide +kernel
theorem dX7_aboveOf_81 : decode cX7_aboveOf 81 = .ok (.iload_n 2, 1) := by decide +kernel
theorem dX7_aboveOf_82 : decode cX7_aboveOf 82 = .ok (.ireturn, 1) := by decide +kernel
theorem dX7_above_0 : decode cX7_above 0 = .ok (.aload_n 0, 1) := by decide +kernel
theorem dX7_above_1 : decode cX7_above 1 = .ok (.iload_n 1, 1) := by decide +kernel
theorem dX7_above_2 : decode cX7_above 2 = .ok (.invokevirtual 133, 3) := by decide +kernel
theorem dX7_above_5 : decode cX7_above 5 = .ok (.ifCond .eq 11, 3) := by decide +kernel
theorem dX7_above_8 : decode cX7_above 8 = .ok (.aload_n 0, 1) := by decide +kernel
theorem dX7_above_9 : decode cX7_above 9 = .ok (.iload_n 1, 1) := by decide +kernel
theorem dX7_above_10 : decode cX7_above 10 = .ok (.invokevirtual 156, 3) := by decide +kernel
theorem dX7_above_13 : decode cX7_above 13 = .ok (.goto 4, 3) := by decide +kernel
theorem dX7_above_16 : decode cX7_above 16 = .ok (.iconst (-1), 1) := by decide +kernel
theorem dX7_above_17 : decode cX7_above 17 = .ok (.ireturn, 1) := by decide +kernel
theorem dX7_marks_0 : decode cX7_marks 0 = .ok (.iconst 0, 1) := by decide +kernel
theorem dX7_marks_1 : decode cX7_marks 1 = .ok (.istore_n 1, 1) := by decide +kernel
theorem dX7_marks_2 : decode cX7_marks 2 = .ok (.iload_n 1, 1) := by decide +kernel
theorem dX7_marks_3 : decode cX7_marks 3 = .ok (.aload_n 0, 1) := by decide +kernel
theorem dX7_marks_4 : decode cX7_marks 4 = .ok (.getfield 13, 3) := by decide +kernel
theorem dX7_marks_7 : decode cX7_marks 7 = .ok (.iconst 1, 1) := by decide +kernel
theorem dX7_marks_8 : decode cX7_marks 8 = .ok (.iaload, 1) := by decide +kernel
theorem dX7_marks_9 : decode cX7_marks 9 = .ok (.if_icmp .ge 24, 3) := by decide +kernel
theorem dX7_marks_12 : decode cX7_marks 12 = .ok (.aload_n 0, 1) := by decide +kernel
theorem dX7_marks_13 : decode cX7_marks 13 = .ok (.getfield 34, 3) := by decide +kernel
theorem dX7_marks_16 : decode cX7_marks 16 = .ok (.iload_n 1, 1) := by decide +kernel
theorem dX7_marks_17 : decode cX7_marks 17 = .ok (.aload_n 0, 1) := by decide +kernel
theorem dX7_marks_18 : decode cX7_marks 18 = .ok (.getfield 19, 3) := by decide +kernel
theorem dX7_marks_21 : decode cX7_marks 21 = .ok (.bipush 7, 2) := by decide +kernel
theorem dX7_marks_23 : decode cX7_marks 23 = .ok (.iload_n 1, 1) := by decide +kernel
theorem dX7_marks_24 : decode cX7_marks 24 = .ok (.iadd, 1) := by decide +kernel
theorem dX7_marks_25 : decode cX7_marks 25 = .ok (.iaload, 1) := by decide +kernel
theorem dX7_marks_26 : decode cX7_marks 26 = .ok (.iastore, 1) := by decide +kernel
theorem dX7_marks_27 : decode cX7_marks 27 = .ok (.iinc 1 1, 3) := by decide +kernel
theorem dX7_marks_30 : decode cX7_marks 30 = .ok (.goto (-28), 3) := by decide +kernel
theorem dX7_marks_33 : decode cX7_marks 33 = .ok (.return_, 1) := by decide +kernel
theorem dX7_packed_0 : decode cX7_packed 0 = .ok (.iconst 0, 1) := by decide +kernel
theorem dX7_packed_1 : decode cX7_packed 1 = .ok (.istore_n 1, 1) := by decide +kernel
theorem dX7_packed_2 : decode cX7_packed 2 = .ok (.iconst 0, 1) := by decide +kernel
theorem dX7_packed_3 : decode cX7_packed 3 = .ok (.istore_n 2, 1) := by decide +kernel
theorem dX7_packed_4 : decode cX7_packed 4 = .ok (.iload_n 2, 1) := by decide +kernel
theorem dX7_packed_5 : decode cX7_packed 5 = .ok (.aload_n 0, 1) := by decide +kernel
theorem dX7_packed_6 : decode cX7_packed 6 = .ok (.getfield 13, 3) := by decide +kernel
theorem dX7_packed_9 : decode cX7_packed 9 = .ok (.iconst 1, 1) := by decide +kernel
theorem dX7_packed_10 : decode cX7_packed 10 = .ok (.iaload, 1) := by decide +kernel
theorem dX7_packed_11 : decode cX7_packed 11 = .ok (.if_icmp .ge 32, 3) := by decide +kernel
theorem dX7_packed_14 : decode cX7_packed 14 = .ok (.aload_n 0, 1) := by decide +kernel
theorem dX7_packed_15 : decode cX7_packed 15 = .ok (.getfield 19, 3) := by decide +kernel
theorem dX7_packed_18 : decode cX7_packed 18 = .ok (.bipush 7, 2) := by decide +kernel
theorem dX7_packed_20 : decode cX7_packed 20 = .ok (.iload_n 2, 1) := by decide +kernel
theorem dX7_packed_21 : decode cX7_packed 21 = .ok (.iadd, 1) := by decide +kernel
theorem dX7_packed_22 : decode cX7_packed 22 = .ok (.iaload, 1) := by decide +kernel
theorem dX7_packed_23 : decode cX7_packed 23 = .ok (.iconst (-1), 1) := by decide +kernel
theorem dX7_packed_24 : decode cX7_packed 24 = .ok (.if_icmp .ne 13, 3) := by decide +kernel
theorem dX7_packed_27 : decode cX7_packed 27 = .ok (.aload_n 0, 1) := by decide +kernel
theorem dX7_packed_28 : decode cX7_packed 28 = .ok (.getfield 37, 3) := by decide +kernel
theorem dX7_packed_31 : decode cX7_packed 31 = .ok (.iload_n 1, 1) := by decide +kernel
theorem dX7_packed_32 : decode cX7_packed 32 = .ok (.iload_n 2, 1) := by decide +kernel
theorem dX7_packed_33 : decode cX7_packed 33 = .ok (.iastore, 1) := by decide +kernel
theorem dX7_packed_34 : decode cX7_packed 34 = .ok (.iinc 1 1, 3) := by decide +kernel
theorem dX7_packed_37 : decode cX7_packed 37 = .ok (.iinc 2 1, 3) := by decide +kernel
theorem dX7_packed_40 : decode cX7_packed 40 = .ok (.goto (-36), 3) := by decide +kernel
theorem dX7_packed_43 : decode cX7_packed 43 = .ok (.aload_n 0, 1) := by decide +kernel
theorem dX7_packed_44 : decode cX7_packed 44 = .ok (.getfield 43, 3) := by decide +kernel
theorem dX7_packed_47 : decode cX7_packed 47 = .ok (.iload_n 1, 1) := by decide +kernel
theorem dX7_packed_48 : decode cX7_packed 48 = .ok (.iconst 0, 1) := by decide +kernel
theorem dX7_packed_49 : decode cX7_packed 49 = .ok (.iastore, 1) := by decide +kernel
theorem dX7_packed_50 : decode cX7_packed 50 = .ok (.iload_n 1, 1) := by decide +kernel
theorem dX7_packed_51 : decode cX7_packed 51 = .ok (.iconst 1, 1) := by decide +kernel
theorem dX7_packed_52 : decode cX7_packed 52 = .ok (.isub, 1) := by decide +kernel
theorem dX7_packed_53 : decode cX7_packed 53 = .ok (.istore_n 2, 1) := by decide +kernel
theorem dX7_packed_54 : decode cX7_packed 54 = .ok (.iload_n 2, 1) := by decide +kernel
theorem dX7_packed_55 : decode cX7_packed 55 = .ok (.ifCond .lt 38, 3) := by decide +kernel
theorem dX7_packed_58 : decode cX7_packed 58 = .ok (.aload_n 0, 1) := by decide +kernel
theorem dX7_packed_59 : decode cX7_packed 59 = .ok (.getfield 43, 3) := by decide +kernel
theorem dX7_packed_62 : decode cX7_packed 62 = .ok (.iload_n 2, 1) := by decide +kernel
theorem dX7_packed_63 : decode cX7_packed 63 = .ok (.aload_n 0, 1) := by decide +kernel
theorem dX7_packed_64 : decode cX7_packed 64 = .ok (.getfield 43, 3) := by decide +kernel
theorem dX7_packed_67 : decode cX7_packed 67 = .ok (.iload_n 2, 1) := by decide +kernel
theorem dX7_packed_68 : decode cX7_packed 68 = .ok (.iconst 1, 1) := by decide +kernel
theorem dX7_packed_69 : decode cX7_packed 69 = .ok (.iadd, 1) := by decide +kernel
theorem dX7_packed_70 : decode cX7_packed 70 = .ok (.iaload, 1) := by decide +kernel
theorem dX7_packed_71 : decode cX7_packed 71 = .ok (.aload_n 0, 1) := by decide +kernel
theorem dX7_packed_72 : decode cX7_packed 72 = .ok (.getfield 13, 3) := by decide +kernel
theorem dX7_packed_75 : decode cX7_packed 75 = .ok (.bipush 9, 2) := by decide +kernel
theorem dX7_packed_77 : decode cX7_packed 77 = .ok (.aload_n 0, 1) := by decide +kernel
theorem dX7_packed_78 : decode cX7_packed 78 = .ok (.getfield 37, 3) := by decide +kernel
theorem dX7_packed_81 : decode cX7_packed 81 = .ok (.iload_n 2, 1) := by decide +kernel
theorem dX7_packed_82 : decode cX7_packed 82 = .ok (.iaload, 1) := by decide +kernel
theorem dX7_packed_83 : decode cX7_packed 83 = .ok (.iadd, 1) := by decide +kernel
theorem dX7_packed_84 : decode cX7_packed 84 = .ok (.iaload, 1) := by decide +kernel
theorem dX7_packed_85 : decode cX7_packed 85 = .ok (.iadd, 1) := by decide +kernel
theorem dX7_packed_86 : decode cX7_packed 86 = .ok (.iastore, 1) := by decide +kernel
theorem dX7_packed_87 : decode cX7_packed 87 = .ok (.iinc 2 (-1), 3) := by decide +kernel
theorem dX7_packed_90 : decode cX7_packed 90 = .ok (.goto (-36), 3) := by decide +kernel
theorem dX7_packed_93 : decode cX7_packed 93 = .ok (.aload_n 0, 1) := by decide +kernel
theorem dX7_packed_94 : decode cX7_packed 94 = .ok (.invokevirtual 153, 3) := by decide +kernel
theorem dX7_packed_97 : decode cX7_packed 97 = .ok (.iconst (-1), 1) := by decide +kernel
theorem dX7_packed_98 : decode cX7_packed 98 = .ok (.istore_n 2, 1) := by decide +kernel
theorem dX7_packed_99 : decode cX7_packed 99 = .ok (.iconst 0, 1) := by decide +kernel
theorem dX7_packed_100 : decode cX7_packed 100 = .ok (.istore_n 3, 1) := by decide +kernel
theorem dX7_packed_101 : decode cX7_packed 101 = .ok (.iconst 0, 1) := by decide +kernel
theorem dX7_packed_102 : decode cX7_packed 102 = .ok (.istore 4, 2) := by decide +kernel
theorem dX7_packed_104 : decode cX7_packed 104 = .ok (.aload_n 0, 1) := by decide +kernel
theorem dX7_packed_105 : decode cX7_packed 105 = .ok (.getfield 40, 3) := by decide +kernel
theorem dX7_packed_108 : decode cX7_packed 108 = .ok (.iconst 0, 1) := by decide +kernel
theorem dX7_packed_109 : decode cX7_packed 109 = .ok (.iconst (-1), 1) := by decide +kernel
theorem dX7_packed_110 : decode cX7_packed 110 = .ok (.iastore, 1) := by decide +kernel
theorem dX7_packed_111 : decode cX7_packed 111 = .ok (.iload 4, 2) := by decide +kernel
theorem dX7_packed_113 : decode cX7_packed 113 = .ok (.ifCond .lt 248, 3) := by decide +kernel
theorem dX7_packed_116 : decode cX7_packed 116 = .ok (.iload 4, 2) := by decide +kernel
theorem dX7_packed_118 : decode cX7_packed 118 = .ok (.iload_n 1, 1) := by decide +kernel
theorem dX7_packed_119 : decode cX7_packed 119 = .ok (.if_icmp .ne 7, 3) := by decide +kernel
theorem dX7_packed_122 : decode cX7_packed 122 = .ok (.iconst 1, 1) := by decide +kernel
theorem dX7_packed_123 : decode cX7_packed 123 = .ok (.goto 4, 3) := by decide +kernel
theorem dX7_packed_126 : decode cX7_packed 126 = .ok (.iconst 0, 1) := by decide +kernel
theorem dX7_packed_127 : decode cX7_packed 127 = .ok (.istore 5, 2) := by decide +kernel
theorem dX7_packed_129 : decode cX7_packed 129 = .ok (.iload 5, 2) := by decide +kernel
theorem dX7_packed_131 : decode cX7_packed 131 = .ok (.ifCond .eq 14, 3) := by decide +kernel
theorem dX7_packed_134 : decode cX7_packed 134 = .ok (.iload_n 3, 1) := by decide +kernel
theorem dX7_packed_135 : decode cX7_packed 135 = .ok (.iload_n 2, 1) := by decide +kernel
theorem dX7_packed_136 : decode cX7_packed 136 = .ok (.if_icmp .le 9, 3) := by decide +kernel
theorem dX7_packed_139 : decode cX7_packed 139 = .ok (.iload_n 3, 1) := by decide +kernel
theorem dX7_packed_140 : decode cX7_packed 140 = .ok (.istore_n 2, 1) := by decide +kernel
theorem dX7_packed_141 : decode cX7_packed 141 = .ok (.aload_n 0, 1) := by decide +kernel
theorem dX7_packed_142 : decode cX7_packed 142 = .ok (.invokevirtual 159, 3) := by decide +kernel
theorem dX7_packed_145 : decode cX7_packed 145 = .ok (.iload 5, 2) := by decide +kernel
theorem dX7_packed_147 : decode cX7_packed 147 = .ok (.ifCond .eq 14, 3) := by decide +kernel
theorem dX7_packed_150 : decode cX7_packed 150 = .ok (.aload_n 0, 1) := by decide +kernel
theorem dX7_packed_151 : decode cX7_packed 151 = .ok (.getfield 13, 3) := by decide +kernel
theorem dX7_packed_154 : decode cX7_packed 154 = .ok (.iconst 0, 1) := by decide +kernel
theorem dX7_packed_155 : decode cX7_packed 155 = .ok (.iaload, 1) := by decide +kernel
theorem dX7_packed_156 : decode cX7_packed 156 = .ok (.iconst 1, 1) := by decide +kernel
theorem dX7_packed_157 : decode cX7_packed 157 = .ok (.iadd, 1) := by decide +kernel
theorem dX7_packed_158 : decode cX7_packed 158 = .ok (.goto 12, 3) := by decide +kernel
theorem dX7_packed_161 : decode cX7_packed 161 = .ok (.aload_n 0, 1) := by decide +kernel
theorem dX7_packed_162 : decode cX7_packed 162 = .ok (.getfield 40, 3) := by decide +kernel
theorem dX7_packed_165 : decode cX7_packed 165 = .ok (.iload 4, 2) := by decide +kernel
theorem dX7_packed_167 : decode cX7_packed 167 = .ok (.iaload, 1) := by decide +kernel
theorem dX7_packed_168 : decode cX7_packed 168 = .ok (.iconst 1, 1) := by decide +kernel
theorem dX7_packed_169 : decode cX7_packed 169 = .ok (.iadd, 1) := by decide +kernel
theorem dX7_packed_170 : decode cX7_packed 170 = .ok (.istore 6, 2) := by decide +kernel
theorem dX7_packed_172 : decode cX7_packed 172 = .ok (.iload 5, 2) := by decide +kernel
theorem dX7_packed_174 : decode cX7_packed 174 = .ok (.ifCond .ne 59, 3) := by decide +kernel
theorem dX7_packed_177 : decode cX7_packed 177 = .ok (.aload_n 0, 1) := by decide +kernel
theorem dX7_packed_178 : decode cX7_packed 178 = .ok (.getfield 40, 3) := by decide +kernel
theorem dX7_packed_181 : decode cX7_packed 181 = .ok (.iload 4, 2) := by decide +kernel
theorem dX7_packed_183 : decode cX7_packed 183 = .ok (.iaload, 1) := by decide +kernel
theorem dX7_packed_184 : decode cX7_packed 184 = .ok (.ifCond .lt 49, 3) := by decide +kernel
theorem dX7_packed_187 : decode cX7_packed 187 = .ok (.aload_n 0, 1) := by decide +kernel
theorem dX7_packed_188 : decode cX7_packed 188 = .ok (.getfield 40, 3) := by decide +kernel
theorem dX7_packed_191 : decode cX7_packed 191 = .ok (.iload 4, 2) := by decide +kernel
theorem dX7_packed_193 : decode cX7_packed 193 = .ok (.iaload, 1) := by decide +kernel
theorem dX7_packed_194 : decode cX7_packed 194 = .ok (.aload_n 0, 1) := by decide +kernel
theorem dX7_packed_195 : decode cX7_packed 195 = .ok (.getfield 13, 3) := by decide +kernel
theorem dX7_packed_198 : decode cX7_packed 198 = .ok (.iconst 0, 1) := by decide +kernel
theorem dX7_packed_199 : decode cX7_packed 199 = .ok (.iaload, 1) := by decide +kernel
theorem dX7_packed_200 : decode cX7_packed 200 = .ok (.if_icmp .ge 33, 3) := by decide +kernel
theorem dX7_packed_203 : decode cX7_packed 203 = .ok (.aload_n 0, 1) := by decide +kernel
theorem dX7_packed_204 : decode cX7_packed 204 = .ok (.aload_n 0, 1) := by decide +kernel
theorem dX7_packed_205 : decode cX7_packed 205 = .ok (.getfield 37, 3) := by decide +kernel
theorem dX7_packed_208 : decode cX7_packed 208 = .ok (.iload 4, 2) := by decide +kernel
theorem dX7_packed_210 : decode cX7_packed 210 = .ok (.iaload, 1) := by decide +kernel
theorem dX7_packed_211 : decode cX7_packed 211 = .ok (.invokevirtual 136, 3) := by decide +kernel
theorem dX7_packed_214 : decode cX7_packed 214 = .ok (.pop, 1) := by decide +kernel
theorem dX7_packed_215 : decode cX7_packed 215 = .ok (.iload_n 3, 1) := by decide +kernel
theorem dX7_packed_216 : decode cX7_packed 216 = .ok (.aload_n 0, 1) := by decide +kernel
theorem dX7_packed_217 : decode cX7_packed 217 = .ok (.getfield 13, 3) := by decide +kernel
theorem dX7_packed_220 : decode cX7_packed 220 = .ok (.bipush 9, 2) := by decide +kernel
theorem dX7_packed_222 : decode cX7_packed 222 = .ok (.aload_n 0, 1) := by decide +kernel
theorem dX7_packed_223 : decode cX7_packed 223 = .ok (.getfield 37, 3) := by decide +kernel
theorem dX7_packed_226 : decode cX7_packed 226 = .ok (.iload 4, 2) := by decide +kernel
theorem dX7_packed_228 : decode cX7_packed 228 = .ok (.iaload, 1) := by decide +kernel
theorem dX7_packed_229 : decode cX7_packed 229 = .ok (.iadd, 1) := by decide +kernel
theorem dX7_packed_230 : decode cX7_packed 230 = .ok (.iaload, 1) := by decide +kernel
theorem dX7_packed_231 : decode cX7_packed 231 = .ok (.isub, 1) := by decide +kernel
theorem dX7_packed_232 : decode cX7_packed 232 = .ok (.istore_n 3, 1) := by decide +kernel
theorem dX7_packed_233 : decode cX7_packed 233 = .ok (.iload 6, 2) := by decide +kernel
theorem dX7_packed_235 : decode cX7_packed 235 = .ok (.aload_n 0, 1) := by decide +kernel
theorem dX7_packed_236 : decode cX7_packed 236 = .ok (.getfield 13, 3) := by decide +kernel
theorem dX7_packed_239 : decode cX7_packed 239 = .ok (.iconst 0, 1) := by decide +kernel
theorem dX7_packed_240 : decode cX7_packed 240 = .ok (.iaload, 1) := by decide +kernel
theorem dX7_packed_241 : decode cX7_packed 241 = .ok (.if_icmp .ge 25, 3) := by decide +kernel
theorem dX7_packed_244 : decode cX7_packed 244 = .ok (.aload_n 0, 1) := by decide +kernel
theorem dX7_packed_245 : decode cX7_packed 245 = .ok (.aload_n 0, 1) := by decide +kernel
theorem dX7_packed_246 : decode cX7_packed 246 = .ok (.getfield 37, 3) := by decide +kernel
theorem dX7_packed_249 : decode cX7_packed 249 = .ok (.iload 4, 2) := by decide +kernel
theorem dX7_packed_251 : decode cX7_packed 251 = .ok (.iaload, 1) := by decide +kernel
theorem dX7_packed_252 : decode cX7_packed 252 = .ok (.iload 6, 2) := by decide +kernel
theorem dX7_packed_254 : decode cX7_packed 254 = .ok (.invokevirtual 145, 3) := by decide +kernel
theorem dX7_packed_257 : decode cX7_packed 257 = .ok (.ifCond .ne 9, 3) := by decide +kernel
theorem dX7_packed_260 : decode cX7_packed 260 = .ok (.iinc 6 1, 3) := by decide +kernel
theorem dX7_packed_263 : decode cX7_packed 263 = .ok (.goto (-30), 3) := by decide +kernel
theorem dX7_packed_266 : decode cX7_packed 266 = .ok (.iload 6, 2) := by decide +kernel
theorem dX7_packed_268 : decode cX7_packed 268 = .ok (.aload_n 0, 1) := by decide +kernel
theorem dX7_packed_269 : decode cX7_packed 269 = .ok (.getfield 13, 3) := by decide +kernel
theorem dX7_packed_272 : decode cX7_packed 272 = .ok (.iconst 0, 1) := by decide +kernel
theorem dX7_packed_273 : decode cX7_packed 273 = .ok (.iaload, 1) := by decide +kernel
theorem dX7_packed_274 : decode cX7_packed 274 = .ok (.if_icmp .gt 16, 3) := by decide +kernel
theorem dX7_packed_277 : decode cX7_packed 277 = .ok (.iload_n 3, 1) := by decide +kernel
theorem dX7_packed_278 : decode cX7_packed 278 = .ok (.aload_n 0, 1) := by decide +kernel
theorem dX7_packed_279 : decode cX7_packed 279 = .ok (.getfield 43, 3) := by decide +kernel
theorem dX7_packed_282 : decode cX7_packed 282 = .ok (.iload 4, 2) := by decide +kernel
theorem dX7_packed_284 : decode cX7_packed 284 = .ok (.iaload, 1) := by decide +kernel
theorem dX7_packed_285 : decode cX7_packed 285 = .ok (.iadd, 1) := by decide +kernel
theorem dX7_packed_286 : decode cX7_packed 286 = .ok (.iload_n 2, 1) := by decide +kernel
theorem dX7_packed_287 : decode cX7_packed 287 = .ok (.if_icmp .gt 9, 3) := by decide +kernel
theorem dX7_packed_290 : decode cX7_packed 290 = .ok (.iinc 4 (-1), 3) := by decide +kernel
theorem dX7_packed_293 : decode cX7_packed 293 = .ok (.goto 65, 3) := by decide +kernel
theorem dX7_packed_296 : decode cX7_packed 296 = .ok (.aload_n 0, 1) := by decide +kernel
theorem dX7_packed_297 : decode cX7_packed 297 = .ok (.getfield 40, 3) := by decide +kernel
theorem dX7_packed_300 : decode cX7_packed 300 = .ok (.iload 4, 2) := by decide +kernel
theorem dX7_packed_302 : decode cX7_packed 302 = .ok (.iload 6, 2) := by decide +kernel
theorem dX7_packed_304 : decode cX7_packed 304 = .ok (.iastore, 1) := by decide +kernel
theorem dX7_packed_305 : decode cX7_packed 305 = .ok (.iload 6, 2) := by decide +kernel
theorem dX7_packed_307 : decode cX7_packed 307 = .ok (.aload_n 0, 1) := by decide +kernel
theorem dX7_packed_308 : decode cX7_packed 308 = .ok (.getfield 13, 3) := by decide +kernel
theorem dX7_packed_311 : decode cX7_packed 311 = .ok (.iconst 0, 1) := by decide +kernel
theorem dX7_packed_312 : decode cX7_packed 312 = .ok (.iaload, 1) := by decide +kernel
theorem dX7_packed_313 : decode cX7_packed 313 = .ok (.if_icmp .ge 34, 3) := by decide +kernel
theorem dX7_packed_316 : decode cX7_packed 316 = .ok (.aload_n 0, 1) := by decide +kernel
theorem dX7_packed_317 : decode cX7_packed 317 = .ok (.aload_n 0, 1) := by decide +kernel
theorem dX7_packed_318 : decode cX7_packed 318 = .ok (.getfield 37, 3) := by decide +kernel
theorem dX7_packed_321 : decode cX7_packed 321 = .ok (.iload 4, 2) := by decide +kernel
theorem dX7_packed_323 : decode cX7_packed 323 = .ok (.iaload, 1) := by decide +kernel
theorem dX7_packed_324 : decode cX7_packed 324 = .ok (.iload 6, 2) := by decide +kernel
theorem dX7_packed_326 : decode cX7_packed 326 = .ok (.invokevirtual 95, 3) := by decide +kernel
theorem dX7_packed_329 : decode cX7_packed 329 = .ok (.iload_n 3, 1) := by decide +kernel
theorem dX7_packed_330 : decode cX7_packed 330 = .ok (.aload_n 0, 1) := by decide +kernel
theorem dX7_packed_331 : decode cX7_packed 331 = .ok (.getfield 13, 3) := by decide +kernel
theorem dX7_packed_334 : decode cX7_packed 334 = .ok (.bipush 9, 2) := by decide +kernel
theorem dX7_packed_336 : decode cX7_packed 336 = .ok (.aload_n 0, 1) := by decide +kernel
theorem dX7_packed_337 : decode cX7_packed 337 = .ok (.getfield 37, 3) := by decide +kernel
theorem dX7_packed_340 : decode cX7_packed 340 = .ok (.iload 4, 2) := by decide +kernel
theorem dX7_packed_342 : decode cX7_packed 342 = .ok (.iaload, 1) := by decide +kernel
theorem dX7_packed_343 : decode cX7_packed 343 = .ok (.iadd, 1) := by decide +kernel
theorem dX7_packed_344 : decode cX7_packed 344 = .ok (.iaload, 1) := by decide +kernel
theorem dX7_packed_345 : decode cX7_packed 345 = .ok (.iadd, 1) := by decide +kernel
theorem dX7_packed_346 : decode cX7_packed 346 = .ok (.istore_n 3, 1) := by decide +kernel
theorem dX7_packed_347 : decode cX7_packed 347 = .ok (.iinc 4 1, 3) := by decide +kernel
theorem dX7_packed_350 : decode cX7_packed 350 = .ok (.aload_n 0, 1) := by decide +kernel
theorem dX7_packed_351 : decode cX7_packed 351 = .ok (.getfield 40, 3) := by decide +kernel
theorem dX7_packed_354 : decode cX7_packed 354 = .ok (.iload 4, 2) := by decide +kernel
theorem dX7_packed_356 : decode cX7_packed 356 = .ok (.iconst (-1), 1) := by decide +kernel
theorem dX7_packed_357 : decode cX7_packed 357 = .ok (.iastore, 1) := by decide +kernel
theorem dX7_packed_358 : decode cX7_packed 358 = .ok (.goto (-247), 3) := by decide +kernel
theorem dX7_packed_361 : decode cX7_packed 361 = .ok (.aload_n 0, 1) := by decide +kernel
theorem dX7_packed_362 : decode cX7_packed 362 = .ok (.invokevirtual 118, 3) := by decide +kernel
theorem dX7_packed_365 : decode cX7_packed 365 = .ok (.iload_n 2, 1) := by decide +kernel
theorem dX7_packed_366 : decode cX7_packed 366 = .ok (.ireturn, 1) := by decide +kernel
theorem dX7_packs_0 : decode cX7_packs 0 = .ok (.iload_n 1, 1) := by decide +kernel
theorem dX7_packs_1 : decode cX7_packs 1 = .ok (.iconst (-1), 1) := by decide +kernel
theorem dX7_packs_2 : decode cX7_packs 2 = .ok (.if_icmp .eq 13, 3) := by decide +kernel
theorem dX7_packs_5 : decode cX7_packs 5 = .ok (.aload_n 0, 1) := by decide +kernel
theorem dX7_packs_6 : decode cX7_packs 6 = .ok (.iload_n 1, 1) := by decide +kernel
theorem dX7_packs_7 : decode cX7_packs 7 = .ok (.invokevirtual 133, 3) := by decide +kernel
theorem dX7_packs_10 : decode cX7_packs 10 = .ok (.ifCond .ne 5, 3) := by decide +kernel
theorem dX7_packs_13 : decode cX7_packs 13 = .ok (.iconst (-1), 1) := by decide +kernel
theorem dX7_packs_14 : decode cX7_packs 14 = .ok (.ireturn, 1) := by decide +kernel
theorem dX7_packs_15 : decode cX7_packs 15 = .ok (.aload_n 0, 1) := by decide +kernel
theorem dX7_packs_16 : decode cX7_packs 16 = .ok (.invokevirtual 162, 3) := by decide +kernel
theorem dX7_packs_19 : decode cX7_packs 19 = .ok (.istore_n 2, 1) := by decide +kernel
theorem dX7_packs_20 : decode cX7_packs 20 = .ok (.iload_n 1, 1) := by decide +kernel
theorem dX7_packs_21 : decode cX7_packs 21 = .ok (.iconst (-1), 1) := by decide +kernel
theorem dX7_packs_22 : decode cX7_packs 22 = .ok (.if_icmp .ne 7, 3) := by decide +kernel
theorem dX7_packs_25 : decode cX7_packs 25 = .ok (.iload_n 2, 1) := by decide +kernel
theorem dX7_packs_26 : decode cX7_packs 26 = .ok (.goto 24, 3) := by decide +kernel
theorem dX7_packs_29 : decode cX7_packs 29 = .ok (.aload_n 0, 1) := by decide +kernel
theorem dX7_packs_30 : decode cX7_packs 30 = .ok (.getfield 34, 3) := by decide +kernel
theorem dX7_packs_33 : decode cX7_packs 33 = .ok (.iload_n 1, 1) := by decide +kernel
theorem dX7_packs_34 : decode cX7_packs 34 = .ok (.iaload, 1) := by decide +kernel
theorem dX7_packs_35 : decode cX7_packs 35 = .ok (.iconst (-1), 1) := by decide +kernel
theorem dX7_packs_36 : decode cX7_packs 36 = .ok (.if_icmp .ne 8, 3) := by decide +kernel
theorem dX7_packs_39 : decode cX7_packs 39 = .ok (.bipush (-4), 2) := by decide +kernel
theorem dX7_packs_41 : decode cX7_packs 41 = .ok (.goto 9, 3) := by decide +kernel
theorem dX7_packs_44 : decode cX7_packs 44 = .ok (.aload_n 0, 1) := by decide +kernel
theorem dX7_packs_45 : decode cX7_packs 45 = .ok (.getfield 34, 3) := by decide +kernel
theorem dX7_packs_48 : decode cX7_packs 48 = .ok (.iload_n 1, 1) := by decide +kernel
theorem dX7_packs_49 : decode cX7_packs 49 = .ok (.iaload, 1) := by decide +kernel
theorem dX7_packs_50 : decode cX7_packs 50 = .ok (.ireturn, 1) := by decide +kernel
theorem dX7_lyingAll_0 : decode cX7_lyingAll 0 = .ok (.iconst 0, 1) := by decide +kernel
theorem dX7_lyingAll_1 : decode cX7_lyingAll 1 = .ok (.istore_n 1, 1) := by decide +kernel
theorem dX7_lyingAll_2 : decode cX7_lyingAll 2 = .ok (.iconst 0, 1) := by decide +kernel
theorem dX7_lyingAll_3 : decode cX7_lyingAll 3 = .ok (.istore_n 2, 1) := by decide +kernel
theorem dX7_lyingAll_4 : decode cX7_lyingAll 4 = .ok (.iload_n 2, 1) := by decide +kernel
theorem dX7_lyingAll_5 : decode cX7_lyingAll 5 = .ok (.aload_n 0, 1) := by decide +kernel
theorem dX7_lyingAll_6 : decode cX7_lyingAll 6 = .ok (.getfield 13, 3) := by decide +kernel
theorem dX7_lyingAll_9 : decode cX7_lyingAll 9 = .ok (.iconst 1, 1) := by decide +kernel
theorem dX7_lyingAll_10 : decode cX7_lyingAll 10 = .ok (.iaload, 1) := by decide +kernel
theorem dX7_lyingAll_11 : decode cX7_lyingAll 11 = .ok (.if_icmp .ge 32, 3) := by decide +kernel
theorem dX7_lyingAll_14 : decode cX7_lyingAll 14 = .ok (.iload_n 1, 1) := by decide +kernel
theorem dX7_lyingAll_15 : decode cX7_lyingAll 15 = .ok (.aload_n 0, 1) := by decide +kernel
theorem dX7_lyingAll_16 : decode cX7_lyingAll 16 = .ok (.getfield 19, 3) := by decide +kernel
theorem dX7_lyingAll_19 : decode cX7_lyingAll 19 = .ok (.bipush 7, 2) := by decide +kernel
theorem dX7_lyingAll_21 : decode cX7_lyingAll 21 = .ok (.iload_n 2, 1) := by decide +kernel
theorem dX7_lyingAll_22 : decode cX7_lyingAll 22 = .ok (.iadd, 1) := by decide +kernel
theorem dX7_lyingAll_23 : decode cX7_lyingAll 23 = .ok (.iaload, 1) := by decide +kernel
theorem dX7_lyingAll_24 : decode cX7_lyingAll 24 = .ok (.iconst (-1), 1) := by decide +kernel
theorem dX7_lyingAll_25 : decode cX7_lyingAll 25 = .ok (.if_icmp .ne 7, 3) := by decide +kernel
theorem dX7_lyingAll_28 : decode cX7_lyingAll 28 = .ok (.iconst 0, 1) := by decide +kernel
theorem dX7_lyingAll_29 : decode cX7_lyingAll 29 = .ok (.goto 6, 3) := by decide +kernel
theorem dX7_lyingAll_32 : decode cX7_lyingAll 32 = .ok (.iconst 1, 1) := by decide +kernel
theorem dX7_lyingAll_33 : decode cX7_lyingAll 33 = .ok (.iload_n 2, 1) := by decide +kernel
theorem dX7_lyingAll_34 : decode cX7_lyingAll 34 = .ok (.ishl, 1) := by decide +kernel
theorem dX7_lyingAll_35 : decode cX7_lyingAll 35 = .ok (.ior, 1) := by decide +kernel
theorem dX7_lyingAll_36 : decode cX7_lyingAll 36 = .ok (.istore_n 1, 1) := by decide +kernel
theorem dX7_lyingAll_37 : decode cX7_lyingAll 37 = .ok (.iinc 2 1, 3) := by decide +kernel
theorem dX7_lyingAll_40 : decode cX7_lyingAll 40 = .ok (.goto (-36), 3) := by decide +kernel
theorem dX7_lyingAll_43 : decode cX7_lyingAll 43 = .ok (.iload_n 1, 1) := by decide +kernel
theorem dX7_lyingAll_44 : decode cX7_lyingAll 44 = .ok (.ireturn, 1) := by decide +kernel
theorem dX7_stirs_0 : decode cX7_stirs 0 = .ok (.iconst 0, 1) := by decide +kernel
theorem dX7_stirs_1 : decode cX7_stirs 1 = .ok (.istore_n 2, 1) := by decide +kernel
theorem dX7_stirs_2 : decode cX7_stirs 2 = .ok (.iconst 0, 1) := by decide +kernel
theorem dX7_stirs_3 : decode cX7_stirs 3 = .ok (.istore_n 3, 1) := by decide +kernel
theorem dX7_stirs_4 : decode cX7_stirs 4 = .ok (.iload_n 3, 1) := by decide +kernel
theorem dX7_stirs_5 : decode cX7_stirs 5 = .ok (.aload_n 0, 1) := by decide +kernel
theorem dX7_stirs_6 : decode cX7_stirs 6 = .ok (.getfield 13, 3) := by decide +kernel
theorem dX7_stirs_9 : decode cX7_stirs 9 = .ok (.iconst 1, 1) := by decide +kernel
theorem dX7_stirs_10 : decode cX7_stirs 10 = .ok (.iaload, 1) := by decide +kernel
theorem dX7_stirs_11 : decode cX7_stirs 11 = .ok (.if_icmp .ge 29, 3) := by decide +kernel
theorem dX7_stirs_14 : decode cX7_stirs 14 = .ok (.iload_n 2, 1) := by decide +kernel
theorem dX7_stirs_15 : decode cX7_stirs 15 = .ok (.iload_n 1, 1) := by decide +kernel
theorem dX7_stirs_16 : decode cX7_stirs 16 = .ok (.iload_n 3, 1) := by decide +kernel
theorem dX7_stirs_17 : decode cX7_stirs 17 = .ok (.invokestatic 165, 3) := by decide +kernel
theorem dX7_stirs_20 : decode cX7_stirs 20 = .ok (.ifCond .eq 11, 3) := by decide +kernel
theorem dX7_stirs_23 : decode cX7_stirs 23 = .ok (.aload_n 0, 1) := by decide +kernel
theorem dX7_stirs_24 : decode cX7_stirs 24 = .ok (.iload_n 3, 1) := by decide +kernel
theorem dX7_stirs_25 : decode cX7_stirs 25 = .ok (.invokevirtual 156, 3) := by decide +kernel
theorem dX7_stirs_28 : decode cX7_stirs 28 = .ok (.goto 4, 3) := by decide +kernel
theorem dX7_stirs_31 : decode cX7_stirs 31 = .ok (.iconst 0, 1) := by decide +kernel
theorem dX7_stirs_32 : decode cX7_stirs 32 = .ok (.ior, 1) := by decide +kernel
theorem dX7_stirs_33 : decode cX7_stirs 33 = .ok (.istore_n 2, 1) := by decide +kernel
theorem dX7_stirs_34 : decode cX7_stirs 34 = .ok (.iinc 3 1, 3) := by decide +kernel
theorem dX7_stirs_37 : decode cX7_stirs 37 = .ok (.goto (-33), 3) := by decide +kernel
theorem dX7_stirs_40 : decode cX7_stirs 40 = .ok (.iload_n 2, 1) := by decide +kernel
theorem dX7_stirs_41 : decode cX7_stirs 41 = .ok (.iload_n 1, 1) := by decide +kernel
theorem dX7_stirs_42 : decode cX7_stirs 42 = .ok (.iconst (-1), 1) := by decide +kernel
theorem dX7_stirs_43 : decode cX7_stirs 43 = .ok (.ixor, 1) := by decide +kernel
theorem dX7_stirs_44 : decode cX7_stirs 44 = .ok (.iand, 1) := by decide +kernel
theorem dX7_stirs_45 : decode cX7_stirs 45 = .ok (.invokestatic 168, 3) := by decide +kernel
theorem dX7_stirs_48 : decode cX7_stirs 48 = .ok (.ireturn, 1) := by decide +kernel
theorem dX7_stir_0 : decode cX7_stir 0 = .ok (.iload_n 1, 1) := by decide +kernel
theorem dX7_stir_1 : decode cX7_stir 1 = .ok (.iconst 0, 1) := by decide +kernel
theorem dX7_stir_2 : decode cX7_stir 2 = .ok (.iconst 1, 1) := by decide +kernel
theorem dX7_stir_3 : decode cX7_stir 3 = .ok (.aload_n 0, 1) := by decide +kernel
theorem dX7_stir_4 : decode cX7_stir 4 = .ok (.getfield 13, 3) := by decide +kernel
theorem dX7_stir_7 : decode cX7_stir 7 = .ok (.iconst 1, 1) := by decide +kernel
theorem dX7_stir_8 : decode cX7_stir 8 = .ok (.iaload, 1) := by decide +kernel
theorem dX7_stir_9 : decode cX7_stir 9 = .ok (.ishl, 1) := by decide +kernel
theorem dX7_stir_10 : decode cX7_stir 10 = .ok (.iconst 1, 1) := by decide +kernel
theorem dX7_stir_11 : decode cX7_stir 11 = .ok (.isub, 1) := by decide +kernel
theorem dX7_stir_12 : decode cX7_stir 12 = .ok (.invokestatic 56, 3) := by decide +kernel
theorem dX7_stir_15 : decode cX7_stir 15 = .ok (.ifCond .ne 5, 3) := by decide +kernel
theorem dX7_stir_18 : decode cX7_stir 18 = .ok (.iconst (-1), 1) := by decide +kernel
theorem dX7_stir_19 : decode cX7_stir 19 = .ok (.ireturn, 1) := by decide +kernel
theorem dX7_stir_20 : decode cX7_stir 20 = .ok (.iload_n 1, 1) := by decide +kernel
theorem dX7_stir_21 : decode cX7_stir 21 = .ok (.aload_n 0, 1) := by decide +kernel
theorem dX7_stir_22 : decode cX7_stir 22 = .ok (.invokevirtual 171, 3) := by decide +kernel
theorem dX7_stir_25 : decode cX7_stir 25 = .ok (.iconst (-1), 1) := by decide +kernel
theorem dX7_stir_26 : decode cX7_stir 26 = .ok (.ixor, 1) := by decide +kernel
theorem dX7_stir_27 : decode cX7_stir 27 = .ok (.iand, 1) := by decide +kernel
theorem dX7_stir_28 : decode cX7_stir 28 = .ok (.ifCond .eq 8, 3) := by decide +kernel
theorem dX7_stir_31 : decode cX7_stir 31 = .ok (.bipush (-2), 2) := by decide +kernel
theorem dX7_stir_33 : decode cX7_stir 33 = .ok (.goto 8, 3) := by decide +kernel
theorem dX7_stir_36 : decode cX7_stir 36 = .ok (.aload_n 0, 1) := by decide +kernel
theorem dX7_stir_37 : decode cX7_stir 37 = .ok (.iload_n 1, 1) := by decide +kernel
theorem dX7_stir_38 : decode cX7_stir 38 = .ok (.invokevirtual 174, 3) := by decide +kernel
theorem dX7_stir_41 : decode cX7_stir 41 = .ok (.ireturn, 1) := by decide +kernel
theorem dX7_worthOf_0 : decode cX7_worthOf 0 = .ok (.iconst 0, 1) := by decide +kernel
theorem dX7_worthOf_1 : decode cX7_worthOf 1 = .ok (.istore_n 2, 1) := by decide +kernel
theorem dX7_worthOf_2 : decode cX7_worthOf 2 = .ok (.iconst 0, 1) := by decide +kernel
theorem dX7_worthOf_3 : decode cX7_worthOf 3 = .ok (.istore_n 3, 1) := by decide +kernel
theorem dX7_worthOf_4 : decode cX7_worthOf 4 = .ok (.iload_n 3, 1) := by decide +kernel
theorem dX7_worthOf_5 : decode cX7_worthOf 5 = .ok (.aload_n 0, 1) := by decide +kernel
theorem dX7_worthOf_6 : decode cX7_worthOf 6 = .ok (.getfield 13, 3) := by decide +kernel
theorem dX7_worthOf_9 : decode cX7_worthOf 9 = .ok (.iconst 1, 1) := by decide +kernel
theorem dX7_worthOf_10 : decode cX7_worthOf 10 = .ok (.iaload, 1) := by decide +kernel
theorem dX7_worthOf_11 : decode cX7_worthOf 11 = .ok (.if_icmp .ge 33, 3) := by decide +kernel
theorem dX7_worthOf_14 : decode cX7_worthOf 14 = .ok (.iload_n 2, 1) := by decide +kernel
theorem dX7_worthOf_15 : decode cX7_worthOf 15 = .ok (.iload_n 1, 1) := by decide +kernel
theorem dX7_worthOf_16 : decode cX7_worthOf 16 = .ok (.iload_n 3, 1) := by decide +kernel
theorem dX7_worthOf_17 : decode cX7_worthOf 17 = .ok (.invokestatic 165, 3) := by decide +kernel
theorem dX7_worthOf_20 : decode cX7_worthOf 20 = .ok (.ifCond .eq 15, 3) := by decide +kernel
theorem dX7_worthOf_23 : decode cX7_worthOf 23 = .ok (.aload_n 0, 1) := by decide +kernel
theorem dX7_worthOf_24 : decode cX7_worthOf 24 = .ok (.getfield 13, 3) := by decide +kernel
theorem dX7_worthOf_27 : decode cX7_worthOf 27 = .ok (.bipush 9, 2) := by decide +kernel
theorem dX7_worthOf_29 : decode cX7_worthOf 29 = .ok (.iload_n 3, 1) := by decide +kernel
theorem dX7_worthOf_30 : decode cX7_worthOf 30 = .ok (.iadd, 1) := by decide +kernel
theorem dX7_worthOf_31 : decode cX7_worthOf 31 = .ok (.iaload, 1) := by decide +kernel
theorem dX7_worthOf_32 : decode cX7_worthOf 32 = .ok (.goto 4, 3) := by decide +kernel
theorem dX7_worthOf_35 : decode cX7_worthOf 35 = .ok (.iconst 0, 1) := by decide +kernel
theorem dX7_worthOf_36 : decode cX7_worthOf 36 = .ok (.iadd, 1) := by decide +kernel
theorem dX7_worthOf_37 : decode cX7_worthOf 37 = .ok (.istore_n 2, 1) := by decide +kernel
theorem dX7_worthOf_38 : decode cX7_worthOf 38 = .ok (.iinc 3 1, 3) := by decide +kernel
theorem dX7_worthOf_41 : decode cX7_worthOf 41 = .ok (.goto (-37), 3) := by decide +kernel
theorem dX7_worthOf_44 : decode cX7_worthOf 44 = .ok (.iload_n 2, 1) := by decide +kernel
theorem dX7_worthOf_45 : decode cX7_worthOf 45 = .ok (.ireturn, 1) := by decide +kernel
theorem dX7_cheap_0 : decode cX7_cheap 0 = .ok (.iload_n 1, 1) := by decide +kernel
theorem dX7_cheap_1 : decode cX7_cheap 1 = .ok (.iconst 1, 1) := by decide +kernel
theorem dX7_cheap_2 : decode cX7_cheap 2 = .ok (.sipush 140, 3) := by decide +kernel
theorem dX7_cheap_5 : decode cX7_cheap 5 = .ok (.invokestatic 56, 3) := by decide +kernel
theorem dX7_cheap_8 : decode cX7_cheap 8 = .ok (.ifCond .eq 12, 3) := by decide +kernel
theorem dX7_cheap_11 : decode cX7_cheap 11 = .ok (.iload_n 2, 1) := by decide +kernel
theorem dX7_cheap_12 : decode cX7_cheap 12 = .ok (.iconst 0, 1) := by decide +kernel
theorem dX7_cheap_13 : decode cX7_cheap 13 = .ok (.iconst 1, 1) := by decide +kernel
theorem dX7_cheap_14 : decode cX7_cheap 14 = .ok (.invokestatic 56, 3) := by decide +kernel
theorem dX7_cheap_17 : decode cX7_cheap 17 = .ok (.ifCond .ne 5, 3) := by decide +kernel
theorem dX7_cheap_20 : decode cX7_cheap 20 = .ok (.iconst (-1), 1) := by decide +kernel
theorem dX7_cheap_21 : decode cX7_cheap 21 = .ok (.ireturn, 1) := by decide +kernel
theorem dX7_cheap_22 : decode cX7_cheap 22 = .ok (.bipush (-4), 2) := by decide +kernel
theorem dX7_cheap_24 : decode cX7_cheap 24 = .ok (.istore_n 3, 1) := by decide +kernel
theorem dX7_cheap_25 : decode cX7_cheap 25 = .ok (.bipush 99, 2) := by decide +kernel
theorem dX7_cheap_27 : decode cX7_cheap 27 = .ok (.istore 4, 2) := by decide +kernel
theorem dX7_cheap_29 : decode cX7_cheap 29 = .ok (.iconst 1, 1) := by decide +kernel
theorem dX7_cheap_30 : decode cX7_cheap 30 = .ok (.istore 5, 2) := by decide +kernel
theorem dX7_cheap_32 : decode cX7_cheap 32 = .ok (.iload 5, 2) := by decide +kernel
theorem dX7_cheap_34 : decode cX7_cheap 34 = .ok (.iconst 1, 1) := by decide +kernel
theorem dX7_cheap_35 : decode cX7_cheap 35 = .ok (.aload_n 0, 1) := by decide +kernel
theorem dX7_cheap_36 : decode cX7_cheap 36 = .ok (.getfield 13, 3) := by decide +kernel
theorem dX7_cheap_39 : decode cX7_cheap 39 = .ok (.iconst 1, 1) := by decide +kernel
theorem dX7_cheap_40 : decode cX7_cheap 40 = .ok (.iaload, 1) := by decide +kernel
theorem dX7_cheap_41 : decode cX7_cheap 41 = .ok (.ishl, 1) := by decide +kernel
theorem dX7_cheap_42 : decode cX7_cheap 42 = .ok (.if_icmp .ge 78, 3) := by decide +kernel
theorem dX7_cheap_45 : decode cX7_cheap 45 = .ok (.iload 5, 2) := by decide +kernel
theorem dX7_cheap_47 : decode cX7_cheap 47 = .ok (.aload_n 0, 1) := by decide +kernel
theorem dX7_cheap_48 : decode cX7_cheap 48 = .ok (.invokevirtual 171, 3) := by decide +kernel
theorem dX7_cheap_51 : decode cX7_cheap 51 = .ok (.iconst (-1), 1) := by decide +kernel
theorem dX7_cheap_52 : decode cX7_cheap 52 = .ok (.ixor, 1) := by decide +kernel
theorem dX7_cheap_53 : decode cX7_cheap 53 = .ok (.iand, 1) := by decide +kernel
theorem dX7_cheap_54 : decode cX7_cheap 54 = .ok (.ifCond .ne 60, 3) := by decide +kernel
theorem dX7_cheap_57 : decode cX7_cheap 57 = .ok (.aload_n 0, 1) := by decide +kernel
theorem dX7_cheap_58 : decode cX7_cheap 58 = .ok (.iload 5, 2) := by decide +kernel
theorem dX7_cheap_60 : decode cX7_cheap 60 = .ok (.invokevirtual 177, 3) := by decide +kernel
theorem dX7_cheap_63 : decode cX7_cheap 63 = .ok (.iload_n 1, 1) := by decide +kernel
theorem dX7_cheap_64 : decode cX7_cheap 64 = .ok (.if_icmp .lt 50, 3) := by decide +kernel
theorem dX7_cheap_67 : decode cX7_cheap 67 = .ok (.bipush 8, 2) := by decide +kernel
theorem dX7_cheap_69 : decode cX7_cheap 69 = .ok (.aload_n 0, 1) := by decide +kernel
theorem dX7_cheap_70 : decode cX7_cheap 70 = .ok (.iload 5, 2) := by decide +kernel
theorem dX7_cheap_72 : decode cX7_cheap 72 = .ok (.invokevirtual 174, 3) := by decide +kernel
theorem dX7_cheap_75 : decode cX7_cheap 75 = .ok (.imul, 1) := by decide +kernel
theorem dX7_cheap_76 : decode cX7_cheap 76 = .ok (.iload 5, 2) := by decide +kernel
theorem dX7_cheap_78 : decode cX7_cheap 78 = .ok (.invokestatic 168, 3) := by decide +kernel
theorem dX7_cheap_81 : decode cX7_cheap 81 = .ok (.iadd, 1) := by decide +kernel
theorem dX7_cheap_82 : decode cX7_cheap 82 = .ok (.istore 6, 2) := by decide +kernel
theorem dX7_cheap_84 : decode cX7_cheap 84 = .ok (.iload 6, 2) := by decide +kernel
theorem dX7_cheap_86 : decode cX7_cheap 86 = .ok (.iload 4, 2) := by decide +kernel
theorem dX7_cheap_88 : decode cX7_cheap 88 = .ok (.if_icmp .ge 8, 3) := by decide +kernel
theorem dX7_cheap_91 : decode cX7_cheap 91 = .ok (.iload 5, 2) := by decide +kernel
theorem dX7_cheap_93 : decode cX7_cheap 93 = .ok (.goto 4, 3) := by decide +kernel
theorem dX7_cheap_96 : decode cX7_cheap 96 = .ok (.iload_n 3, 1) := by decide +kernel
theorem dX7_cheap_97 : decode cX7_cheap 97 = .ok (.istore_n 3, 1) := by decide +kernel
theorem dX7_cheap_98 : decode cX7_cheap 98 = .ok (.iload 6, 2) := by decide +kernel
theorem dX7_cheap_100 : decode cX7_cheap 100 = .ok (.iload 4, 2) := by decide +kernel
theorem dX7_cheap_102 : decode cX7_cheap 102 = .ok (.if_icmp .ge 8, 3) := by decide +kernel
theorem dX7_cheap_105 : decode cX7_cheap 105 = .ok (.iload 6, 2) := by decide +kernel
theorem dX7_cheap_107 : decode cX7_cheap 107 = .ok (.goto 5, 3) := by decide +kernel
theorem dX7_cheap_110 : decode cX7_cheap 110 = .ok (.iload 4, 2) := by decide +kernel
theorem dX7_cheap_112 : decode cX7_cheap 112 = .ok (.istore 4, 2) := by decide +kernel
theorem dX7_cheap_114 : decode cX7_cheap 114 = .ok (.iinc 5 1, 3) := by decide +kernel
theorem dX7_cheap_117 : decode cX7_cheap 117 = .ok (.goto (-85), 3) := by decide +kernel
theorem dX7_cheap_120 : decode cX7_cheap 120 = .ok (.iload_n 3, 1) := by decide +kernel
theorem dX7_cheap_121 : decode cX7_cheap 121 = .ok (.bipush (-4), 2) := by decide +kernel
theorem dX7_cheap_123 : decode cX7_cheap 123 = .ok (.if_icmp .eq 7, 3) := by decide +kernel
theorem dX7_cheap_126 : decode cX7_cheap 126 = .ok (.iload_n 2, 1) := by decide +kernel
theorem dX7_cheap_127 : decode cX7_cheap 127 = .ok (.ifCond .ne 7, 3) := by decide +kernel
theorem dX7_cheap_130 : decode cX7_cheap 130 = .ok (.iload_n 3, 1) := by decide +kernel
theorem dX7_cheap_131 : decode cX7_cheap 131 = .ok (.goto 8, 3) := by decide +kernel
theorem dX7_cheap_134 : decode cX7_cheap 134 = .ok (.iload 4, 2) := by decide +kernel
theorem dX7_cheap_136 : decode cX7_cheap 136 = .ok (.bipush 8, 2) := by decide +kernel
theorem dX7_cheap_138 : decode cX7_cheap 138 = .ok (.idiv, 1) := by decide +kernel
theorem dX7_cheap_139 : decode cX7_cheap 139 = .ok (.ireturn, 1) := by decide +kernel
theorem dX7_deeper_0 : decode cX7_deeper 0 = .ok (.iload_n 1, 1) := by decide +kernel
theorem dX7_deeper_1 : decode cX7_deeper 1 = .ok (.iconst 0, 1) := by decide +kernel
theorem dX7_deeper_2 : decode cX7_deeper 2 = .ok (.iconst 1, 1) := by decide +kernel
theorem dX7_deeper_3 : decode cX7_deeper 3 = .ok (.invokestatic 56, 3) := by decide +kernel
theorem dX7_deeper_6 : decode cX7_deeper 6 = .ok (.ifCond .ne 5, 3) := by decide +kernel
theorem dX7_deeper_9 : decode cX7_deeper 9 = .ok (.iconst (-1), 1) := by decide +kernel
theorem dX7_deeper_10 : decode cX7_deeper 10 = .ok (.ireturn, 1) := by decide +kernel
theorem dX7_deeper_11 : decode cX7_deeper 11 = .ok (.bipush (-4), 2) := by decide +kernel
theorem dX7_deeper_13 : decode cX7_deeper 13 = .ok (.istore_n 2, 1) := by decide +kernel
theorem dX7_deeper_14 : decode cX7_deeper 14 = .ok (.bipush (-4), 2) := by decide +kernel
theorem dX7_deeper_16 : decode cX7_deeper 16 = .ok (.istore_n 3, 1) := by decide +kernel
theorem dX7_deeper_17 : decode cX7_deeper 17 = .ok (.iconst 0, 1) := by decide +kernel
theorem dX7_deeper_18 : decode cX7_deeper 18 = .ok (.istore 4, 2) := by decide +kernel
theorem dX7_deeper_20 : decode cX7_deeper 20 = .ok (.iload 4, 2) := by decide +kernel
theorem dX7_deeper_22 : decode cX7_deeper 22 = .ok (.aload_n 0, 1) := by decide +kernel
theorem dX7_deeper_23 : decode cX7_deeper 23 = .ok (.getfield 13, 3) := by decide +kernel
theorem dX7_deeper_26 : decode cX7_deeper 26 = .ok (.iconst 0, 1) := by decide +kernel
theorem dX7_deeper_27 : decode cX7_deeper 27 = .ok (.iaload, 1) := by decide +kernel
theorem dX7_deeper_28 : decode cX7_deeper 28 = .ok (.if_icmp .ge 81, 3) := by decide +kernel
theorem dX7_deeper_31 : decode cX7_deeper 31 = .ok (.aload_n 0, 1) := by decide +kernel
theorem dX7_deeper_32 : decode cX7_deeper 32 = .ok (.getfield 19, 3) := by decide +kernel
theorem dX7_deeper_35 : decode cX7_deeper 35 = .ok (.iconst 2, 1) := by decide +kernel
theorem dX7_deeper_36 : decode cX7_deeper 36 = .ok (.iload 4, 2) := by decide +kernel
theorem dX7_deeper_38 : decode cX7_deeper 38 = .ok (.iadd, 1) := by decide +kernel
theorem dX7_deeper_39 : decode cX7_deeper 39 = .ok (.iaload, 1) := by decide +kernel
theorem dX7_deeper_40 : decode cX7_deeper 40 = .ok (.bipush 9, 2) := by decide +kernel
theorem dX7_deeper_42 : decode cX7_deeper 42 = .ok (.if_icmp .ge 61, 3) := by decide +kernel
theorem dX7_deeper_45 : decode cX7_deeper 45 = .ok (.aload_n 0, 1) := by decide +kernel
theorem dX7_deeper_46 : decode cX7_deeper 46 = .ok (.getfield 19, 3) := by decide +kernel
theorem dX7_deeper_49 : decode cX7_deeper 49 = .ok (.iconst 2, 1) := by decide +kernel
theorem dX7_deeper_50 : decode cX7_deeper 50 = .ok (.iload 4, 2) := by decide +kernel
theorem dX7_deeper_52 : decode cX7_deeper 52 = .ok (.iadd, 1) := by decide +kernel
theorem dX7_deeper_53 : decode cX7_deeper 53 = .ok (.dup2, 1) := by decide +kernel
theorem dX7_deeper_54 : decode cX7_deeper 54 = .ok (.iaload, 1) := by decide +kernel
theorem dX7_deeper_55 : decode cX7_deeper 55 = .ok (.iconst 1, 1) := by decide +kernel
theorem dX7_deeper_56 : decode cX7_deeper 56 = .ok (.iadd, 1) := by decide +kernel
theorem dX7_deeper_57 : decode cX7_deeper 57 = .ok (.iastore, 1) := by decide +kernel
theorem dX7_deeper_58 : decode cX7_deeper 58 = .ok (.aload_n 0, 1) := by decide +kernel
theorem dX7_deeper_59 : decode cX7_deeper 59 = .ok (.invokevirtual 162, 3) := by decide +kernel
theorem dX7_deeper_62 : decode cX7_deeper 62 = .ok (.istore 5, 2) := by decide +kernel
theorem dX7_deeper_64 : decode cX7_deeper 64 = .ok (.aload_n 0, 1) := by decide +kernel
theorem dX7_deeper_65 : decode cX7_deeper 65 = .ok (.getfield 19, 3) := by decide +kernel
theorem dX7_deeper_68 : decode cX7_deeper 68 = .ok (.iconst 2, 1) := by decide +kernel
theorem dX7_deeper_69 : decode cX7_deeper 69 = .ok (.iload 4, 2) := by decide +kernel
theorem dX7_deeper_71 : decode cX7_deeper 71 = .ok (.iadd, 1) := by decide +kernel
theorem dX7_deeper_72 : decode cX7_deeper 72 = .ok (.dup2, 1) := by decide +kernel
theorem dX7_deeper_73 : decode cX7_deeper 73 = .ok (.iaload, 1) := by decide +kernel
theorem dX7_deeper_74 : decode cX7_deeper 74 = .ok (.iconst 1, 1) := by decide +kernel
theorem dX7_deeper_75 : decode cX7_deeper 75 = .ok (.isub, 1) := by decide +kernel
theorem dX7_deeper_76 : decode cX7_deeper 76 = .ok (.iastore, 1) := by decide +kernel
theorem dX7_deeper_77 : decode cX7_deeper 77 = .ok (.iload 5, 2) := by decide +kernel
theorem dX7_deeper_79 : decode cX7_deeper 79 = .ok (.iload_n 3, 1) := by decide +kernel
theorem dX7_deeper_80 : decode cX7_deeper 80 = .ok (.if_icmp .le 8, 3) := by decide +kernel
theorem dX7_deeper_83 : decode cX7_deeper 83 = .ok (.iload 4, 2) := by decide +kernel
theorem dX7_deeper_85 : decode cX7_deeper 85 = .ok (.goto 4, 3) := by decide +kernel
theorem dX7_deeper_88 : decode cX7_deeper 88 = .ok (.iload_n 2, 1) := by decide +kernel
theorem dX7_deeper_89 : decode cX7_deeper 89 = .ok (.istore_n 2, 1) := by decide +kernel
theorem dX7_deeper_90 : decode cX7_deeper 90 = .ok (.iload 5, 2) := by decide +kernel
theorem dX7_deeper_92 : decode cX7_deeper 92 = .ok (.iload_n 3, 1) := by decide +kernel
theorem dX7_deeper_93 : decode cX7_deeper 93 = .ok (.if_icmp .le 8, 3) := by decide +kernel
theorem dX7_deeper_96 : decode cX7_deeper 96 = .ok (.iload 5, 2) := by decide +kernel
theorem dX7_deeper_98 : decode cX7_deeper 98 = .ok (.goto 4, 3) := by decide +kernel
theorem dX7_deeper_101 : decode cX7_deeper 101 = .ok (.iload_n 3, 1) := by decide +kernel
theorem dX7_deeper_102 : decode cX7_deeper 102 = .ok (.istore_n 3, 1) := by decide +kernel
theorem dX7_deeper_103 : decode cX7_deeper 103 = .ok (.iinc 4 1, 3) := by decide +kernel
theorem dX7_deeper_106 : decode cX7_deeper 106 = .ok (.goto (-86), 3) := by decide +kernel
theorem dX7_deeper_109 : decode cX7_deeper 109 = .ok (.iload_n 1, 1) := by decide +kernel
theorem dX7_deeper_110 : decode cX7_deeper 110 = .ok (.ifCond .ne 7, 3) := by decide +kernel
theorem dX7_deeper_113 : decode cX7_deeper 113 = .ok (.iload_n 2, 1) := by decide +kernel
theorem dX7_deeper_114 : decode cX7_deeper 114 = .ok (.goto 4, 3) := by decide +kernel
theorem dX7_deeper_117 : decode cX7_deeper 117 = .ok (.iload_n 3, 1) := by decide +kernel
theorem dX7_deeper_118 : decode cX7_deeper 118 = .ok (.ireturn, 1) := by decide +kernel
theorem dX7_years_0 : decode cX7_years 0 = .ok (.iload_n 1, 1) := by decide +kernel
theorem dX7_years_1 : decode cX7_years 1 = .ok (.iconst 1, 1) := by decide +kernel
theorem dX7_years_2 : decode cX7_years 2 = .ok (.bipush 20, 2) := by decide +kernel
theorem dX7_years_4 : decode cX7_years 4 = .ok (.invokestatic 56, 3) := by decide +kernel
theorem dX7_years_7 : decode cX7_years 7 = .ok (.ifCond .ne 5, 3) := by decide +kernel
theorem dX7_years_10 : decode cX7_years 10 = .ok (.iconst (-1), 1) := by decide +kernel
theorem dX7_years_11 : decode cX7_years 11 = .ok (.ireturn, 1) := by decide +kernel
theorem dX7_years_12 : decode cX7_years 12 = .ok (.aload_n 0, 1) := by decide +kernel
theorem dX7_years_13 : decode cX7_years 13 = .ok (.invokevirtual 153, 3) := by decide +kernel
theorem dX7_years_16 : decode cX7_years 16 = .ok (.iconst 0, 1) := by decide +kernel
theorem dX7_years_17 : decode cX7_years 17 = .ok (.istore_n 2, 1) := by decide +kernel
theorem dX7_years_18 : decode cX7_years 18 = .ok (.iconst 0, 1) := by decide +kernel
theorem dX7_years_19 : decode cX7_years 19 = .ok (.istore_n 3, 1) := by decide +kernel
theorem dX7_years_20 : decode cX7_years 20 = .ok (.iload_n 3, 1) := by decide +kernel
theorem dX7_years_21 : decode cX7_years 21 = .ok (.iload_n 1, 1) := by decide +kernel
theorem dX7_years_22 : decode cX7_years 22 = .ok (.if_icmp .ge 25, 3) := by decide +kernel
theorem dX7_years_25 : decode cX7_years 25 = .ok (.iload_n 2, 1) := by decide +kernel
theorem dX7_years_26 : decode cX7_years 26 = .ok (.aload_n 0, 1) := by decide +kernel
theorem dX7_years_27 : decode cX7_years 27 = .ok (.iconst 1, 1) := by decide +kernel
theorem dX7_years_28 : decode cX7_years 28 = .ok (.invokevirtual 142, 3) := by decide +kernel
theorem dX7_years_31 : decode cX7_years 31 = .ok (.ifCond .eq 7, 3) := by decide +kernel
theorem dX7_years_34 : decode cX7_years 34 = .ok (.iconst 1, 1) := by decide +kernel
theorem dX7_years_35 : decode cX7_years 35 = .ok (.goto 4, 3) := by decide +kernel
theorem dX7_years_38 : decode cX7_years 38 = .ok (.iconst 0, 1) := by decide +kernel
theorem dX7_years_39 : decode cX7_years 39 = .ok (.iadd, 1) := by decide +kernel
theorem dX7_years_40 : decode cX7_years 40 = .ok (.istore_n 2, 1) := by decide +kernel
theorem dX7_years_41 : decode cX7_years 41 = .ok (.iinc 3 1, 3) := by decide +kernel
theorem dX7_years_44 : decode cX7_years 44 = .ok (.goto (-24), 3) := by decide +kernel
theorem dX7_years_47 : decode cX7_years 47 = .ok (.aload_n 0, 1) := by decide +kernel
theorem dX7_years_48 : decode cX7_years 48 = .ok (.invokevirtual 118, 3) := by decide +kernel
theorem dX7_years_51 : decode cX7_years 51 = .ok (.iload_n 2, 1) := by decide +kernel
theorem dX7_years_52 : decode cX7_years 52 = .ok (.ireturn, 1) := by decide +kernel
theorem dX7_seen_0 : decode cX7_seen 0 = .ok (.iload_n 1, 1) := by decide +kernel
theorem dX7_seen_1 : decode cX7_seen 1 = .ok (.iconst 0, 1) := by decide +kernel
theorem dX7_seen_2 : decode cX7_seen 2 = .ok (.bipush 20, 2) := by decide +kernel
theorem dX7_seen_4 : decode cX7_seen 4 = .ok (.invokestatic 56, 3) := by decide +kernel
theorem dX7_seen_7 : decode cX7_seen 7 = .ok (.ifCond .eq 20, 3) := by decide +kernel
theorem dX7_seen_10 : decode cX7_seen 10 = .ok (.aload_n 0, 1) := by decide +kernel
theorem dX7_seen_11 : decode cX7_seen 11 = .ok (.iload_n 2, 1) := by decide +kernel
theorem dX7_seen_12 : decode cX7_seen 12 = .ok (.invokevirtual 133, 3) := by decide +kernel
theorem dX7_seen_15 : decode cX7_seen 15 = .ok (.ifCond .eq 12, 3) := by decide +kernel
theorem dX7_seen_18 : decode cX7_seen 18 = .ok (.iload_n 3, 1) := by decide +kernel
theorem dX7_seen_19 : decode cX7_seen 19 = .ok (.iconst 0, 1) := by decide +kernel
theorem dX7_seen_20 : decode cX7_seen 20 = .ok (.iconst 1, 1) := by decide +kernel
theorem dX7_seen_21 : decode cX7_seen 21 = .ok (.invokestatic 56, 3) := by decide +kernel
theorem dX7_seen_24 : decode cX7_seen 24 = .ok (.ifCond .ne 5, 3) := by decide +kernel
theorem dX7_seen_27 : decode cX7_seen 27 = .ok (.iconst (-1), 1) := by decide +kernel
theorem dX7_seen_28 : decode cX7_seen 28 = .ok (.ireturn, 1) := by decide +kernel
theorem dX7_seen_29 : decode cX7_seen 29 = .ok (.aload_n 0, 1) := by decide +kernel
theorem dX7_seen_30 : decode cX7_seen 30 = .ok (.getfield 127, 3) := by decide +kernel
theorem dX7_seen_33 : decode cX7_seen 33 = .ok (.bipush 6, 2) := by decide +kernel
theorem dX7_seen_35 : decode cX7_seen 35 = .ok (.if_icmp .ne 6, 3) := by decide +kernel
theorem dX7_seen_38 : decode cX7_seen 38 = .ok (.bipush (-3), 2) := by decide +kernel
theorem dX7_seen_40 : decode cX7_seen 40 = .ok (.ireturn, 1) := by decide +kernel
theorem dX7_seen_41 : decode cX7_seen 41 = .ok (.aload_n 0, 1) := by decide +kernel
theorem dX7_seen_42 : decode cX7_seen 42 = .ok (.getfield 28, 3) := by decide +kernel
theorem dX7_seen_45 : decode cX7_seen 45 = .ok (.iconst 3, 1) := by decide +kernel
theorem dX7_seen_46 : decode cX7_seen 46 = .ok (.aload_n 0, 1) := by decide +kernel
theorem dX7_seen_47 : decode cX7_seen 47 = .ok (.getfield 127, 3) := by decide +kernel
theorem dX7_seen_50 : decode cX7_seen 50 = .ok (.imul, 1) := by decide +kernel
theorem dX7_seen_51 : decode cX7_seen 51 = .ok (.iload_n 1, 1) := by decide +kernel
theorem dX7_seen_52 : decode cX7_seen 52 = .ok (.iastore, 1) := by decide +kernel
theorem dX7_seen_53 : decode cX7_seen 53 = .ok (.aload_n 0, 1) := by decide +kernel
theorem dX7_seen_54 : decode cX7_seen 54 = .ok (.getfield 28, 3) := by decide +kernel
theorem dX7_seen_57 : decode cX7_seen 57 = .ok (.iconst 3, 1) := by decide +kernel
theorem dX7_seen_58 : decode cX7_seen 58 = .ok (.aload_n 0, 1) := by decide +kernel
theorem dX7_seen_59 : decode cX7_seen 59 = .ok (.getfield 127, 3) := by decide +kernel
theorem dX7_seen_62 : decode cX7_seen 62 = .ok (.imul, 1) := by decide +kernel
theorem dX7_seen_63 : decode cX7_seen 63 = .ok (.iconst 1, 1) := by decide +kernel
theorem dX7_seen_64 : decode cX7_seen 64 = .ok (.iadd, 1) := by decide +kernel
theorem dX7_seen_65 : decode cX7_seen 65 = .ok (.iload_n 2, 1) := by decide +kernel
theorem dX7_seen_66 : decode cX7_seen 66 = .ok (.iastore, 1) := by decide +kernel
theorem dX7_seen_67 : decode cX7_seen 67 = .ok (.aload_n 0, 1) := by decide +kernel
theorem dX7_seen_68 : decode cX7_seen 68 = .ok (.getfield 28, 3) := by decide +kernel
theorem dX7_seen_71 : decode cX7_seen 71 = .ok (.iconst 3, 1) := by decide +kernel
theorem dX7_seen_72 : decode cX7_seen 72 = .ok (.aload_n 0, 1) := by decide +kernel
theorem dX7_seen_73 : decode cX7_seen 73 = .ok (.getfield 127, 3) := by decide +kernel
theorem dX7_seen_76 : decode cX7_seen 76 = .ok (.imul, 1) := by decide +kernel
theorem dX7_seen_77 : decode cX7_seen 77 = .ok (.iconst 2, 1) := by decide +kernel
theorem dX7_seen_78 : decode cX7_seen 78 = .ok (.iadd, 1) := by decide +kernel
theorem dX7_seen_79 : decode cX7_seen 79 = .ok (.iload_n 3, 1) := by decide +kernel
theorem dX7_seen_80 : decode cX7_seen 80 = .ok (.iastore, 1) := by decide +kernel
theorem dX7_seen_81 : decode cX7_seen 81 = .ok (.aload_n 0, 1) := by decide +kernel
theorem dX7_seen_82 : decode cX7_seen 82 = .ok (.dup, 1) := by decide +kernel
theorem dX7_seen_83 : decode cX7_seen 83 = .ok (.getfield 127, 3) := by decide +kernel
theorem dX7_seen_86 : decode cX7_seen 86 = .ok (.iconst 1, 1) := by decide +kernel
theorem dX7_seen_87 : decode cX7_seen 87 = .ok (.iadd, 1) := by decide +kernel
theorem dX7_seen_88 : decode cX7_seen 88 = .ok (.putfield 127, 3) := by decide +kernel
theorem dX7_seen_91 : decode cX7_seen 91 = .ok (.aload_n 0, 1) := by decide +kernel
theorem dX7_seen_92 : decode cX7_seen 92 = .ok (.getfield 127, 3) := by decide +kernel
theorem dX7_seen_95 : decode cX7_seen 95 = .ok (.ireturn, 1) := by decide +kernel
theorem dX7_forget_0 : decode cX7_forget 0 = .ok (.aload_n 0, 1) := by decide +kernel
theorem dX7_forget_1 : decode cX7_forget 1 = .ok (.getfield 127, 3) := by decide +kernel
theorem dX7_forget_4 : decode cX7_forget 4 = .ok (.istore_n 1, 1) := by decide +kernel
theorem dX7_forget_5 : decode cX7_forget 5 = .ok (.aload_n 0, 1) := by decide +kernel
theorem dX7_forget_6 : decode cX7_forget 6 = .ok (.iconst 0, 1) := by decide +kernel
theorem dX7_forget_7 : decode cX7_forget 7 = .ok (.putfield 127, 3) := by decide +kernel
theorem dX7_forget_10 : decode cX7_forget 10 = .ok (.iload_n 1, 1) := by decide +kernel
theorem dX7_forget_11 : decode cX7_forget 11 = .ok (.ireturn, 1) := by decide +kernel
theorem dX7_isSo_0 : decode cX7_isSo 0 = .ok (.iconst 0, 1) := by decide +kernel
theorem dX7_isSo_1 : decode cX7_isSo 1 = .ok (.istore_n 1, 1) := by decide +kernel
theorem dX7_isSo_2 : decode cX7_isSo 2 = .ok (.iload_n 1, 1) := by decide +kernel
theorem dX7_isSo_3 : decode cX7_isSo 3 = .ok (.bipush 21, 2) := by decide +kernel
theorem dX7_isSo_5 : decode cX7_isSo 5 = .ok (.if_icmp .ge 21, 3) := by decide +kernel
theorem dX7_isSo_8 : decode cX7_isSo 8 = .ok (.aload_n 0, 1) := by decide +kernel
theorem dX7_isSo_9 : decode cX7_isSo 9 = .ok (.getfield 46, 3) := by decide +kernel
theorem dX7_isSo_12 : decode cX7_isSo 12 = .ok (.iload_n 1, 1) := by decide +kernel
theorem dX7_isSo_13 : decode cX7_isSo 13 = .ok (.aload_n 0, 1) := by decide +kernel
theorem dX7_isSo_14 : decode cX7_isSo 14 = .ok (.getfield 19, 3) := by decide +kernel
theorem dX7_isSo_17 : decode cX7_isSo 17 = .ok (.iload_n 1, 1) := by decide +kernel
theorem dX7_isSo_18 : decode cX7_isSo 18 = .ok (.iaload, 1) := by decide +kernel
theorem dX7_isSo_19 : decode cX7_isSo 19 = .ok (.iastore, 1) := by decide +kernel
theorem dX7_isSo_20 : decode cX7_isSo 20 = .ok (.iinc 1 1, 3) := by decide +kernel
theorem dX7_isSo_23 : decode cX7_isSo 23 = .ok (.goto (-21), 3) := by decide +kernel
theorem dX7_isSo_26 : decode cX7_isSo 26 = .ok (.iconst 1, 1) := by decide +kernel
theorem dX7_isSo_27 : decode cX7_isSo 27 = .ok (.istore_n 1, 1) := by decide +kernel
theorem dX7_isSo_28 : decode cX7_isSo 28 = .ok (.iconst 0, 1) := by decide +kernel
theorem dX7_isSo_29 : decode cX7_isSo 29 = .ok (.istore_n 2, 1) := by decide +kernel
theorem dX7_isSo_30 : decode cX7_isSo 30 = .ok (.iload_n 2, 1) := by decide +kernel
theorem dX7_isSo_31 : decode cX7_isSo 31 = .ok (.aload_n 0, 1) := by decide +kernel
theorem dX7_isSo_32 : decode cX7_isSo 32 = .ok (.getfield 127, 3) := by decide +kernel
theorem dX7_isSo_35 : decode cX7_isSo 35 = .ok (.if_icmp .ge 120, 3) := by decide +kernel
theorem dX7_isSo_38 : decode cX7_isSo 38 = .ok (.iconst 0, 1) := by decide +kernel
theorem dX7_isSo_39 : decode cX7_isSo 39 = .ok (.istore_n 3, 1) := by decide +kernel
theorem dX7_isSo_40 : decode cX7_isSo 40 = .ok (.iload_n 3, 1) := by decide +kernel
theorem dX7_isSo_41 : decode cX7_isSo 41 = .ok (.aload_n 0, 1) := by decide +kernel
theorem dX7_isSo_42 : decode cX7_isSo 42 = .ok (.getfield 28, 3) := by decide +kernel
theorem dX7_isSo_45 : decode cX7_isSo 45 = .ok (.iconst 3, 1) := by decide +kernel
theorem dX7_isSo_46 : decode cX7_isSo 46 = .ok (.iload_n 2, 1) := by decide +kernel
theorem dX7_isSo_47 : decode cX7_isSo 47 = .ok (.imul, 1) := by decide +kernel
theorem dX7_isSo_48 : decode cX7_isSo 48 = .ok (.iaload, 1) := by decide +kernel
theorem dX7_isSo_49 : decode cX7_isSo 49 = .ok (.if_icmp .ge 15, 3) := by decide +kernel
theorem dX7_isSo_52 : decode cX7_isSo 52 = .ok (.aload_n 0, 1) := by decide +kernel
theorem dX7_isSo_53 : decode cX7_isSo 53 = .ok (.iconst 1, 1) := by decide +kernel
theorem dX7_isSo_54 : decode cX7_isSo 54 = .ok (.invokevirtual 142, 3) := by decide +kernel
theorem dX7_isSo_57 : decode cX7_isSo 57 = .ok (.pop, 1) := by decide +kernel
theorem dX7_isSo_58 : decode cX7_isSo 58 = .ok (.iinc 3 1, 3) := by decide +kernel
theorem dX7_isSo_61 : decode cX7_isSo 61 = .ok (.goto (-21), 3) := by decide +kernel
theorem dX7_isSo_64 : decode cX7_isSo 64 = .ok (.iload_n 1, 1) := by decide +kernel
theorem dX7_isSo_65 : decode cX7_isSo 65 = .ok (.ifCond .eq 56, 3) := by decide +kernel
theorem dX7_isSo_68 : decode cX7_isSo 68 = .ok (.aload_n 0, 1) := by decide +kernel
theorem dX7_isSo_69 : decode cX7_isSo 69 = .ok (.getfield 19, 3) := by decide +kernel
theorem dX7_isSo_72 : decode cX7_isSo 72 = .ok (.bipush 7, 2) := by decide +kernel
theorem dX7_isSo_74 : decode cX7_isSo 74 = .ok (.aload_n 0, 1) := by decide +kernel
theorem dX7_isSo_75 : decode cX7_isSo 75 = .ok (.getfield 28, 3) := by decide +kernel
theorem dX7_isSo_78 : decode cX7_isSo 78 = .ok (.iconst 3, 1) := by decide +kernel
theorem dX7_isSo_79 : decode cX7_isSo 79 = .ok (.iload_n 2, 1) := by decide +kernel
theorem dX7_isSo_80 : decode cX7_isSo 80 = .ok (.imul, 1) := by decide +kernel
theorem dX7_isSo_81 : decode cX7_isSo 81 = .ok (.iconst 1, 1) := by decide +kernel
theorem dX7_isSo_82 : decode cX7_isSo 82 = .ok (.iadd, 1) := by decide +kernel
theorem dX7_isSo_83 : decode cX7_isSo 83 = .ok (.iaload, 1) := by decide +kernel
theorem dX7_isSo_84 : decode cX7_isSo 84 = .ok (.iadd, 1) := by decide +kernel
theorem dX7_isSo_85 : decode cX7_isSo 85 = .ok (.iaload, 1) := by decide +kernel
theorem dX7_isSo_86 : decode cX7_isSo 86 = .ok (.iconst (-1), 1) := by decide +kernel
theorem dX7_isSo_87 : decode cX7_isSo 87 = .ok (.if_icmp .ne 7, 3) := by decide +kernel
theorem dX7_isSo_90 : decode cX7_isSo 90 = .ok (.iconst 1, 1) := by decide +kernel
theorem dX7_isSo_91 : decode cX7_isSo 91 = .ok (.goto 4, 3) := by decide +kernel
theorem dX7_isSo_94 : decode cX7_isSo 94 = .ok (.iconst 0, 1) := by decide +kernel
theorem dX7_isSo_95 : decode cX7_isSo 95 = .ok (.aload_n 0, 1) := by decide +kernel
theorem dX7_isSo_96 : decode cX7_isSo 96 = .ok (.getfield 28, 3) := by decide +kernel
theorem dX7_isSo_99 : decode cX7_isSo 99 = .ok (.iconst 3, 1) := by decide +kernel
theorem dX7_isSo_100 : decode cX7_isSo 100 = .ok (.iload_n 2, 1) := by decide +kernel
theorem dX7_isSo_101 : decode cX7_isSo 101 = .ok (.imul, 1) := by decide +kernel
theorem dX7_isSo_102 : decode cX7_isSo 102 = .ok (.iconst 2, 1) := by decide +kernel
theorem dX7_isSo_103 : decode cX7_isSo 103 = .ok (.iadd, 1) := by decide +kernel
theorem dX7_isSo_104 : decode cX7_isSo 104 = .ok (.iaload, 1) := by decide +kernel
theorem dX7_isSo_105 : decode cX7_isSo 105 = .ok (.iconst 1, 1) := by decide +kernel
theorem dX7_isSo_106 : decode cX7_isSo 106 = .ok (.if_icmp .ne 7, 3) := by decide +kernel
theorem dX7_isSo_109 : decode cX7_isSo 109 = .ok (.iconst 1, 1) := by decide +kernel
theorem dX7_isSo_110 : decode cX7_isSo 110 = .ok (.goto 4, 3) := by decide +kernel
theorem dX7_isSo_113 : decode cX7_isSo 113 = .ok (.iconst 0, 1) := by decide +kernel
theorem dX7_isSo_114 : decode cX7_isSo 114 = .ok (.if_icmp .ne 7, 3) := by decide +kernel
theorem dX7_isSo_117 : decode cX7_isSo 117 = .ok (.iconst 1, 1) := by decide +kernel
theorem dX7_isSo_118 : decode cX7_isSo 118 = .ok (.goto 4, 3) := by decide +kernel
theorem dX7_isSo_121 : decode cX7_isSo 121 = .ok (.iconst 0, 1) := by decide +kernel
theorem dX7_isSo_122 : decode cX7_isSo 122 = .ok (.istore_n 1, 1) := by decide +kernel
theorem dX7_isSo_123 : decode cX7_isSo 123 = .ok (.iconst 0, 1) := by decide +kernel
theorem dX7_isSo_124 : decode cX7_isSo 124 = .ok (.istore_n 3, 1) := by decide +kernel
theorem dX7_isSo_125 : decode cX7_isSo 125 = .ok (.iload_n 3, 1) := by decide +kernel
theorem dX7_isSo_126 : decode cX7_isSo 126 = .ok (.bipush 21, 2) := by decide +kernel
theorem dX7_isSo_128 : decode cX7_isSo 128 = .ok (.if_icmp .ge 21, 3) := by decide +kernel
theorem dX7_isSo_131 : decode cX7_isSo 131 = .ok (.aload_n 0, 1) := by decide +kernel
theorem dX7_isSo_132 : decode cX7_isSo 132 = .ok (.getfield 19, 3) := by decide +kernel
theorem dX7_isSo_135 : decode cX7_isSo 135 = .ok (.iload_n 3, 1) := by decide +kernel
theorem dX7_isSo_136 : decode cX7_isSo 136 = .ok (.aload_n 0, 1) := by decide +kernel
theorem dX7_isSo_137 : decode cX7_isSo 137 = .ok (.getfield 46, 3) := by decide +kernel
theorem dX7_isSo_140 : decode cX7_isSo 140 = .ok (.iload_n 3, 1) := by decide +kernel
theorem dX7_isSo_141 : decode cX7_isSo 141 = .ok (.iaload, 1) := by decide +kernel
theorem dX7_isSo_142 : decode cX7_isSo 142 = .ok (.iastore, 1) := by decide +kernel
theorem dX7_isSo_143 : decode cX7_isSo 143 = .ok (.iinc 3 1, 3) := by decide +kernel
theorem dX7_isSo_146 : decode cX7_isSo 146 = .ok (.goto (-21), 3) := by decide +kernel
theorem dX7_isSo_149 : decode cX7_isSo 149 = .ok (.iinc 2 1, 3) := by decide +kernel
