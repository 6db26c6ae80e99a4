theorem dX2_placeOf_19 : decode cX2_placeOf 19 = .ok (.bipush (-4), 2) := by decide +kernel
theorem dX2_placeOf_21 : decode cX2_placeOf 21 = .ok (.ireturn, 1) := by decide +kernel
theorem dX2_tryFrom_0 : decode cX2_tryFrom 0 = .ok (.iload_n 2, 1) := by decide +kernel
theorem dX2_tryFrom_1 : decode cX2_tryFrom 1 = .ok (.ifCond .lt 24, 3) := by decide +kernel
theorem dX2_tryFrom_4 : decode cX2_tryFrom 4 = .ok (.iload_n 2, 1) := by decide +kernel
theorem dX2_tryFrom_5 : decode cX2_tryFrom 5 = .ok (.bipush 7, 2) := by decide +kernel
theorem dX2_tryFrom_7 : decode cX2_tryFrom 7 = .ok (.if_icmp .gt 18, 3) := by decide +kernel
theorem dX2_tryFrom_10 : decode cX2_tryFrom 10 = .ok (.iload_n 3, 1) := by decide +kernel
theorem dX2_tryFrom_11 : decode cX2_tryFrom 11 = .ok (.aload_n 0, 1) := by decide +kernel
theorem dX2_tryFrom_12 : decode cX2_tryFrom 12 = .ok (.getfield 19, 3) := by decide +kernel
theorem dX2_tryFrom_15 : decode cX2_tryFrom 15 = .ok (.iload_n 2, 1) := by decide +kernel
theorem dX2_tryFrom_16 : decode cX2_tryFrom 16 = .ok (.iaload, 1) := by decide +kernel
theorem dX2_tryFrom_17 : decode cX2_tryFrom 17 = .ok (.iadd, 1) := by decide +kernel
theorem dX2_tryFrom_18 : decode cX2_tryFrom 18 = .ok (.aload_n 0, 1) := by decide +kernel
theorem dX2_tryFrom_19 : decode cX2_tryFrom 19 = .ok (.getfield 47, 3) := by decide +kernel
theorem dX2_tryFrom_22 : decode cX2_tryFrom 22 = .ok (.if_icmp .gt 4, 3) := by decide +kernel
theorem dX2_tryFrom_25 : decode cX2_tryFrom 25 = .ok (.return_, 1) := by decide +kernel
theorem dX2_tryFrom_26 : decode cX2_tryFrom 26 = .ok (.iload_n 2, 1) := by decide +kernel
theorem dX2_tryFrom_27 : decode cX2_tryFrom 27 = .ok (.aload_n 1, 1) := by decide +kernel
theorem dX2_tryFrom_28 : decode cX2_tryFrom 28 = .ok (.getfield 69, 3) := by decide +kernel
theorem dX2_tryFrom_31 : decode cX2_tryFrom 31 = .ok (.if_icmp .ge 9, 3) := by decide +kernel
theorem dX2_tryFrom_34 : decode cX2_tryFrom 34 = .ok (.iload_n 2, 1) := by decide +kernel
theorem dX2_tryFrom_35 : decode cX2_tryFrom 35 = .ok (.bipush 7, 2) := by decide +kernel
theorem dX2_tryFrom_37 : decode cX2_tryFrom 37 = .ok (.if_icmp .ne 9, 3) := by decide +kernel
theorem dX2_tryFrom_40 : decode cX2_tryFrom 40 = .ok (.aload_n 0, 1) := by decide +kernel
theorem dX2_tryFrom_41 : decode cX2_tryFrom 41 = .ok (.iload_n 3, 1) := by decide +kernel
theorem dX2_tryFrom_42 : decode cX2_tryFrom 42 = .ok (.invokevirtual 72, 3) := by decide +kernel
theorem dX2_tryFrom_45 : decode cX2_tryFrom 45 = .ok (.return_, 1) := by decide +kernel
theorem dX2_tryFrom_46 : decode cX2_tryFrom 46 = .ok (.aload_n 1, 1) := by decide +kernel
theorem dX2_tryFrom_47 : decode cX2_tryFrom 47 = .ok (.iload_n 2, 1) := by decide +kernel
theorem dX2_tryFrom_48 : decode cX2_tryFrom 48 = .ok (.invokevirtual 59, 3) := by decide +kernel
theorem dX2_tryFrom_51 : decode cX2_tryFrom 51 = .ok (.ifCond .eq 24, 3) := by decide +kernel
theorem dX2_tryFrom_54 : decode cX2_tryFrom 54 = .ok (.aload_n 0, 1) := by decide +kernel
theorem dX2_tryFrom_55 : decode cX2_tryFrom 55 = .ok (.getfield 25, 3) := by decide +kernel
theorem dX2_tryFrom_58 : decode cX2_tryFrom 58 = .ok (.iload_n 2, 1) := by decide +kernel
theorem dX2_tryFrom_59 : decode cX2_tryFrom 59 = .ok (.aload_n 1, 1) := by decide +kernel
theorem dX2_tryFrom_60 : decode cX2_tryFrom 60 = .ok (.iload_n 2, 1) := by decide +kernel
theorem dX2_tryFrom_61 : decode cX2_tryFrom 61 = .ok (.invokevirtual 76, 3) := by decide +kernel
theorem dX2_tryFrom_64 : decode cX2_tryFrom 64 = .ok (.iastore, 1) := by decide +kernel
theorem dX2_tryFrom_65 : decode cX2_tryFrom 65 = .ok (.aload_n 0, 1) := by decide +kernel
theorem dX2_tryFrom_66 : decode cX2_tryFrom 66 = .ok (.aload_n 1, 1) := by decide +kernel
theorem dX2_tryFrom_67 : decode cX2_tryFrom 67 = .ok (.iload_n 2, 1) := by decide +kernel
theorem dX2_tryFrom_68 : decode cX2_tryFrom 68 = .ok (.iconst 1, 1) := by decide +kernel
theorem dX2_tryFrom_69 : decode cX2_tryFrom 69 = .ok (.iadd, 1) := by decide +kernel
theorem dX2_tryFrom_70 : decode cX2_tryFrom 70 = .ok (.iload_n 3, 1) := by decide +kernel
theorem dX2_tryFrom_71 : decode cX2_tryFrom 71 = .ok (.invokestatic 51, 3) := by decide +kernel
theorem dX2_tryFrom_74 : decode cX2_tryFrom 74 = .ok (.return_, 1) := by decide +kernel
theorem dX2_tryFrom_75 : decode cX2_tryFrom 75 = .ok (.iconst 0, 1) := by decide +kernel
theorem dX2_tryFrom_76 : decode cX2_tryFrom 76 = .ok (.istore 4, 2) := by decide +kernel
theorem dX2_tryFrom_78 : decode cX2_tryFrom 78 = .ok (.iload 4, 2) := by decide +kernel
theorem dX2_tryFrom_80 : decode cX2_tryFrom 80 = .ok (.aload_n 1, 1) := by decide +kernel
theorem dX2_tryFrom_81 : decode cX2_tryFrom 81 = .ok (.getfield 79, 3) := by decide +kernel
theorem dX2_tryFrom_84 : decode cX2_tryFrom 84 = .ok (.if_icmp .ge 24, 3) := by decide +kernel
theorem dX2_tryFrom_87 : decode cX2_tryFrom 87 = .ok (.iload 4, 2) := by decide +kernel
theorem dX2_tryFrom_89 : decode cX2_tryFrom 89 = .ok (.iconst 5, 1) := by decide +kernel
theorem dX2_tryFrom_90 : decode cX2_tryFrom 90 = .ok (.if_icmp .ge 18, 3) := by decide +kernel
theorem dX2_tryFrom_93 : decode cX2_tryFrom 93 = .ok (.aload_n 0, 1) := by decide +kernel
theorem dX2_tryFrom_94 : decode cX2_tryFrom 94 = .ok (.aload_n 1, 1) := by decide +kernel
theorem dX2_tryFrom_95 : decode cX2_tryFrom 95 = .ok (.iload_n 2, 1) := by decide +kernel
theorem dX2_tryFrom_96 : decode cX2_tryFrom 96 = .ok (.iload 4, 2) := by decide +kernel
theorem dX2_tryFrom_98 : decode cX2_tryFrom 98 = .ok (.iload_n 3, 1) := by decide +kernel
theorem dX2_tryFrom_99 : decode cX2_tryFrom 99 = .ok (.invokestatic 82, 3) := by decide +kernel
theorem dX2_tryFrom_102 : decode cX2_tryFrom 102 = .ok (.iinc 4 1, 3) := by decide +kernel
theorem dX2_tryFrom_105 : decode cX2_tryFrom 105 = .ok (.goto (-27), 3) := by decide +kernel
theorem dX2_tryFrom_108 : decode cX2_tryFrom 108 = .ok (.aload_n 0, 1) := by decide +kernel
theorem dX2_tryFrom_109 : decode cX2_tryFrom 109 = .ok (.getfield 25, 3) := by decide +kernel
theorem dX2_tryFrom_112 : decode cX2_tryFrom 112 = .ok (.iload_n 2, 1) := by decide +kernel
theorem dX2_tryFrom_113 : decode cX2_tryFrom 113 = .ok (.bipush (-4), 2) := by decide +kernel
theorem dX2_tryFrom_115 : decode cX2_tryFrom 115 = .ok (.iastore, 1) := by decide +kernel
theorem dX2_tryFrom_116 : decode cX2_tryFrom 116 = .ok (.aload_n 0, 1) := by decide +kernel
theorem dX2_tryFrom_117 : decode cX2_tryFrom 117 = .ok (.aload_n 1, 1) := by decide +kernel
theorem dX2_tryFrom_118 : decode cX2_tryFrom 118 = .ok (.iload_n 2, 1) := by decide +kernel
theorem dX2_tryFrom_119 : decode cX2_tryFrom 119 = .ok (.iconst 1, 1) := by decide +kernel
theorem dX2_tryFrom_120 : decode cX2_tryFrom 120 = .ok (.iadd, 1) := by decide +kernel
theorem dX2_tryFrom_121 : decode cX2_tryFrom 121 = .ok (.iload_n 3, 1) := by decide +kernel
theorem dX2_tryFrom_122 : decode cX2_tryFrom 122 = .ok (.invokestatic 51, 3) := by decide +kernel
theorem dX2_tryFrom_125 : decode cX2_tryFrom 125 = .ok (.return_, 1) := by decide +kernel
theorem dX2_tryIn_0 : decode cX2_tryIn 0 = .ok (.iload_n 3, 1) := by decide +kernel
theorem dX2_tryIn_1 : decode cX2_tryIn 1 = .ok (.ifCond .lt 18, 3) := by decide +kernel
theorem dX2_tryIn_4 : decode cX2_tryIn 4 = .ok (.iload_n 3, 1) := by decide +kernel
theorem dX2_tryIn_5 : decode cX2_tryIn 5 = .ok (.iconst 5, 1) := by decide +kernel
theorem dX2_tryIn_6 : decode cX2_tryIn 6 = .ok (.if_icmp .ge 13, 3) := by decide +kernel
theorem dX2_tryIn_9 : decode cX2_tryIn 9 = .ok (.iload_n 2, 1) := by decide +kernel
theorem dX2_tryIn_10 : decode cX2_tryIn 10 = .ok (.ifCond .lt 9, 3) := by decide +kernel
theorem dX2_tryIn_13 : decode cX2_tryIn 13 = .ok (.iload_n 2, 1) := by decide +kernel
theorem dX2_tryIn_14 : decode cX2_tryIn 14 = .ok (.bipush 7, 2) := by decide +kernel
theorem dX2_tryIn_16 : decode cX2_tryIn 16 = .ok (.if_icmp .lt 4, 3) := by decide +kernel
theorem dX2_tryIn_19 : decode cX2_tryIn 19 = .ok (.return_, 1) := by decide +kernel
theorem dX2_tryIn_20 : decode cX2_tryIn 20 = .ok (.aload_n 1, 1) := by decide +kernel
theorem dX2_tryIn_21 : decode cX2_tryIn 21 = .ok (.iload_n 2, 1) := by decide +kernel
theorem dX2_tryIn_22 : decode cX2_tryIn 22 = .ok (.invokevirtual 37, 3) := by decide +kernel
theorem dX2_tryIn_25 : decode cX2_tryIn 25 = .ok (.istore 5, 2) := by decide +kernel
theorem dX2_tryIn_27 : decode cX2_tryIn 27 = .ok (.aload_n 0, 1) := by decide +kernel
theorem dX2_tryIn_28 : decode cX2_tryIn 28 = .ok (.getfield 9, 3) := by decide +kernel
theorem dX2_tryIn_31 : decode cX2_tryIn 31 = .ok (.iload_n 3, 1) := by decide +kernel
theorem dX2_tryIn_32 : decode cX2_tryIn 32 = .ok (.iaload, 1) := by decide +kernel
theorem dX2_tryIn_33 : decode cX2_tryIn 33 = .ok (.istore 6, 2) := by decide +kernel
theorem dX2_tryIn_35 : decode cX2_tryIn 35 = .ok (.aload_n 0, 1) := by decide +kernel
theorem dX2_tryIn_36 : decode cX2_tryIn 36 = .ok (.getfield 15, 3) := by decide +kernel
theorem dX2_tryIn_39 : decode cX2_tryIn 39 = .ok (.iload_n 3, 1) := by decide +kernel
theorem dX2_tryIn_40 : decode cX2_tryIn 40 = .ok (.baload, 1) := by decide +kernel
theorem dX2_tryIn_41 : decode cX2_tryIn 41 = .ok (.istore 7, 2) := by decide +kernel
theorem dX2_tryIn_43 : decode cX2_tryIn 43 = .ok (.iload 7, 2) := by decide +kernel
theorem dX2_tryIn_45 : decode cX2_tryIn 45 = .ok (.ifCond .eq 7, 3) := by decide +kernel
theorem dX2_tryIn_48 : decode cX2_tryIn 48 = .ok (.iconst 2, 1) := by decide +kernel
theorem dX2_tryIn_49 : decode cX2_tryIn 49 = .ok (.goto 4, 3) := by decide +kernel
theorem dX2_tryIn_52 : decode cX2_tryIn 52 = .ok (.iconst 0, 1) := by decide +kernel
theorem dX2_tryIn_53 : decode cX2_tryIn 53 = .ok (.iload 5, 2) := by decide +kernel
theorem dX2_tryIn_55 : decode cX2_tryIn 55 = .ok (.invokestatic 62, 3) := by decide +kernel
theorem dX2_tryIn_58 : decode cX2_tryIn 58 = .ok (.istore 8, 2) := by decide +kernel
theorem dX2_tryIn_60 : decode cX2_tryIn 60 = .ok (.iload 8, 2) := by decide +kernel
theorem dX2_tryIn_62 : decode cX2_tryIn 62 = .ok (.iload 6, 2) := by decide +kernel
theorem dX2_tryIn_64 : decode cX2_tryIn 64 = .ok (.if_icmp .gt 17, 3) := by decide +kernel
theorem dX2_tryIn_67 : decode cX2_tryIn 67 = .ok (.aload_n 0, 1) := by decide +kernel
theorem dX2_tryIn_68 : decode cX2_tryIn 68 = .ok (.iload_n 3, 1) := by decide +kernel
theorem dX2_tryIn_69 : decode cX2_tryIn 69 = .ok (.aload_n 0, 1) := by decide +kernel
theorem dX2_tryIn_70 : decode cX2_tryIn 70 = .ok (.getfield 22, 3) := by decide +kernel
theorem dX2_tryIn_73 : decode cX2_tryIn 73 = .ok (.iload_n 2, 1) := by decide +kernel
theorem dX2_tryIn_74 : decode cX2_tryIn 74 = .ok (.iaload, 1) := by decide +kernel
theorem dX2_tryIn_75 : decode cX2_tryIn 75 = .ok (.invokevirtual 86, 3) := by decide +kernel
theorem dX2_tryIn_78 : decode cX2_tryIn 78 = .ok (.ifCond .eq 4, 3) := by decide +kernel
theorem dX2_tryIn_81 : decode cX2_tryIn 81 = .ok (.return_, 1) := by decide +kernel
theorem dX2_tryIn_82 : decode cX2_tryIn 82 = .ok (.aload_n 0, 1) := by decide +kernel
theorem dX2_tryIn_83 : decode cX2_tryIn 83 = .ok (.getfield 9, 3) := by decide +kernel
theorem dX2_tryIn_86 : decode cX2_tryIn 86 = .ok (.iload_n 3, 1) := by decide +kernel
theorem dX2_tryIn_87 : decode cX2_tryIn 87 = .ok (.iload 5, 2) := by decide +kernel
theorem dX2_tryIn_89 : decode cX2_tryIn 89 = .ok (.iconst 3, 1) := by decide +kernel
theorem dX2_tryIn_90 : decode cX2_tryIn 90 = .ok (.if_icmp .ne 7, 3) := by decide +kernel
theorem dX2_tryIn_93 : decode cX2_tryIn 93 = .ok (.iconst (-1), 1) := by decide +kernel
theorem dX2_tryIn_94 : decode cX2_tryIn 94 = .ok (.goto 8, 3) := by decide +kernel
theorem dX2_tryIn_97 : decode cX2_tryIn 97 = .ok (.iload 6, 2) := by decide +kernel
theorem dX2_tryIn_99 : decode cX2_tryIn 99 = .ok (.iload 8, 2) := by decide +kernel
theorem dX2_tryIn_101 : decode cX2_tryIn 101 = .ok (.isub, 1) := by decide +kernel
theorem dX2_tryIn_102 : decode cX2_tryIn 102 = .ok (.iastore, 1) := by decide +kernel
theorem dX2_tryIn_103 : decode cX2_tryIn 103 = .ok (.aload_n 0, 1) := by decide +kernel
theorem dX2_tryIn_104 : decode cX2_tryIn 104 = .ok (.getfield 15, 3) := by decide +kernel
theorem dX2_tryIn_107 : decode cX2_tryIn 107 = .ok (.iload_n 3, 1) := by decide +kernel
theorem dX2_tryIn_108 : decode cX2_tryIn 108 = .ok (.iload 5, 2) := by decide +kernel
theorem dX2_tryIn_110 : decode cX2_tryIn 110 = .ok (.iconst 2, 1) := by decide +kernel
theorem dX2_tryIn_111 : decode cX2_tryIn 111 = .ok (.if_icmp .ne 7, 3) := by decide +kernel
theorem dX2_tryIn_114 : decode cX2_tryIn 114 = .ok (.iconst 1, 1) := by decide +kernel
theorem dX2_tryIn_115 : decode cX2_tryIn 115 = .ok (.goto 4, 3) := by decide +kernel
theorem dX2_tryIn_118 : decode cX2_tryIn 118 = .ok (.iconst 0, 1) := by decide +kernel
theorem dX2_tryIn_119 : decode cX2_tryIn 119 = .ok (.bastore, 1) := by decide +kernel
theorem dX2_tryIn_120 : decode cX2_tryIn 120 = .ok (.aload_n 0, 1) := by decide +kernel
theorem dX2_tryIn_121 : decode cX2_tryIn 121 = .ok (.getfield 25, 3) := by decide +kernel
theorem dX2_tryIn_124 : decode cX2_tryIn 124 = .ok (.iload_n 2, 1) := by decide +kernel
theorem dX2_tryIn_125 : decode cX2_tryIn 125 = .ok (.iload_n 3, 1) := by decide +kernel
theorem dX2_tryIn_126 : decode cX2_tryIn 126 = .ok (.iastore, 1) := by decide +kernel
theorem dX2_tryIn_127 : decode cX2_tryIn 127 = .ok (.aload_n 0, 1) := by decide +kernel
theorem dX2_tryIn_128 : decode cX2_tryIn 128 = .ok (.aload_n 1, 1) := by decide +kernel
theorem dX2_tryIn_129 : decode cX2_tryIn 129 = .ok (.iload_n 2, 1) := by decide +kernel
theorem dX2_tryIn_130 : decode cX2_tryIn 130 = .ok (.iconst 1, 1) := by decide +kernel
theorem dX2_tryIn_131 : decode cX2_tryIn 131 = .ok (.iadd, 1) := by decide +kernel
theorem dX2_tryIn_132 : decode cX2_tryIn 132 = .ok (.iload 4, 2) := by decide +kernel
theorem dX2_tryIn_134 : decode cX2_tryIn 134 = .ok (.aload_n 1, 1) := by decide +kernel
theorem dX2_tryIn_135 : decode cX2_tryIn 135 = .ok (.iload_n 2, 1) := by decide +kernel
theorem dX2_tryIn_136 : decode cX2_tryIn 136 = .ok (.invokevirtual 66, 3) := by decide +kernel
theorem dX2_tryIn_139 : decode cX2_tryIn 139 = .ok (.iadd, 1) := by decide +kernel
theorem dX2_tryIn_140 : decode cX2_tryIn 140 = .ok (.invokestatic 51, 3) := by decide +kernel
theorem dX2_tryIn_143 : decode cX2_tryIn 143 = .ok (.aload_n 0, 1) := by decide +kernel
theorem dX2_tryIn_144 : decode cX2_tryIn 144 = .ok (.getfield 9, 3) := by decide +kernel
theorem dX2_tryIn_147 : decode cX2_tryIn 147 = .ok (.iload_n 3, 1) := by decide +kernel
theorem dX2_tryIn_148 : decode cX2_tryIn 148 = .ok (.iload 6, 2) := by decide +kernel
theorem dX2_tryIn_150 : decode cX2_tryIn 150 = .ok (.iastore, 1) := by decide +kernel
theorem dX2_tryIn_151 : decode cX2_tryIn 151 = .ok (.aload_n 0, 1) := by decide +kernel
theorem dX2_tryIn_152 : decode cX2_tryIn 152 = .ok (.getfield 15, 3) := by decide +kernel
theorem dX2_tryIn_155 : decode cX2_tryIn 155 = .ok (.iload_n 3, 1) := by decide +kernel
theorem dX2_tryIn_156 : decode cX2_tryIn 156 = .ok (.iload 7, 2) := by decide +kernel
theorem dX2_tryIn_158 : decode cX2_tryIn 158 = .ok (.bastore, 1) := by decide +kernel
theorem dX2_tryIn_159 : decode cX2_tryIn 159 = .ok (.return_, 1) := by decide +kernel
theorem dX2_hasTwinAhead_0 : decode cX2_hasTwinAhead 0 = .ok (.iconst 0, 1) := by decide +kernel
theorem dX2_hasTwinAhead_1 : decode cX2_hasTwinAhead 1 = .ok (.istore_n 3, 1) := by decide +kernel
theorem dX2_hasTwinAhead_2 : decode cX2_hasTwinAhead 2 = .ok (.iload_n 3, 1) := by decide +kernel
theorem dX2_hasTwinAhead_3 : decode cX2_hasTwinAhead 3 = .ok (.iload_n 1, 1) := by decide +kernel
theorem dX2_hasTwinAhead_4 : decode cX2_hasTwinAhead 4 = .ok (.if_icmp .ge 78, 3) := by decide +kernel
theorem dX2_hasTwinAhead_7 : decode cX2_hasTwinAhead 7 = .ok (.iload_n 3, 1) := by decide +kernel
theorem dX2_hasTwinAhead_8 : decode cX2_hasTwinAhead 8 = .ok (.iconst 5, 1) := by decide +kernel
theorem dX2_hasTwinAhead_9 : decode cX2_hasTwinAhead 9 = .ok (.if_icmp .ge 73, 3) := by decide +kernel
theorem dX2_hasTwinAhead_12 : decode cX2_hasTwinAhead 12 = .ok (.aload_n 0, 1) := by decide +kernel
theorem dX2_hasTwinAhead_13 : decode cX2_hasTwinAhead 13 = .ok (.getfield 9, 3) := by decide +kernel
theorem dX2_hasTwinAhead_16 : decode cX2_hasTwinAhead 16 = .ok (.iload_n 3, 1) := by decide +kernel
theorem dX2_hasTwinAhead_17 : decode cX2_hasTwinAhead 17 = .ok (.iaload, 1) := by decide +kernel
theorem dX2_hasTwinAhead_18 : decode cX2_hasTwinAhead 18 = .ok (.iload_n 2, 1) := by decide +kernel
theorem dX2_hasTwinAhead_19 : decode cX2_hasTwinAhead 19 = .ok (.if_icmp .lt 17, 3) := by decide +kernel
theorem dX2_hasTwinAhead_22 : decode cX2_hasTwinAhead 22 = .ok (.aload_n 0, 1) := by decide +kernel
theorem dX2_hasTwinAhead_23 : decode cX2_hasTwinAhead 23 = .ok (.getfield 9, 3) := by decide +kernel
theorem dX2_hasTwinAhead_26 : decode cX2_hasTwinAhead 26 = .ok (.iload_n 1, 1) := by decide +kernel
theorem dX2_hasTwinAhead_27 : decode cX2_hasTwinAhead 27 = .ok (.iaload, 1) := by decide +kernel
theorem dX2_hasTwinAhead_28 : decode cX2_hasTwinAhead 28 = .ok (.iload_n 2, 1) := by decide +kernel
theorem dX2_hasTwinAhead_29 : decode cX2_hasTwinAhead 29 = .ok (.if_icmp .lt 7, 3) := by decide +kernel
theorem dX2_hasTwinAhead_32 : decode cX2_hasTwinAhead 32 = .ok (.iconst 1, 1) := by decide +kernel
theorem dX2_hasTwinAhead_33 : decode cX2_hasTwinAhead 33 = .ok (.goto 4, 3) := by decide +kernel
theorem dX2_hasTwinAhead_36 : decode cX2_hasTwinAhead 36 = .ok (.iconst 0, 1) := by decide +kernel
theorem dX2_hasTwinAhead_37 : decode cX2_hasTwinAhead 37 = .ok (.istore 4, 2) := by decide +kernel
theorem dX2_hasTwinAhead_39 : decode cX2_hasTwinAhead 39 = .ok (.iload 4, 2) := by decide +kernel
theorem dX2_hasTwinAhead_41 : decode cX2_hasTwinAhead 41 = .ok (.ifCond .ne 33, 3) := by decide +kernel
theorem dX2_hasTwinAhead_44 : decode cX2_hasTwinAhead 44 = .ok (.aload_n 0, 1) := by decide +kernel
theorem dX2_hasTwinAhead_45 : decode cX2_hasTwinAhead 45 = .ok (.getfield 9, 3) := by decide +kernel
theorem dX2_hasTwinAhead_48 : decode cX2_hasTwinAhead 48 = .ok (.iload_n 3, 1) := by decide +kernel
theorem dX2_hasTwinAhead_49 : decode cX2_hasTwinAhead 49 = .ok (.iaload, 1) := by decide +kernel
theorem dX2_hasTwinAhead_50 : decode cX2_hasTwinAhead 50 = .ok (.aload_n 0, 1) := by decide +kernel
theorem dX2_hasTwinAhead_51 : decode cX2_hasTwinAhead 51 = .ok (.getfield 9, 3) := by decide +kernel
theorem dX2_hasTwinAhead_54 : decode cX2_hasTwinAhead 54 = .ok (.iload_n 1, 1) := by decide +kernel
theorem dX2_hasTwinAhead_55 : decode cX2_hasTwinAhead 55 = .ok (.iaload, 1) := by decide +kernel
theorem dX2_hasTwinAhead_56 : decode cX2_hasTwinAhead 56 = .ok (.if_icmp .ne 20, 3) := by decide +kernel
theorem dX2_hasTwinAhead_59 : decode cX2_hasTwinAhead 59 = .ok (.aload_n 0, 1) := by decide +kernel
theorem dX2_hasTwinAhead_60 : decode cX2_hasTwinAhead 60 = .ok (.getfield 15, 3) := by decide +kernel
theorem dX2_hasTwinAhead_63 : decode cX2_hasTwinAhead 63 = .ok (.iload_n 3, 1) := by decide +kernel
theorem dX2_hasTwinAhead_64 : decode cX2_hasTwinAhead 64 = .ok (.baload, 1) := by decide +kernel
theorem dX2_hasTwinAhead_65 : decode cX2_hasTwinAhead 65 = .ok (.aload_n 0, 1) := by decide +kernel
theorem dX2_hasTwinAhead_66 : decode cX2_hasTwinAhead 66 = .ok (.getfield 15, 3) := by decide +kernel
theorem dX2_hasTwinAhead_69 : decode cX2_hasTwinAhead 69 = .ok (.iload_n 1, 1) := by decide +kernel
theorem dX2_hasTwinAhead_70 : decode cX2_hasTwinAhead 70 = .ok (.baload, 1) := by decide +kernel
theorem dX2_hasTwinAhead_71 : decode cX2_hasTwinAhead 71 = .ok (.if_icmp .ne 5, 3) := by decide +kernel
theorem dX2_hasTwinAhead_74 : decode cX2_hasTwinAhead 74 = .ok (.iconst 1, 1) := by decide +kernel
theorem dX2_hasTwinAhead_75 : decode cX2_hasTwinAhead 75 = .ok (.ireturn, 1) := by decide +kernel
theorem dX2_hasTwinAhead_76 : decode cX2_hasTwinAhead 76 = .ok (.iinc 3 1, 3) := by decide +kernel
theorem dX2_hasTwinAhead_79 : decode cX2_hasTwinAhead 79 = .ok (.goto (-77), 3) := by decide +kernel
theorem dX2_hasTwinAhead_82 : decode cX2_hasTwinAhead 82 = .ok (.iconst 0, 1) := by decide +kernel
theorem dX2_hasTwinAhead_83 : decode cX2_hasTwinAhead 83 = .ok (.ireturn, 1) := by decide +kernel
theorem dX2_choose_0 : decode cX2_choose 0 = .ok (.aload_n 0, 1) := by decide +kernel
theorem dX2_choose_1 : decode cX2_choose 1 = .ok (.iload_n 1, 1) := by decide +kernel
theorem dX2_choose_2 : decode cX2_choose 2 = .ok (.putfield 47, 3) := by decide +kernel
theorem dX2_choose_5 : decode cX2_choose 5 = .ok (.iconst 0, 1) := by decide +kernel
theorem dX2_choose_6 : decode cX2_choose 6 = .ok (.istore_n 2, 1) := by decide +kernel
theorem dX2_choose_7 : decode cX2_choose 7 = .ok (.iload_n 2, 1) := by decide +kernel
theorem dX2_choose_8 : decode cX2_choose 8 = .ok (.bipush 7, 2) := by decide +kernel
theorem dX2_choose_10 : decode cX2_choose 10 = .ok (.if_icmp .ge 21, 3) := by decide +kernel
theorem dX2_choose_13 : decode cX2_choose 13 = .ok (.aload_n 0, 1) := by decide +kernel
theorem dX2_choose_14 : decode cX2_choose 14 = .ok (.getfield 28, 3) := by decide +kernel
theorem dX2_choose_17 : decode cX2_choose 17 = .ok (.iload_n 2, 1) := by decide +kernel
theorem dX2_choose_18 : decode cX2_choose 18 = .ok (.aload_n 0, 1) := by decide +kernel
theorem dX2_choose_19 : decode cX2_choose 19 = .ok (.getfield 25, 3) := by decide +kernel
theorem dX2_choose_22 : decode cX2_choose 22 = .ok (.iload_n 2, 1) := by decide +kernel
theorem dX2_choose_23 : decode cX2_choose 23 = .ok (.iaload, 1) := by decide +kernel
theorem dX2_choose_24 : decode cX2_choose 24 = .ok (.iastore, 1) := by decide +kernel
theorem dX2_choose_25 : decode cX2_choose 25 = .ok (.iinc 2 1, 3) := by decide +kernel
theorem dX2_choose_28 : decode cX2_choose 28 = .ok (.goto (-21), 3) := by decide +kernel
theorem dX2_choose_31 : decode cX2_choose 31 = .ok (.return_, 1) := by decide +kernel
theorem dX3_init_0 : decode cX3_init 0 = .ok (.aload_n 0, 1) := by decide +kernel
theorem dX3_init_1 : decode cX3_init 1 = .ok (.invokespecial 3, 3) := by decide +kernel
theorem dX3_init_4 : decode cX3_init 4 = .ok (.aload_n 0, 1) := by decide +kernel
theorem dX3_init_5 : decode cX3_init 5 = .ok (.sipush 200, 3) := by decide +kernel
theorem dX3_init_8 : decode cX3_init 8 = .ok (.newarray .char, 2) := by decide +kernel
theorem dX3_init_10 : decode cX3_init 10 = .ok (.putfield 11, 3) := by decide +kernel
theorem dX3_init_13 : decode cX3_init 13 = .ok (.aload_n 0, 1) := by decide +kernel
theorem dX3_init_14 : decode cX3_init 14 = .ok (.iconst 3, 1) := by decide +kernel
theorem dX3_init_15 : decode cX3_init 15 = .ok (.newarray .int, 2) := by decide +kernel
theorem dX3_init_17 : decode cX3_init 17 = .ok (.putfield 15, 3) := by decide +kernel
theorem dX3_init_20 : decode cX3_init 20 = .ok (.return_, 1) := by decide +kernel
theorem dX3_add_0 : decode cX3_add 0 = .ok (.aload_n 0, 1) := by decide +kernel
theorem dX3_add_1 : decode cX3_add 1 = .ok (.getfield 19, 3) := by decide +kernel
theorem dX3_add_4 : decode cX3_add 4 = .ok (.sipush 200, 3) := by decide +kernel
theorem dX3_add_7 : decode cX3_add 7 = .ok (.if_icmp .lt 5, 3) := by decide +kernel
theorem dX3_add_10 : decode cX3_add 10 = .ok (.iconst 0, 1) := by decide +kernel
theorem dX3_add_11 : decode cX3_add 11 = .ok (.ireturn, 1) := by decide +kernel
theorem dX3_add_12 : decode cX3_add 12 = .ok (.aload_n 0, 1) := by decide +kernel
theorem dX3_add_13 : decode cX3_add 13 = .ok (.getfield 11, 3) := by decide +kernel
theorem dX3_add_16 : decode cX3_add 16 = .ok (.aload_n 0, 1) := by decide +kernel
theorem dX3_add_17 : decode cX3_add 17 = .ok (.getfield 19, 3) := by decide +kernel
theorem dX3_add_20 : decode cX3_add 20 = .ok (.iload_n 1, 1) := by decide +kernel
theorem dX3_add_21 : decode cX3_add 21 = .ok (.i2c, 1) := by decide +kernel
theorem dX3_add_22 : decode cX3_add 22 = .ok (.castore, 1) := by decide +kernel
theorem dX3_add_23 : decode cX3_add 23 = .ok (.aload_n 0, 1) := by decide +kernel
theorem dX3_add_24 : decode cX3_add 24 = .ok (.dup, 1) := by decide +kernel
theorem dX3_add_25 : decode cX3_add 25 = .ok (.getfield 19, 3) := by decide +kernel
theorem dX3_add_28 : decode cX3_add 28 = .ok (.iconst 1, 1) := by decide +kernel
theorem dX3_add_29 : decode cX3_add 29 = .ok (.iadd, 1) := by decide +kernel
theorem dX3_add_30 : decode cX3_add 30 = .ok (.putfield 19, 3) := by decide +kernel
theorem dX3_add_33 : decode cX3_add 33 = .ok (.iconst 1, 1) := by decide +kernel
theorem dX3_add_34 : decode cX3_add 34 = .ok (.ireturn, 1) := by decide +kernel
theorem dX3_empty_0 : decode cX3_empty 0 = .ok (.aload_n 0, 1) := by decide +kernel
theorem dX3_empty_1 : decode cX3_empty 1 = .ok (.getfield 19, 3) := by decide +kernel
theorem dX3_empty_4 : decode cX3_empty 4 = .ok (.istore_n 1, 1) := by decide +kernel
theorem dX3_empty_5 : decode cX3_empty 5 = .ok (.aload_n 0, 1) := by decide +kernel
theorem dX3_empty_6 : decode cX3_empty 6 = .ok (.iconst 0, 1) := by decide +kernel
theorem dX3_empty_7 : decode cX3_empty 7 = .ok (.putfield 19, 3) := by decide +kernel
theorem dX3_empty_10 : decode cX3_empty 10 = .ok (.iload_n 1, 1) := by decide +kernel
theorem dX3_empty_11 : decode cX3_empty 11 = .ok (.ireturn, 1) := by decide +kernel
theorem dX3_readInto_0 : decode cX3_readInto 0 = .ok (.aload_n 1, 1) := by decide +kernel
theorem dX3_readInto_1 : decode cX3_readInto 1 = .ok (.invokevirtual 23, 3) := by decide +kernel
theorem dX3_readInto_4 : decode cX3_readInto 4 = .ok (.iconst 0, 1) := by decide +kernel
theorem dX3_readInto_5 : decode cX3_readInto 5 = .ok (.istore_n 2, 1) := by decide +kernel
theorem dX3_readInto_6 : decode cX3_readInto 6 = .ok (.iload_n 2, 1) := by decide +kernel
theorem dX3_readInto_7 : decode cX3_readInto 7 = .ok (.aload_n 0, 1) := by decide +kernel
theorem dX3_readInto_8 : decode cX3_readInto 8 = .ok (.getfield 19, 3) := by decide +kernel
theorem dX3_readInto_11 : decode cX3_readInto 11 = .ok (.if_icmp .ge 34, 3) := by decide +kernel
theorem dX3_readInto_14 : decode cX3_readInto 14 = .ok (.aload_n 0, 1) := by decide +kernel
theorem dX3_readInto_15 : decode cX3_readInto 15 = .ok (.iload_n 2, 1) := by decide +kernel
theorem dX3_readInto_16 : decode cX3_readInto 16 = .ok (.invokevirtual 28, 3) := by decide +kernel
theorem dX3_readInto_19 : decode cX3_readInto 19 = .ok (.istore_n 3, 1) := by decide +kernel
theorem dX3_readInto_20 : decode cX3_readInto 20 = .ok (.iload_n 3, 1) := by decide +kernel
theorem dX3_readInto_21 : decode cX3_readInto 21 = .ok (.iload_n 2, 1) := by decide +kernel
theorem dX3_readInto_22 : decode cX3_readInto 22 = .ok (.if_icmp .le 16, 3) := by decide +kernel
theorem dX3_readInto_25 : decode cX3_readInto 25 = .ok (.aload_n 0, 1) := by decide +kernel
theorem dX3_readInto_26 : decode cX3_readInto 26 = .ok (.aload_n 1, 1) := by decide +kernel
theorem dX3_readInto_27 : decode cX3_readInto 27 = .ok (.aload_n 0, 1) := by decide +kernel
theorem dX3_readInto_28 : decode cX3_readInto 28 = .ok (.iload_n 2, 1) := by decide +kernel
theorem dX3_readInto_29 : decode cX3_readInto 29 = .ok (.invokevirtual 32, 3) := by decide +kernel
theorem dX3_readInto_32 : decode cX3_readInto 32 = .ok (.invokevirtual 36, 3) := by decide +kernel
theorem dX3_readInto_35 : decode cX3_readInto 35 = .ok (.ifCond .ne 5, 3) := by decide +kernel
theorem dX3_readInto_38 : decode cX3_readInto 38 = .ok (.iload_n 2, 1) := by decide +kernel
theorem dX3_readInto_39 : decode cX3_readInto 39 = .ok (.ireturn, 1) := by decide +kernel
theorem dX3_readInto_40 : decode cX3_readInto 40 = .ok (.iload_n 3, 1) := by decide +kernel
theorem dX3_readInto_41 : decode cX3_readInto 41 = .ok (.istore_n 2, 1) := by decide +kernel
theorem dX3_readInto_42 : decode cX3_readInto 42 = .ok (.goto (-36), 3) := by decide +kernel
theorem dX3_readInto_45 : decode cX3_readInto 45 = .ok (.bipush (-4), 2) := by decide +kernel
theorem dX3_readInto_47 : decode cX3_readInto 47 = .ok (.ireturn, 1) := by decide +kernel
theorem dX3_letterAt_0 : decode cX3_letterAt 0 = .ok (.iload_n 1, 1) := by decide +kernel
theorem dX3_letterAt_1 : decode cX3_letterAt 1 = .ok (.ifCond .lt 27, 3) := by decide +kernel
theorem dX3_letterAt_4 : decode cX3_letterAt 4 = .ok (.iload_n 1, 1) := by decide +kernel
theorem dX3_letterAt_5 : decode cX3_letterAt 5 = .ok (.aload_n 0, 1) := by decide +kernel
theorem dX3_letterAt_6 : decode cX3_letterAt 6 = .ok (.getfield 19, 3) := by decide +kernel
theorem dX3_letterAt_9 : decode cX3_letterAt 9 = .ok (.if_icmp .ge 19, 3) := by decide +kernel
theorem dX3_letterAt_12 : decode cX3_letterAt 12 = .ok (.iload_n 1, 1) := by decide +kernel
theorem dX3_letterAt_13 : decode cX3_letterAt 13 = .ok (.sipush 200, 3) := by decide +kernel
theorem dX3_letterAt_16 : decode cX3_letterAt 16 = .ok (.if_icmp .ge 12, 3) := by decide +kernel
theorem dX3_letterAt_19 : decode cX3_letterAt 19 = .ok (.aload_n 0, 1) := by decide +kernel
theorem dX3_letterAt_20 : decode cX3_letterAt 20 = .ok (.getfield 11, 3) := by decide +kernel
theorem dX3_letterAt_23 : decode cX3_letterAt 23 = .ok (.iload_n 1, 1) := by decide +kernel
theorem dX3_letterAt_24 : decode cX3_letterAt 24 = .ok (.caload, 1) := by decide +kernel
theorem dX3_letterAt_25 : decode cX3_letterAt 25 = .ok (.goto 4, 3) := by decide +kernel
theorem dX3_letterAt_28 : decode cX3_letterAt 28 = .ok (.iconst 0, 1) := by decide +kernel
theorem dX3_letterAt_29 : decode cX3_letterAt 29 = .ok (.ireturn, 1) := by decide +kernel
theorem dX3_readItem_0 : decode cX3_readItem 0 = .ok (.aload_n 0, 1) := by decide +kernel
theorem dX3_readItem_1 : decode cX3_readItem 1 = .ok (.iload_n 1, 1) := by decide +kernel
theorem dX3_readItem_2 : decode cX3_readItem 2 = .ok (.invokevirtual 32, 3) := by decide +kernel
theorem dX3_readItem_5 : decode cX3_readItem 5 = .ok (.invokestatic 40, 3) := by decide +kernel
theorem dX3_readItem_8 : decode cX3_readItem 8 = .ok (.istore_n 2, 1) := by decide +kernel
theorem dX3_readItem_9 : decode cX3_readItem 9 = .ok (.iload_n 2, 1) := by decide +kernel
theorem dX3_readItem_10 : decode cX3_readItem 10 = .ok (.ifCond .ne 6, 3) := by decide +kernel
theorem dX3_readItem_13 : decode cX3_readItem 13 = .ok (.bipush (-4), 2) := by decide +kernel
theorem dX3_readItem_15 : decode cX3_readItem 15 = .ok (.ireturn, 1) := by decide +kernel
theorem dX3_readItem_16 : decode cX3_readItem 16 = .ok (.iload_n 1, 1) := by decide +kernel
theorem dX3_readItem_17 : decode cX3_readItem 17 = .ok (.iconst 1, 1) := by decide +kernel
theorem dX3_readItem_18 : decode cX3_readItem 18 = .ok (.iadd, 1) := by decide +kernel
theorem dX3_readItem_19 : decode cX3_readItem 19 = .ok (.istore_n 3, 1) := by decide +kernel
theorem dX3_readItem_20 : decode cX3_readItem 20 = .ok (.iconst 0, 1) := by decide +kernel
theorem dX3_readItem_21 : decode cX3_readItem 21 = .ok (.istore 4, 2) := by decide +kernel
theorem dX3_readItem_23 : decode cX3_readItem 23 = .ok (.iload 4, 2) := by decide +kernel
theorem dX3_readItem_25 : decode cX3_readItem 25 = .ok (.iload_n 2, 1) := by decide +kernel
theorem dX3_readItem_26 : decode cX3_readItem 26 = .ok (.if_icmp .ge 78, 3) := by decide +kernel
theorem dX3_readItem_29 : decode cX3_readItem 29 = .ok (.iload 4, 2) := by decide +kernel
theorem dX3_readItem_31 : decode cX3_readItem 31 = .ok (.iconst 3, 1) := by decide +kernel
theorem dX3_readItem_32 : decode cX3_readItem 32 = .ok (.if_icmp .ge 72, 3) := by decide +kernel
theorem dX3_readItem_35 : decode cX3_readItem 35 = .ok (.aload_n 0, 1) := by decide +kernel
theorem dX3_readItem_36 : decode cX3_readItem 36 = .ok (.iload_n 3, 1) := by decide +kernel
theorem dX3_readItem_37 : decode cX3_readItem 37 = .ok (.invokevirtual 44, 3) := by decide +kernel
theorem dX3_readItem_40 : decode cX3_readItem 40 = .ok (.istore 5, 2) := by decide +kernel
theorem dX3_readItem_42 : decode cX3_readItem 42 = .ok (.iload 5, 2) := by decide +kernel
theorem dX3_readItem_44 : decode cX3_readItem 44 = .ok (.ifCond .ne 6, 3) := by decide +kernel
theorem dX3_readItem_47 : decode cX3_readItem 47 = .ok (.bipush (-4), 2) := by decide +kernel
theorem dX3_readItem_49 : decode cX3_readItem 49 = .ok (.ireturn, 1) := by decide +kernel
theorem dX3_readItem_50 : decode cX3_readItem 50 = .ok (.aload_n 0, 1) := by decide +kernel
theorem dX3_readItem_51 : decode cX3_readItem 51 = .ok (.getfield 15, 3) := by decide +kernel
theorem dX3_readItem_54 : decode cX3_readItem 54 = .ok (.iload 4, 2) := by decide +kernel
theorem dX3_readItem_56 : decode cX3_readItem 56 = .ok (.aload_n 0, 1) := by decide +kernel
theorem dX3_readItem_57 : decode cX3_readItem 57 = .ok (.iload_n 3, 1) := by decide +kernel
theorem dX3_readItem_58 : decode cX3_readItem 58 = .ok (.iload 5, 2) := by decide +kernel
theorem dX3_readItem_60 : decode cX3_readItem 60 = .ok (.invokevirtual 47, 3) := by decide +kernel
theorem dX3_readItem_63 : decode cX3_readItem 63 = .ok (.iastore, 1) := by decide +kernel
theorem dX3_readItem_64 : decode cX3_readItem 64 = .ok (.iload_n 3, 1) := by decide +kernel
theorem dX3_readItem_65 : decode cX3_readItem 65 = .ok (.iload 5, 2) := by decide +kernel
theorem dX3_readItem_67 : decode cX3_readItem 67 = .ok (.iadd, 1) := by decide +kernel
theorem dX3_readItem_68 : decode cX3_readItem 68 = .ok (.istore_n 3, 1) := by decide +kernel
theorem dX3_readItem_69 : decode cX3_readItem 69 = .ok (.aload_n 0, 1) := by decide +kernel
theorem dX3_readItem_70 : decode cX3_readItem 70 = .ok (.iload_n 3, 1) := by decide +kernel
theorem dX3_readItem_71 : decode cX3_readItem 71 = .ok (.invokevirtual 32, 3) := by decide +kernel
theorem dX3_readItem_74 : decode cX3_readItem 74 = .ok (.iload 4, 2) := by decide +kernel
theorem dX3_readItem_76 : decode cX3_readItem 76 = .ok (.iload_n 2, 1) := by decide +kernel
theorem dX3_readItem_77 : decode cX3_readItem 77 = .ok (.iconst 1, 1) := by decide +kernel
theorem dX3_readItem_78 : decode cX3_readItem 78 = .ok (.isub, 1) := by decide +kernel
theorem dX3_readItem_79 : decode cX3_readItem 79 = .ok (.if_icmp .ne 8, 3) := by decide +kernel
theorem dX3_readItem_82 : decode cX3_readItem 82 = .ok (.bipush 59, 2) := by decide +kernel
theorem dX3_readItem_84 : decode cX3_readItem 84 = .ok (.goto 5, 3) := by decide +kernel
theorem dX3_readItem_87 : decode cX3_readItem 87 = .ok (.bipush 44, 2) := by decide +kernel
theorem dX3_readItem_89 : decode cX3_readItem 89 = .ok (.if_icmp .eq 6, 3) := by decide +kernel
theorem dX3_readItem_92 : decode cX3_readItem 92 = .ok (.bipush (-4), 2) := by decide +kernel
theorem dX3_readItem_94 : decode cX3_readItem 94 = .ok (.ireturn, 1) := by decide +kernel
theorem dX3_readItem_95 : decode cX3_readItem 95 = .ok (.iinc 3 1, 3) := by decide +kernel
theorem dX3_readItem_98 : decode cX3_readItem 98 = .ok (.iinc 4 1, 3) := by decide +kernel
theorem dX3_readItem_101 : decode cX3_readItem 101 = .ok (.goto (-78), 3) := by decide +kernel
theorem dX3_readItem_104 : decode cX3_readItem 104 = .ok (.iload_n 3, 1) := by decide +kernel
theorem dX3_readItem_105 : decode cX3_readItem 105 = .ok (.ireturn, 1) := by decide +kernel
theorem dX3_numbersOf_0 : decode cX3_numbersOf 0 = .ok (.iload_n 0, 1) := by decide +kernel
theorem dX3_numbersOf_1 : decode cX3_numbersOf 1 = .ok (.lookupswitch 51 #[(102, 49), (103, 43), (104, 45), (119, 47)], 43) := by decide +kernel
theorem dX3_numbersOf_44 : decode cX3_numbersOf 44 = .ok (.iconst 1, 1) := by decide +kernel
theorem dX3_numbersOf_45 : decode cX3_numbersOf 45 = .ok (.ireturn, 1) := by decide +kernel
theorem dX3_numbersOf_46 : decode cX3_numbersOf 46 = .ok (.iconst 3, 1) := by decide +kernel
theorem dX3_numbersOf_47 : decode cX3_numbersOf 47 = .ok (.ireturn, 1) := by decide +kernel
theorem dX3_numbersOf_48 : decode cX3_numbersOf 48 = .ok (.iconst 2, 1) := by decide +kernel
theorem dX3_numbersOf_49 : decode cX3_numbersOf 49 = .ok (.ireturn, 1) := by decide +kernel
theorem dX3_numbersOf_50 : decode cX3_numbersOf 50 = .ok (.iconst 1, 1) := by decide +kernel
theorem dX3_numbersOf_51 : decode cX3_numbersOf 51 = .ok (.ireturn, 1) := by decide +kernel
theorem dX3_numbersOf_52 : decode cX3_numbersOf 52 = .ok (.iconst 0, 1) := by decide +kernel
theorem dX3_numbersOf_53 : decode cX3_numbersOf 53 = .ok (.ireturn, 1) := by decide +kernel
theorem dX3_figuresAt_0 : decode cX3_figuresAt 0 = .ok (.aload_n 0, 1) := by decide +kernel
theorem dX3_figuresAt_1 : decode cX3_figuresAt 1 = .ok (.iload_n 1, 1) := by decide +kernel
theorem dX3_figuresAt_2 : decode cX3_figuresAt 2 = .ok (.invokevirtual 32, 3) := by decide +kernel
theorem dX3_figuresAt_5 : decode cX3_figuresAt 5 = .ok (.invokestatic 51, 3) := by decide +kernel
theorem dX3_figuresAt_8 : decode cX3_figuresAt 8 = .ok (.ifCond .ne 5, 3) := by decide +kernel
theorem dX3_figuresAt_11 : decode cX3_figuresAt 11 = .ok (.iconst 0, 1) := by decide +kernel
theorem dX3_figuresAt_12 : decode cX3_figuresAt 12 = .ok (.ireturn, 1) := by decide +kernel
theorem dX3_figuresAt_13 : decode cX3_figuresAt 13 = .ok (.aload_n 0, 1) := by decide +kernel
theorem dX3_figuresAt_14 : decode cX3_figuresAt 14 = .ok (.iload_n 1, 1) := by decide +kernel
theorem dX3_figuresAt_15 : decode cX3_figuresAt 15 = .ok (.iconst 1, 1) := by decide +kernel
theorem dX3_figuresAt_16 : decode cX3_figuresAt 16 = .ok (.iadd, 1) := by decide +kernel
theorem dX3_figuresAt_17 : decode cX3_figuresAt 17 = .ok (.invokevirtual 32, 3) := by decide +kernel
theorem dX3_figuresAt_20 : decode cX3_figuresAt 20 = .ok (.invokestatic 51, 3) := by decide +kernel
theorem dX3_figuresAt_23 : decode cX3_figuresAt 23 = .ok (.ifCond .eq 7, 3) := by decide +kernel
theorem dX3_figuresAt_26 : decode cX3_figuresAt 26 = .ok (.iconst 2, 1) := by decide +kernel
theorem dX3_figuresAt_27 : decode cX3_figuresAt 27 = .ok (.goto 4, 3) := by decide +kernel
theorem dX3_figuresAt_30 : decode cX3_figuresAt 30 = .ok (.iconst 1, 1) := by decide +kernel
theorem dX3_figuresAt_31 : decode cX3_figuresAt 31 = .ok (.ireturn, 1) := by decide +kernel
theorem dX3_isFigure_0 : decode cX3_isFigure 0 = .ok (.iload_n 0, 1) := by decide +kernel
theorem dX3_isFigure_1 : decode cX3_isFigure 1 = .ok (.bipush 48, 2) := by decide +kernel
theorem dX3_isFigure_3 : decode cX3_isFigure 3 = .ok (.if_icmp .lt 13, 3) := by decide +kernel
theorem dX3_isFigure_6 : decode cX3_isFigure 6 = .ok (.iload_n 0, 1) := by decide +kernel
theorem dX3_isFigure_7 : decode cX3_isFigure 7 = .ok (.bipush 57, 2) := by decide +kernel
theorem dX3_isFigure_9 : decode cX3_isFigure 9 = .ok (.if_icmp .gt 7, 3) := by decide +kernel
theorem dX3_isFigure_12 : decode cX3_isFigure 12 = .ok (.iconst 1, 1) := by decide +kernel
theorem dX3_isFigure_13 : decode cX3_isFigure 13 = .ok (.goto 4, 3) := by decide +kernel
theorem dX3_isFigure_16 : decode cX3_isFigure 16 = .ok (.iconst 0, 1) := by decide +kernel
theorem dX3_isFigure_17 : decode cX3_isFigure 17 = .ok (.ireturn, 1) := by decide +kernel
theorem dX3_numberAt_0 : decode cX3_numberAt 0 = .ok (.aload_n 0, 1) := by decide +kernel
theorem dX3_numberAt_1 : decode cX3_numberAt 1 = .ok (.iload_n 1, 1) := by decide +kernel
theorem dX3_numberAt_2 : decode cX3_numberAt 2 = .ok (.invokevirtual 32, 3) := by decide +kernel
theorem dX3_numberAt_5 : decode cX3_numberAt 5 = .ok (.bipush 48, 2) := by decide +kernel
theorem dX3_numberAt_7 : decode cX3_numberAt 7 = .ok (.isub, 1) := by decide +kernel
theorem dX3_numberAt_8 : decode cX3_numberAt 8 = .ok (.istore_n 3, 1) := by decide +kernel
theorem dX3_numberAt_9 : decode cX3_numberAt 9 = .ok (.iload_n 2, 1) := by decide +kernel
theorem dX3_numberAt_10 : decode cX3_numberAt 10 = .ok (.iconst 1, 1) := by decide +kernel
theorem dX3_numberAt_11 : decode cX3_numberAt 11 = .ok (.if_icmp .ne 7, 3) := by decide +kernel
theorem dX3_numberAt_14 : decode cX3_numberAt 14 = .ok (.iload_n 3, 1) := by decide +kernel
theorem dX3_numberAt_15 : decode cX3_numberAt 15 = .ok (.goto 18, 3) := by decide +kernel
theorem dX3_numberAt_18 : decode cX3_numberAt 18 = .ok (.iload_n 3, 1) := by decide +kernel
theorem dX3_numberAt_19 : decode cX3_numberAt 19 = .ok (.bipush 10, 2) := by decide +kernel
theorem dX3_numberAt_21 : decode cX3_numberAt 21 = .ok (.imul, 1) := by decide +kernel
theorem dX3_numberAt_22 : decode cX3_numberAt 22 = .ok (.aload_n 0, 1) := by decide +kernel
theorem dX3_numberAt_23 : decode cX3_numberAt 23 = .ok (.iload_n 1, 1) := by decide +kernel
theorem dX3_numberAt_24 : decode cX3_numberAt 24 = .ok (.iconst 1, 1) := by decide +kernel
theorem dX3_numberAt_25 : decode cX3_numberAt 25 = .ok (.iadd, 1) := by decide +kernel
theorem dX3_numberAt_26 : decode cX3_numberAt 26 = .ok (.invokevirtual 32, 3) := by decide +kernel
theorem dX3_numberAt_29 : decode cX3_numberAt 29 = .ok (.iadd, 1) := by decide +kernel
theorem dX3_numberAt_30 : decode cX3_numberAt 30 = .ok (.bipush 48, 2) := by decide +kernel
theorem dX3_numberAt_32 : decode cX3_numberAt 32 = .ok (.isub, 1) := by decide +kernel
theorem dX3_numberAt_33 : decode cX3_numberAt 33 = .ok (.ireturn, 1) := by decide +kernel
theorem dX3_tell_0 : decode cX3_tell 0 = .ok (.iload_n 2, 1) := by decide +kernel
theorem dX3_tell_1 : decode cX3_tell 1 = .ok (.lookupswitch 105 #[(102, 94), (103, 43), (104, 54), (119, 77)], 43) := by decide +kernel
theorem dX3_tell_44 : decode cX3_tell 44 = .ok (.aload_n 1, 1) := by decide +kernel
theorem dX3_tell_45 : decode cX3_tell 45 = .ok (.aload_n 0, 1) := by decide +kernel
theorem dX3_tell_46 : decode cX3_tell 46 = .ok (.getfield 15, 3) := by decide +kernel
theorem dX3_tell_49 : decode cX3_tell 49 = .ok (.iconst 0, 1) := by decide +kernel
theorem dX3_tell_50 : decode cX3_tell 50 = .ok (.iaload, 1) := by decide +kernel
theorem dX3_tell_51 : decode cX3_tell 51 = .ok (.invokevirtual 55, 3) := by decide +kernel
theorem dX3_tell_54 : decode cX3_tell 54 = .ok (.ireturn, 1) := by decide +kernel
theorem dX3_tell_55 : decode cX3_tell 55 = .ok (.aload_n 1, 1) := by decide +kernel
theorem dX3_tell_56 : decode cX3_tell 56 = .ok (.aload_n 0, 1) := by decide +kernel
theorem dX3_tell_57 : decode cX3_tell 57 = .ok (.getfield 15, 3) := by decide +kernel
theorem dX3_tell_60 : decode cX3_tell 60 = .ok (.iconst 0, 1) := by decide +kernel
theorem dX3_tell_61 : decode cX3_tell 61 = .ok (.iaload, 1) := by decide +kernel
theorem dX3_tell_62 : decode cX3_tell 62 = .ok (.aload_n 0, 1) := by decide +kernel
theorem dX3_tell_63 : decode cX3_tell 63 = .ok (.getfield 15, 3) := by decide +kernel
theorem dX3_tell_66 : decode cX3_tell 66 = .ok (.iconst 1, 1) := by decide +kernel
theorem dX3_tell_67 : decode cX3_tell 67 = .ok (.iaload, 1) := by decide +kernel
theorem dX3_tell_68 : decode cX3_tell 68 = .ok (.aload_n 0, 1) := by decide +kernel
theorem dX3_tell_69 : decode cX3_tell 69 = .ok (.getfield 15, 3) := by decide +kernel
theorem dX3_tell_72 : decode cX3_tell 72 = .ok (.iconst 2, 1) := by decide +kernel
theorem dX3_tell_73 : decode cX3_tell 73 = .ok (.iaload, 1) := by decide +kernel
theorem dX3_tell_74 : decode cX3_tell 74 = .ok (.invokevirtual 59, 3) := by decide +kernel
theorem dX3_tell_77 : decode cX3_tell 77 = .ok (.ireturn, 1) := by decide +kernel
theorem dX3_tell_78 : decode cX3_tell 78 = .ok (.aload_n 1, 1) := by decide +kernel
theorem dX3_tell_79 : decode cX3_tell 79 = .ok (.aload_n 0, 1) := by decide +kernel
theorem dX3_tell_80 : decode cX3_tell 80 = .ok (.getfield 15, 3) := by decide +kernel
theorem dX3_tell_83 : decode cX3_tell 83 = .ok (.iconst 0, 1) := by decide +kernel
theorem dX3_tell_84 : decode cX3_tell 84 = .ok (.iaload, 1) := by decide +kernel
theorem dX3_tell_85 : decode cX3_tell 85 = .ok (.aload_n 0, 1) := by decide +kernel
theorem dX3_tell_86 : decode cX3_tell 86 = .ok (.getfield 15, 3) := by decide +kernel
theorem dX3_tell_89 : decode cX3_tell 89 = .ok (.iconst 1, 1) := by decide +kernel
theorem dX3_tell_90 : decode cX3_tell 90 = .ok (.iaload, 1) := by decide +kernel
theorem dX3_tell_91 : decode cX3_tell 91 = .ok (.invokevirtual 63, 3) := by decide +kernel
theorem dX3_tell_94 : decode cX3_tell 94 = .ok (.ireturn, 1) := by decide +kernel
theorem dX3_tell_95 : decode cX3_tell 95 = .ok (.aload_n 1, 1) := by decide +kernel
theorem dX3_tell_96 : decode cX3_tell 96 = .ok (.aload_n 0, 1) := by decide +kernel
theorem dX3_tell_97 : decode cX3_tell 97 = .ok (.getfield 15, 3) := by decide +kernel
theorem dX3_tell_100 : decode cX3_tell 100 = .ok (.iconst 0, 1) := by decide +kernel
theorem dX3_tell_101 : decode cX3_tell 101 = .ok (.iaload, 1) := by decide +kernel
theorem dX3_tell_102 : decode cX3_tell 102 = .ok (.invokevirtual 67, 3) := by decide +kernel
theorem dX3_tell_105 : decode cX3_tell 105 = .ok (.ireturn, 1) := by decide +kernel
theorem dX3_tell_106 : decode cX3_tell 106 = .ok (.iconst 0, 1) := by decide +kernel
theorem dX3_tell_107 : decode cX3_tell 107 = .ok (.ireturn, 1) := by decide +kernel
theorem dX4_init_0 : decode cX4_init 0 = .ok (.aload_n 0, 1) := by decide +kernel
theorem dX4_init_1 : decode cX4_init 1 = .ok (.invokespecial 1, 3) := by decide +kernel
theorem dX4_init_4 : decode cX4_init 4 = .ok (.aload_n 0, 1) := by decide +kernel
theorem dX4_init_5 : decode cX4_init 5 = .ok (.iconst 1, 1) := by decide +kernel
theorem dX4_init_6 : decode cX4_init 6 = .ok (.iload_n 1, 1) := by decide +kernel
theorem dX4_init_7 : decode cX4_init 7 = .ok (.invokestatic 7, 3) := by decide +kernel
theorem dX4_init_10 : decode cX4_init 10 = .ok (.anewarray 13, 3) := by decide +kernel
theorem dX4_init_13 : decode cX4_init 13 = .ok (.putfield 15, 3) := by decide +kernel
theorem dX4_init_16 : decode cX4_init 16 = .ok (.iconst 0, 1) := by decide +kernel
theorem dX4_init_17 : decode cX4_init 17 = .ok (.istore_n 2, 1) := by decide +kernel
theorem dX4_init_18 : decode cX4_init 18 = .ok (.iload_n 2, 1) := by decide +kernel
theorem dX4_init_19 : decode cX4_init 19 = .ok (.aload_n 0, 1) := by decide +kernel
theorem dX4_init_20 : decode cX4_init 20 = .ok (.getfield 15, 3) := by decide +kernel
theorem dX4_init_23 : decode cX4_init 23 = .ok (.arraylength, 1) := by decide +kernel
theorem dX4_init_24 : decode cX4_init 24 = .ok (.if_icmp .ge 22, 3) := by decide +kernel
theorem dX4_init_27 : decode cX4_init 27 = .ok (.aload_n 0, 1) := by decide +kernel
theorem dX4_init_28 : decode cX4_init 28 = .ok (.getfield 15, 3) := by decide +kernel
theorem dX4_init_31 : decode cX4_init 31 = .ok (.iload_n 2, 1) := by decide +kernel
theorem dX4_init_32 : decode cX4_init 32 = .ok (.new 13, 3) := by decide +kernel
theorem dX4_init_35 : decode cX4_init 35 = .ok (.dup, 1) := by decide +kernel
theorem dX4_init_36 : decode cX4_init 36 = .ok (.invokespecial 21, 3) := by decide +kernel
theorem dX4_init_39 : decode cX4_init 39 = .ok (.aastore, 1) := by decide +kernel
theorem dX4_init_40 : decode cX4_init 40 = .ok (.iinc 2 1, 3) := by decide +kernel
theorem dX4_init_43 : decode cX4_init 43 = .ok (.goto (-25), 3) := by decide +kernel
theorem dX4_init_46 : decode cX4_init 46 = .ok (.return_, 1) := by decide +kernel
theorem dX4_empty_0 : decode cX4_empty 0 = .ok (.aload_n 0, 1) := by decide +kernel
theorem dX4_empty_1 : decode cX4_empty 1 = .ok (.iconst 0, 1) := by decide +kernel
theorem dX4_empty_2 : decode cX4_empty 2 = .ok (.putfield 22, 3) := by decide +kernel
theorem dX4_empty_5 : decode cX4_empty 5 = .ok (.return_, 1) := by decide +kernel
theorem dX4_isFull_0 : decode cX4_isFull 0 = .ok (.aload_n 0, 1) := by decide +kernel
theorem dX4_isFull_1 : decode cX4_isFull 1 = .ok (.getfield 22, 3) := by decide +kernel
theorem dX4_isFull_4 : decode cX4_isFull 4 = .ok (.aload_n 0, 1) := by decide +kernel
theorem dX4_isFull_5 : decode cX4_isFull 5 = .ok (.getfield 15, 3) := by decide +kernel
theorem dX4_isFull_8 : decode cX4_isFull 8 = .ok (.arraylength, 1) := by decide +kernel
theorem dX4_isFull_9 : decode cX4_isFull 9 = .ok (.if_icmp .lt 7, 3) := by decide +kernel
theorem dX4_isFull_12 : decode cX4_isFull 12 = .ok (.iconst 1, 1) := by decide +kernel
theorem dX4_isFull_13 : decode cX4_isFull 13 = .ok (.goto 4, 3) := by decide +kernel
theorem dX4_isFull_16 : decode cX4_isFull 16 = .ok (.iconst 0, 1) := by decide +kernel
theorem dX4_isFull_17 : decode cX4_isFull 17 = .ok (.ireturn, 1) := by decide +kernel
theorem dX4_store_0 : decode cX4_store 0 = .ok (.aload_n 0, 1) := by decide +kernel
theorem dX4_store_1 : decode cX4_store 1 = .ok (.aload_n 0, 1) := by decide +kernel
theorem dX4_store_2 : decode cX4_store 2 = .ok (.getfield 26, 3) := by decide +kernel
theorem dX4_store_5 : decode cX4_store 5 = .ok (.invokevirtual 29, 3) := by decide +kernel
theorem dX4_store_8 : decode cX4_store 8 = .ok (.astore_n 2, 1) := by decide +kernel
theorem dX4_store_9 : decode cX4_store 9 = .ok (.aload_n 2, 1) := by decide +kernel
theorem dX4_store_10 : decode cX4_store 10 = .ok (.ifnonnull 4, 3) := by decide +kernel
theorem dX4_store_13 : decode cX4_store 13 = .ok (.return_, 1) := by decide +kernel
theorem dX4_store_14 : decode cX4_store 14 = .ok (.aload_n 2, 1) := by decide +kernel
theorem dX4_store_15 : decode cX4_store 15 = .ok (.aload_n 1, 1) := by decide +kernel
theorem dX4_store_16 : decode cX4_store 16 = .ok (.invokevirtual 33, 3) := by decide +kernel
theorem dX4_store_19 : decode cX4_store 19 = .ok (.aload_n 0, 1) := by decide +kernel
theorem dX4_store_20 : decode cX4_store 20 = .ok (.aload_n 0, 1) := by decide +kernel
theorem dX4_store_21 : decode cX4_store 21 = .ok (.getfield 26, 3) := by decide +kernel
theorem dX4_store_24 : decode cX4_store 24 = .ok (.iconst 1, 1) := by decide +kernel
theorem dX4_store_25 : decode cX4_store 25 = .ok (.iadd, 1) := by decide +kernel
theorem dX4_store_26 : decode cX4_store 26 = .ok (.aload_n 0, 1) := by decide +kernel
theorem dX4_store_27 : decode cX4_store 27 = .ok (.getfield 15, 3) := by decide +kernel
theorem dX4_store_30 : decode cX4_store 30 = .ok (.arraylength, 1) := by decide +kernel
theorem dX4_store_31 : decode cX4_store 31 = .ok (.if_icmp .ge 12, 3) := by decide +kernel
theorem dX4_store_34 : decode cX4_store 34 = .ok (.aload_n 0, 1) := by decide +kernel
theorem dX4_store_35 : decode cX4_store 35 = .ok (.getfield 26, 3) := by decide +kernel
theorem dX4_store_38 : decode cX4_store 38 = .ok (.iconst 1, 1) := by decide +kernel
theorem dX4_store_39 : decode cX4_store 39 = .ok (.iadd, 1) := by decide +kernel
theorem dX4_store_40 : decode cX4_store 40 = .ok (.goto 4, 3) := by decide +kernel
theorem dX4_store_43 : decode cX4_store 43 = .ok (.iconst 0, 1) := by decide +kernel
theorem dX4_store_44 : decode cX4_store 44 = .ok (.putfield 26, 3) := by decide +kernel
theorem dX4_store_47 : decode cX4_store 47 = .ok (.aload_n 0, 1) := by decide +kernel
theorem dX4_store_48 : decode cX4_store 48 = .ok (.invokevirtual 37, 3) := by decide +kernel
theorem dX4_store_51 : decode cX4_store 51 = .ok (.ifCond .ne 13, 3) := by decide +kernel
theorem dX4_store_54 : decode cX4_store 54 = .ok (.aload_n 0, 1) := by decide +kernel
theorem dX4_store_55 : decode cX4_store 55 = .ok (.dup, 1) := by decide +kernel
theorem dX4_store_56 : decode cX4_store 56 = .ok (.getfield 22, 3) := by decide +kernel
theorem dX4_store_59 : decode cX4_store 59 = .ok (.iconst 1, 1) := by decide +kernel
theorem dX4_store_60 : decode cX4_store 60 = .ok (.iadd, 1) := by decide +kernel
theorem dX4_store_61 : decode cX4_store 61 = .ok (.putfield 22, 3) := by decide +kernel
theorem dX4_store_64 : decode cX4_store 64 = .ok (.return_, 1) := by decide +kernel
theorem dX4_fetchInto_0 : decode cX4_fetchInto 0 = .ok (.aload_n 0, 1) := by decide +kernel
theorem dX4_fetchInto_1 : decode cX4_fetchInto 1 = .ok (.getfield 26, 3) := by decide +kernel
theorem dX4_fetchInto_4 : decode cX4_fetchInto 4 = .ok (.ifCond .le 12, 3) := by decide +kernel
theorem dX4_fetchInto_7 : decode cX4_fetchInto 7 = .ok (.aload_n 0, 1) := by decide +kernel
theorem dX4_fetchInto_8 : decode cX4_fetchInto 8 = .ok (.getfield 26, 3) := by decide +kernel
theorem dX4_fetchInto_11 : decode cX4_fetchInto 11 = .ok (.iconst 1, 1) := by decide +kernel
theorem dX4_fetchInto_12 : decode cX4_fetchInto 12 = .ok (.isub, 1) := by decide +kernel
theorem dX4_fetchInto_13 : decode cX4_fetchInto 13 = .ok (.goto 10, 3) := by decide +kernel
theorem dX4_fetchInto_16 : decode cX4_fetchInto 16 = .ok (.aload_n 0, 1) := by decide +kernel
theorem dX4_fetchInto_17 : decode cX4_fetchInto 17 = .ok (.getfield 15, 3) := by decide +kernel
theorem dX4_fetchInto_20 : decode cX4_fetchInto 20 = .ok (.arraylength, 1) := by decide +kernel
theorem dX4_fetchInto_21 : decode cX4_fetchInto 21 = .ok (.iconst 1, 1) := by decide +kernel
theorem dX4_fetchInto_22 : decode cX4_fetchInto 22 = .ok (.isub, 1) := by decide +kernel
theorem dX4_fetchInto_23 : decode cX4_fetchInto 23 = .ok (.istore_n 2, 1) := by decide +kernel
theorem dX4_fetchInto_24 : decode cX4_fetchInto 24 = .ok (.aload_n 0, 1) := by decide +kernel
theorem dX4_fetchInto_25 : decode cX4_fetchInto 25 = .ok (.iload_n 2, 1) := by decide +kernel
theorem dX4_fetchInto_26 : decode cX4_fetchInto 26 = .ok (.invokevirtual 29, 3) := by decide +kernel
theorem dX4_fetchInto_29 : decode cX4_fetchInto 29 = .ok (.astore_n 3, 1) := by decide +kernel
theorem dX4_fetchInto_30 : decode cX4_fetchInto 30 = .ok (.aload_n 0, 1) := by decide +kernel
theorem dX4_fetchInto_31 : decode cX4_fetchInto 31 = .ok (.getfield 22, 3) := by decide +kernel
theorem dX4_fetchInto_34 : decode cX4_fetchInto 34 = .ok (.ifCond .eq 7, 3) := by decide +kernel
theorem dX4_fetchInto_37 : decode cX4_fetchInto 37 = .ok (.aload_n 3, 1) := by decide +kernel
theorem dX4_fetchInto_38 : decode cX4_fetchInto 38 = .ok (.ifnonnull 5, 3) := by decide +kernel
theorem dX4_fetchInto_41 : decode cX4_fetchInto 41 = .ok (.iconst 0, 1) := by decide +kernel
theorem dX4_fetchInto_42 : decode cX4_fetchInto 42 = .ok (.ireturn, 1) := by decide +kernel
theorem dX4_fetchInto_43 : decode cX4_fetchInto 43 = .ok (.aload_n 1, 1) := by decide +kernel
theorem dX4_fetchInto_44 : decode cX4_fetchInto 44 = .ok (.aload_n 3, 1) := by decide +kernel
theorem dX4_fetchInto_45 : decode cX4_fetchInto 45 = .ok (.invokevirtual 33, 3) := by decide +kernel
theorem dX4_fetchInto_48 : decode cX4_fetchInto 48 = .ok (.aload_n 0, 1) := by decide +kernel
theorem dX4_fetchInto_49 : decode cX4_fetchInto 49 = .ok (.iload_n 2, 1) := by decide +kernel
theorem dX4_fetchInto_50 : decode cX4_fetchInto 50 = .ok (.putfield 26, 3) := by decide +kernel
theorem dX4_fetchInto_53 : decode cX4_fetchInto 53 = .ok (.aload_n 0, 1) := by decide +kernel
theorem dX4_fetchInto_54 : decode cX4_fetchInto 54 = .ok (.dup, 1) := by decide +kernel
theorem dX4_fetchInto_55 : decode cX4_fetchInto 55 = .ok (.getfield 22, 3) := by decide +kernel
theorem dX4_fetchInto_58 : decode cX4_fetchInto 58 = .ok (.iconst 1, 1) := by decide +kernel
theorem dX4_fetchInto_59 : decode cX4_fetchInto 59 = .ok (.isub, 1) := by decide +kernel
theorem dX4_fetchInto_60 : decode cX4_fetchInto 60 = .ok (.putfield 22, 3) := by decide +kernel
theorem dX4_fetchInto_63 : decode cX4_fetchInto 63 = .ok (.iconst 1, 1) := by decide +kernel
theorem dX4_fetchInto_64 : decode cX4_fetchInto 64 = .ok (.ireturn, 1) := by decide +kernel
theorem dX4_slotAt_0 : decode cX4_slotAt 0 = .ok (.iload_n 1, 1) := by decide +kernel
theorem dX4_slotAt_1 : decode cX4_slotAt 1 = .ok (.ifCond .lt 21, 3) := by decide +kernel
theorem dX4_slotAt_4 : decode cX4_slotAt 4 = .ok (.iload_n 1, 1) := by decide +kernel
theorem dX4_slotAt_5 : decode cX4_slotAt 5 = .ok (.aload_n 0, 1) := by decide +kernel
theorem dX4_slotAt_6 : decode cX4_slotAt 6 = .ok (.getfield 15, 3) := by decide +kernel
theorem dX4_slotAt_9 : decode cX4_slotAt 9 = .ok (.arraylength, 1) := by decide +kernel
theorem dX4_slotAt_10 : decode cX4_slotAt 10 = .ok (.if_icmp .ge 12, 3) := by decide +kernel
theorem dX4_slotAt_13 : decode cX4_slotAt 13 = .ok (.aload_n 0, 1) := by decide +kernel
theorem dX4_slotAt_14 : decode cX4_slotAt 14 = .ok (.getfield 15, 3) := by decide +kernel
theorem dX4_slotAt_17 : decode cX4_slotAt 17 = .ok (.iload_n 1, 1) := by decide +kernel
theorem dX4_slotAt_18 : decode cX4_slotAt 18 = .ok (.aaload, 1) := by decide +kernel
theorem dX4_slotAt_19 : decode cX4_slotAt 19 = .ok (.goto 4, 3) := by decide +kernel
theorem dX4_slotAt_22 : decode cX4_slotAt 22 = .ok (.aconst_null, 1) := by decide +kernel
theorem dX4_slotAt_23 : decode cX4_slotAt 23 = .ok (.areturn, 1) := by decide +kernel
theorem dX5_init_0 : decode cX5_init 0 = .ok (.aload_n 0, 1) := by decide +kernel
theorem dX5_init_1 : decode cX5_init 1 = .ok (.invokespecial 3, 3) := by decide +kernel
theorem dX5_init_4 : decode cX5_init 4 = .ok (.aload_n 0, 1) := by decide +kernel
theorem dX5_init_5 : decode cX5_init 5 = .ok (.bipush 6, 2) := by decide +kernel
theorem dX5_init_7 : decode cX5_init 7 = .ok (.newarray .int, 2) := by decide +kernel
theorem dX5_init_9 : decode cX5_init 9 = .ok (.putfield 11, 3) := by decide +kernel
theorem dX5_init_12 : decode cX5_init 12 = .ok (.aload_n 0, 1) := by decide +kernel
theorem dX5_init_13 : decode cX5_init 13 = .ok (.bipush 6, 2) := by decide +kernel
theorem dX5_init_15 : decode cX5_init 15 = .ok (.newarray .int, 2) := by decide +kernel
theorem dX5_init_17 : decode cX5_init 17 = .ok (.putfield 15, 3) := by decide +kernel
theorem dX5_init_20 : decode cX5_init 20 = .ok (.aload_n 0, 1) := by decide +kernel
theorem dX5_init_21 : decode cX5_init 21 = .ok (.bipush 6, 2) := by decide +kernel
theorem dX5_init_23 : decode cX5_init 23 = .ok (.newarray .boolean, 2) := by decide +kernel
theorem dX5_init_25 : decode cX5_init 25 = .ok (.putfield 18, 3) := by decide +kernel
theorem dX5_init_28 : decode cX5_init 28 = .ok (.return_, 1) := by decide +kernel
theorem dX5_add_0 : decode cX5_add 0 = .ok (.aload_n 0, 1) := by decide +kernel
theorem dX5_add_1 : decode cX5_add 1 = .ok (.getfield 22, 3) := by decide +kernel
theorem dX5_add_4 : decode cX5_add 4 = .ok (.bipush 6, 2) := by decide +kernel
theorem dX5_add_6 : decode cX5_add 6 = .ok (.if_icmp .lt 5, 3) := by decide +kernel
theorem dX5_add_9 : decode cX5_add 9 = .ok (.iconst 0, 1) := by decide +kernel
theorem dX5_add_10 : decode cX5_add 10 = .ok (.ireturn, 1) := by decide +kernel
theorem dX5_add_11 : decode cX5_add 11 = .ok (.aload_n 0, 1) := by decide +kernel
theorem dX5_add_12 : decode cX5_add 12 = .ok (.getfield 11, 3) := by decide +kernel
theorem dX5_add_15 : decode cX5_add 15 = .ok (.aload_n 0, 1) := by decide +kernel
theorem dX5_add_16 : decode cX5_add 16 = .ok (.getfield 22, 3) := by decide +kernel
theorem dX5_add_19 : decode cX5_add 19 = .ok (.iload_n 1, 1) := by decide +kernel
theorem dX5_add_20 : decode cX5_add 20 = .ok (.iastore, 1) := by decide +kernel
theorem dX5_add_21 : decode cX5_add 21 = .ok (.aload_n 0, 1) := by decide +kernel
theorem dX5_add_22 : decode cX5_add 22 = .ok (.getfield 15, 3) := by decide +kernel
theorem dX5_add_25 : decode cX5_add 25 = .ok (.aload_n 0, 1) := by decide +kernel
theorem dX5_add_26 : decode cX5_add 26 = .ok (.getfield 22, 3) := by decide +kernel
theorem dX5_add_29 : decode cX5_add 29 = .ok (.iload_n 2, 1) := by decide +kernel
theorem dX5_add_30 : decode cX5_add 30 = .ok (.iastore, 1) := by decide +kernel
theorem dX5_add_31 : decode cX5_add 31 = .ok (.aload_n 0, 1) := by decide +kernel
theorem dX5_add_32 : decode cX5_add 32 = .ok (.getfield 18, 3) := by decide +kernel
theorem dX5_add_35 : decode cX5_add 35 = .ok (.aload_n 0, 1) := by decide +kernel
theorem dX5_add_36 : decode cX5_add 36 = .ok (.getfield 22, 3) := by decide +kernel
theorem dX5_add_39 : decode cX5_add 39 = .ok (.iload_n 3, 1) := by decide +kernel
theorem dX5_add_40 : decode cX5_add 40 = .ok (.bastore, 1) := by decide +kernel
theorem dX5_add_41 : decode cX5_add 41 = .ok (.aload_n 0, 1) := by decide +kernel
theorem dX5_add_42 : decode cX5_add 42 = .ok (.dup, 1) := by decide +kernel
theorem dX5_add_43 : decode cX5_add 43 = .ok (.getfield 22, 3) := by decide +kernel
theorem dX5_add_46 : decode cX5_add 46 = .ok (.iconst 1, 1) := by decide +kernel
theorem dX5_add_47 : decode cX5_add 47 = .ok (.iadd, 1) := by decide +kernel
theorem dX5_add_48 : decode cX5_add 48 = .ok (.putfield 22, 3) := by decide +kernel
theorem dX5_add_51 : decode cX5_add 51 = .ok (.iconst 1, 1) := by decide +kernel
theorem dX5_add_52 : decode cX5_add 52 = .ok (.ireturn, 1) := by decide +kernel
theorem dX5_empty_0 : decode cX5_empty 0 = .ok (.aload_n 0, 1) := by decide +kernel
theorem dX5_empty_1 : decode cX5_empty 1 = .ok (.getfield 22, 3) := by decide +kernel
theorem dX5_empty_4 : decode cX5_empty 4 = .ok (.istore_n 1, 1) := by decide +kernel
theorem dX5_empty_5 : decode cX5_empty 5 = .ok (.aload_n 0, 1) := by decide +kernel
theorem dX5_empty_6 : decode cX5_empty 6 = .ok (.iconst 0, 1) := by decide +kernel
theorem dX5_empty_7 : decode cX5_empty 7 = .ok (.putfield 22, 3) := by decide +kernel
theorem dX5_empty_10 : decode cX5_empty 10 = .ok (.iload_n 1, 1) := by decide +kernel
theorem dX5_empty_11 : decode cX5_empty 11 = .ok (.ireturn, 1) := by decide +kernel
theorem dX5_comeTrueIn_0 : decode cX5_comeTrueIn 0 = .ok (.iconst 0, 1) := by decide +kernel
theorem dX5_comeTrueIn_1 : decode cX5_comeTrueIn 1 = .ok (.istore_n 2, 1) := by decide +kernel
theorem dX5_comeTrueIn_2 : decode cX5_comeTrueIn 2 = .ok (.iload_n 2, 1) := by decide +kernel
theorem dX5_comeTrueIn_3 : decode cX5_comeTrueIn 3 = .ok (.bipush 20, 2) := by decide +kernel
theorem dX5_comeTrueIn_5 : decode cX5_comeTrueIn 5 = .ok (.if_icmp .gt 68, 3) := by decide +kernel
theorem dX5_comeTrueIn_8 : decode cX5_comeTrueIn 8 = .ok (.iconst 0, 1) := by decide +kernel
theorem dX5_comeTrueIn_9 : decode cX5_comeTrueIn 9 = .ok (.istore_n 3, 1) := by decide +kernel
theorem dX5_comeTrueIn_10 : decode cX5_comeTrueIn 10 = .ok (.iload_n 3, 1) := by decide +kernel
theorem dX5_comeTrueIn_11 : decode cX5_comeTrueIn 11 = .ok (.aload_n 0, 1) := by decide +kernel
theorem dX5_comeTrueIn_12 : decode cX5_comeTrueIn 12 = .ok (.getfield 22, 3) := by decide +kernel
theorem dX5_comeTrueIn_15 : decode cX5_comeTrueIn 15 = .ok (.if_icmp .ge 46, 3) := by decide +kernel
theorem dX5_comeTrueIn_18 : decode cX5_comeTrueIn 18 = .ok (.iload_n 3, 1) := by decide +kernel
theorem dX5_comeTrueIn_19 : decode cX5_comeTrueIn 19 = .ok (.bipush 6, 2) := by decide +kernel
theorem dX5_comeTrueIn_21 : decode cX5_comeTrueIn 21 = .ok (.if_icmp .ge 40, 3) := by decide +kernel
theorem dX5_comeTrueIn_24 : decode cX5_comeTrueIn 24 = .ok (.aload_n 0, 1) := by decide +kernel
theorem dX5_comeTrueIn_25 : decode cX5_comeTrueIn 25 = .ok (.getfield 11, 3) := by decide +kernel
theorem dX5_comeTrueIn_28 : decode cX5_comeTrueIn 28 = .ok (.iload_n 3, 1) := by decide +kernel
theorem dX5_comeTrueIn_29 : decode cX5_comeTrueIn 29 = .ok (.iaload, 1) := by decide +kernel
theorem dX5_comeTrueIn_30 : decode cX5_comeTrueIn 30 = .ok (.iload_n 2, 1) := by decide +kernel
theorem dX5_comeTrueIn_31 : decode cX5_comeTrueIn 31 = .ok (.if_icmp .ne 24, 3) := by decide +kernel
theorem dX5_comeTrueIn_34 : decode cX5_comeTrueIn 34 = .ok (.aload_n 1, 1) := by decide +kernel
theorem dX5_comeTrueIn_35 : decode cX5_comeTrueIn 35 = .ok (.aload_n 0, 1) := by decide +kernel
theorem dX5_comeTrueIn_36 : decode cX5_comeTrueIn 36 = .ok (.getfield 15, 3) := by decide +kernel
theorem dX5_comeTrueIn_39 : decode cX5_comeTrueIn 39 = .ok (.iload_n 3, 1) := by decide +kernel
theorem dX5_comeTrueIn_40 : decode cX5_comeTrueIn 40 = .ok (.iaload, 1) := by decide +kernel
theorem dX5_comeTrueIn_41 : decode cX5_comeTrueIn 41 = .ok (.invokevirtual 26, 3) := by decide +kernel
theorem dX5_comeTrueIn_44 : decode cX5_comeTrueIn 44 = .ok (.aload_n 0, 1) := by decide +kernel
theorem dX5_comeTrueIn_45 : decode cX5_comeTrueIn 45 = .ok (.getfield 18, 3) := by decide +kernel
theorem dX5_comeTrueIn_48 : decode cX5_comeTrueIn 48 = .ok (.iload_n 3, 1) := by decide +kernel
theorem dX5_comeTrueIn_49 : decode cX5_comeTrueIn 49 = .ok (.baload, 1) := by decide +kernel
theorem dX5_comeTrueIn_50 : decode cX5_comeTrueIn 50 = .ok (.if_icmp .ne 5, 3) := by decide +kernel
theorem dX5_comeTrueIn_53 : decode cX5_comeTrueIn 53 = .ok (.iconst 0, 1) := by decide +kernel
theorem dX5_comeTrueIn_54 : decode cX5_comeTrueIn 54 = .ok (.ireturn, 1) := by decide +kernel
theorem dX5_comeTrueIn_55 : decode cX5_comeTrueIn 55 = .ok (.iinc 3 1, 3) := by decide +kernel
theorem dX5_comeTrueIn_58 : decode cX5_comeTrueIn 58 = .ok (.goto (-48), 3) := by decide +kernel
theorem dX5_comeTrueIn_61 : decode cX5_comeTrueIn 61 = .ok (.aload_n 1, 1) := by decide +kernel
theorem dX5_comeTrueIn_62 : decode cX5_comeTrueIn 62 = .ok (.iconst 1, 1) := by decide +kernel
theorem dX5_comeTrueIn_63 : decode cX5_comeTrueIn 63 = .ok (.invokevirtual 32, 3) := by decide +kernel
theorem dX5_comeTrueIn_66 : decode cX5_comeTrueIn 66 = .ok (.pop, 1) := by decide +kernel
theorem dX5_comeTrueIn_67 : decode cX5_comeTrueIn 67 = .ok (.iinc 2 1, 3) := by decide +kernel
theorem dX5_comeTrueIn_70 : decode cX5_comeTrueIn 70 = .ok (.goto (-68), 3) := by decide +kernel
theorem dX5_comeTrueIn_73 : decode cX5_comeTrueIn 73 = .ok (.iconst 1, 1) := by decide +kernel
theorem dX5_comeTrueIn_74 : decode cX5_comeTrueIn 74 = .ok (.ireturn, 1) := by decide +kernel
theorem dX6_init_0 : decode cX6_init 0 = .ok (.aload_n 0, 1) := by decide +kernel
theorem dX6_init_1 : decode cX6_init 1 = .ok (.invokespecial 3, 3) := by decide +kernel
theorem dX6_init_4 : decode cX6_init 4 = .ok (.aload_n 0, 1) := by decide +kernel
theorem dX6_init_5 : decode cX6_init 5 = .ok (.new 9, 3) := by decide +kernel
theorem dX6_init_8 : decode cX6_init 8 = .ok (.dup, 1) := by decide +kernel
theorem dX6_init_9 : decode cX6_init 9 = .ok (.invokespecial 11, 3) := by decide +kernel
theorem dX6_init_12 : decode cX6_init 12 = .ok (.putfield 12, 3) := by decide +kernel
theorem dX6_init_15 : decode cX6_init 15 = .ok (.aload_n 0, 1) := by decide +kernel
theorem dX6_init_16 : decode cX6_init 16 = .ok (.new 16, 3) := by decide +kernel
theorem dX6_init_19 : decode cX6_init 19 = .ok (.dup, 1) := by decide +kernel
theorem dX6_init_20 : decode cX6_init 20 = .ok (.invokespecial 18, 3) := by decide +kernel
theorem dX6_init_23 : decode cX6_init 23 = .ok (.putfield 19, 3) := by decide +kernel
theorem dX6_init_26 : decode cX6_init 26 = .ok (.aload_n 0, 1) := by decide +kernel
theorem dX6_init_27 : decode cX6_init 27 = .ok (.new 16, 3) := by decide +kernel
theorem dX6_init_30 : decode cX6_init 30 = .ok (.dup, 1) := by decide +kernel
theorem dX6_init_31 : decode cX6_init 31 = .ok (.invokespecial 18, 3) := by decide +kernel
theorem dX6_init_34 : decode cX6_init 34 = .ok (.putfield 23, 3) := by decide +kernel
theorem dX6_init_37 : decode cX6_init 37 = .ok (.aload_n 0, 1) := by decide +kernel
theorem dX6_init_38 : decode cX6_init 38 = .ok (.new 26, 3) := by decide +kernel
theorem dX6_init_41 : decode cX6_init 41 = .ok (.dup, 1) := by decide +kernel
theorem dX6_init_42 : decode cX6_init 42 = .ok (.bipush 8, 2) := by decide +kernel
theorem dX6_init_44 : decode cX6_init 44 = .ok (.invokespecial 28, 3) := by decide +kernel
theorem dX6_init_47 : decode cX6_init 47 = .ok (.putfield 31, 3) := by decide +kernel
theorem dX6_init_50 : decode cX6_init 50 = .ok (.aload_n 0, 1) := by decide +kernel
theorem dX6_init_51 : decode cX6_init 51 = .ok (.new 26, 3) := by decide +kernel
theorem dX6_init_54 : decode cX6_init 54 = .ok (.dup, 1) := by decide +kernel
theorem dX6_init_55 : decode cX6_init 55 = .ok (.iconst 2, 1) := by decide +kernel
theorem dX6_init_56 : decode cX6_init 56 = .ok (.invokespecial 28, 3) := by decide +kernel
theorem dX6_init_59 : decode cX6_init 59 = .ok (.putfield 35, 3) := by decide +kernel
theorem dX6_init_62 : decode cX6_init 62 = .ok (.aload_n 0, 1) := by decide +kernel
theorem dX6_init_63 : decode cX6_init 63 = .ok (.new 38, 3) := by decide +kernel
theorem dX6_init_66 : decode cX6_init 66 = .ok (.dup, 1) := by decide +kernel
theorem dX6_init_67 : decode cX6_init 67 = .ok (.invokespecial 40, 3) := by decide +kernel
theorem dX6_init_70 : decode cX6_init 70 = .ok (.putfield 41, 3) := by decide +kernel
theorem dX6_init_73 : decode cX6_init 73 = .ok (.aload_n 0, 1) := by decide +kernel
theorem dX6_init_74 : decode cX6_init 74 = .ok (.new 45, 3) := by decide +kernel
theorem dX6_init_77 : decode cX6_init 77 = .ok (.dup, 1) := by decide +kernel
theorem dX6_init_78 : decode cX6_init 78 = .ok (.invokespecial 47, 3) := by decide +kernel
theorem dX6_init_81 : decode cX6_init 81 = .ok (.putfield 48, 3) := by decide +kernel
theorem dX6_init_84 : decode cX6_init 84 = .ok (.aload_n 0, 1) := by decide +kernel
theorem dX6_init_85 : decode cX6_init 85 = .ok (.new 52, 3) := by decide +kernel
theorem dX6_init_88 : decode cX6_init 88 = .ok (.dup, 1) := by decide +kernel
theorem dX6_init_89 : decode cX6_init 89 = .ok (.invokespecial 54, 3) := by decide +kernel
theorem dX6_init_92 : decode cX6_init 92 = .ok (.putfield 55, 3) := by decide +kernel
theorem dX6_init_95 : decode cX6_init 95 = .ok (.iconst 0, 1) := by decide +kernel
theorem dX6_init_96 : decode cX6_init 96 = .ok (.istore_n 1, 1) := by decide +kernel
theorem dX6_init_97 : decode cX6_init 97 = .ok (.iload_n 1, 1) := by decide +kernel
theorem dX6_init_98 : decode cX6_init 98 = .ok (.ldc 59, 2) := by decide +kernel
theorem dX6_init_100 : decode cX6_init 100 = .ok (.invokevirtual 61, 3) := by decide +kernel
theorem dX6_init_103 : decode cX6_init 103 = .ok (.if_icmp .ge 23, 3) := by decide +kernel
theorem dX6_init_106 : decode cX6_init 106 = .ok (.aload_n 0, 1) := by decide +kernel
theorem dX6_init_107 : decode cX6_init 107 = .ok (.getfield 12, 3) := by decide +kernel
theorem dX6_init_110 : decode cX6_init 110 = .ok (.ldc 59, 2) := by decide +kernel
theorem dX6_init_112 : decode cX6_init 112 = .ok (.iload_n 1, 1) := by decide +kernel
theorem dX6_init_113 : decode cX6_init 113 = .ok (.invokevirtual 67, 3) := by decide +kernel
theorem dX6_init_116 : decode cX6_init 116 = .ok (.invokevirtual 71, 3) := by decide +kernel
theorem dX6_init_119 : decode cX6_init 119 = .ok (.pop, 1) := by decide +kernel
theorem dX6_init_120 : decode cX6_init 120 = .ok (.iinc 1 1, 3) := by decide +kernel
theorem dX6_init_123 : decode cX6_init 123 = .ok (.goto (-26), 3) := by decide +kernel
theorem dX6_init_126 : decode cX6_init 126 = .ok (.aload_n 0, 1) := by decide +kernel
theorem dX6_init_127 : decode cX6_init 127 = .ok (.getfield 12, 3) := by decide +kernel
theorem dX6_init_130 : decode cX6_init 130 = .ok (.aload_n 0, 1) := by decide +kernel
theorem dX6_init_131 : decode cX6_init 131 = .ok (.getfield 19, 3) := by decide +kernel
theorem dX6_init_134 : decode cX6_init 134 = .ok (.invokevirtual 75, 3) := by decide +kernel
theorem dX6_init_137 : decode cX6_init 137 = .ok (.pop, 1) := by decide +kernel
theorem dX6_init_138 : decode cX6_init 138 = .ok (.aload_n 0, 1) := by decide +kernel
theorem dX6_init_139 : decode cX6_init 139 = .ok (.getfield 12, 3) := by decide +kernel
theorem dX6_init_142 : decode cX6_init 142 = .ok (.invokevirtual 79, 3) := by decide +kernel
theorem dX6_init_145 : decode cX6_init 145 = .ok (.pop, 1) := by decide +kernel
theorem dX6_init_146 : decode cX6_init 146 = .ok (.return_, 1) := by decide +kernel
theorem dX6_write_0 : decode cX6_write 0 = .ok (.iload_n 1, 1) := by decide +kernel
theorem dX6_write_1 : decode cX6_write 1 = .ok (.bipush 32, 2) := by decide +kernel
theorem dX6_write_3 : decode cX6_write 3 = .ok (.if_icmp .lt 9, 3) := by decide +kernel
theorem dX6_write_6 : decode cX6_write 6 = .ok (.iload_n 1, 1) := by decide +kernel
theorem dX6_write_7 : decode cX6_write 7 = .ok (.bipush 126, 2) := by decide +kernel
theorem dX6_write_9 : decode cX6_write 9 = .ok (.if_icmp .le 5, 3) := by decide +kernel
theorem dX6_write_12 : decode cX6_write 12 = .ok (.iconst (-1), 1) := by decide +kernel
theorem dX6_write_13 : decode cX6_write 13 = .ok (.ireturn, 1) := by decide +kernel
theorem dX6_write_14 : decode cX6_write 14 = .ok (.aload_n 0, 1) := by decide +kernel
theorem dX6_write_15 : decode cX6_write 15 = .ok (.getfield 12, 3) := by decide +kernel
theorem dX6_write_18 : decode cX6_write 18 = .ok (.iload_n 1, 1) := by decide +kernel
theorem dX6_write_19 : decode cX6_write 19 = .ok (.invokevirtual 71, 3) := by decide +kernel
theorem dX6_write_22 : decode cX6_write 22 = .ok (.ifCond .eq 13, 3) := by decide +kernel
theorem dX6_write_25 : decode cX6_write 25 = .ok (.aload_n 0, 1) := by decide +kernel
theorem dX6_write_26 : decode cX6_write 26 = .ok (.getfield 12, 3) := by decide +kernel
theorem dX6_write_29 : decode cX6_write 29 = .ok (.getfield 82, 3) := by decide +kernel
theorem dX6_write_32 : decode cX6_write 32 = .ok (.goto 5, 3) := by decide +kernel
theorem dX6_write_35 : decode cX6_write 35 = .ok (.bipush (-3), 2) := by decide +kernel
theorem dX6_write_37 : decode cX6_write 37 = .ok (.ireturn, 1) := by decide +kernel
theorem dX6_wipe_0 : decode cX6_wipe 0 = .ok (.aload_n 0, 1) := by decide +kernel
theorem dX6_wipe_1 : decode cX6_wipe 1 = .ok (.getfield 12, 3) := by decide +kernel
theorem dX6_wipe_4 : decode cX6_wipe 4 = .ok (.invokevirtual 79, 3) := by decide +kernel
theorem dX6_wipe_7 : decode cX6_wipe 7 = .ok (.ireturn, 1) := by decide +kernel
theorem dX6_fault_0 : decode cX6_fault 0 = .ok (.aload_n 0, 1) := by decide +kernel
theorem dX6_fault_1 : decode cX6_fault 1 = .ok (.getfield 12, 3) := by decide +kernel
theorem dX6_fault_4 : decode cX6_fault 4 = .ok (.aload_n 0, 1) := by decide +kernel
theorem dX6_fault_5 : decode cX6_fault 5 = .ok (.getfield 23, 3) := by decide +kernel
theorem dX6_fault_8 : decode cX6_fault 8 = .ok (.invokevirtual 75, 3) := by decide +kernel
theorem dX6_fault_11 : decode cX6_fault 11 = .ok (.ireturn, 1) := by decide +kernel
theorem dX6_lay_0 : decode cX6_lay 0 = .ok (.aload_n 0, 1) := by decide +kernel
theorem dX6_lay_1 : decode cX6_lay 1 = .ok (.getfield 12, 3) := by decide +kernel
theorem dX6_lay_4 : decode cX6_lay 4 = .ok (.aload_n 0, 1) := by decide +kernel
theorem dX6_lay_5 : decode cX6_lay 5 = .ok (.getfield 23, 3) := by decide +kernel
theorem dX6_lay_8 : decode cX6_lay 8 = .ok (.invokevirtual 75, 3) := by decide +kernel
theorem dX6_lay_11 : decode cX6_lay 11 = .ok (.bipush (-4), 2) := by decide +kernel
theorem dX6_lay_13 : decode cX6_lay 13 = .ok (.if_icmp .ne 23, 3) := by decide +kernel
theorem dX6_lay_16 : decode cX6_lay 16 = .ok (.aload_n 0, 1) := by decide +kernel
theorem dX6_lay_17 : decode cX6_lay 17 = .ok (.getfield 23, 3) := by decide +kernel
theorem dX6_lay_20 : decode cX6_lay 20 = .ok (.getfield 85, 3) := by decide +kernel
theorem dX6_lay_23 : decode cX6_lay 23 = .ok (.ifCond .eq 13, 3) := by decide +kernel
theorem dX6_lay_26 : decode cX6_lay 26 = .ok (.aload_n 0, 1) := by decide +kernel
theorem dX6_lay_27 : decode cX6_lay 27 = .ok (.getfield 23, 3) := by decide +kernel
theorem dX6_lay_30 : decode cX6_lay 30 = .ok (.getfield 88, 3) := by decide +kernel
theorem dX6_lay_33 : decode cX6_lay 33 = .ok (.ifCond .ne 6, 3) := by decide +kernel
theorem dX6_lay_36 : decode cX6_lay 36 = .ok (.bipush (-2), 2) := by decide +kernel
theorem dX6_lay_38 : decode cX6_lay 38 = .ok (.ireturn, 1) := by decide +kernel
theorem dX6_lay_39 : decode cX6_lay 39 = .ok (.aload_n 0, 1) := by decide +kernel
theorem dX6_lay_40 : decode cX6_lay 40 = .ok (.getfield 19, 3) := by decide +kernel
theorem dX6_lay_43 : decode cX6_lay 43 = .ok (.aload_n 0, 1) := by decide +kernel
theorem dX6_lay_44 : decode cX6_lay 44 = .ok (.getfield 23, 3) := by decide +kernel
theorem dX6_lay_47 : decode cX6_lay 47 = .ok (.invokevirtual 91, 3) := by decide +kernel
theorem dX6_lay_50 : decode cX6_lay 50 = .ok (.aload_n 0, 1) := by decide +kernel
theorem dX6_lay_51 : decode cX6_lay 51 = .ok (.getfield 31, 3) := by decide +kernel
theorem dX6_lay_54 : decode cX6_lay 54 = .ok (.invokevirtual 95, 3) := by decide +kernel
theorem dX6_lay_57 : decode cX6_lay 57 = .ok (.aload_n 0, 1) := by decide +kernel
theorem dX6_lay_58 : decode cX6_lay 58 = .ok (.getfield 35, 3) := by decide +kernel
theorem dX6_lay_61 : decode cX6_lay 61 = .ok (.invokevirtual 95, 3) := by decide +kernel
theorem dX6_lay_64 : decode cX6_lay 64 = .ok (.aload_n 0, 1) := by decide +kernel
theorem dX6_lay_65 : decode cX6_lay 65 = .ok (.getfield 41, 3) := by decide +kernel
theorem dX6_lay_68 : decode cX6_lay 68 = .ok (.invokevirtual 97, 3) := by decide +kernel
theorem dX6_lay_71 : decode cX6_lay 71 = .ok (.pop, 1) := by decide +kernel
theorem dX6_lay_72 : decode cX6_lay 72 = .ok (.aload_n 0, 1) := by decide +kernel
theorem dX6_lay_73 : decode cX6_lay 73 = .ok (.getfield 19, 3) := by decide +kernel
theorem dX6_lay_76 : decode cX6_lay 76 = .ok (.getfield 88, 3) := by decide +kernel
theorem dX6_lay_79 : decode cX6_lay 79 = .ok (.ireturn, 1) := by decide +kernel
theorem dX6_plot_0 : decode cX6_plot 0 = .ok (.aload_n 0, 1) := by decide +kernel
theorem dX6_plot_1 : decode cX6_plot 1 = .ok (.getfield 19, 3) := by decide +kernel
theorem dX6_plot_4 : decode cX6_plot 4 = .ok (.iload_n 1, 1) := by decide +kernel
theorem dX6_plot_5 : decode cX6_plot 5 = .ok (.invokevirtual 98, 3) := by decide +kernel
theorem dX6_plot_8 : decode cX6_plot 8 = .ok (.ifCond .ne 5, 3) := by decide +kernel
theorem dX6_plot_11 : decode cX6_plot 11 = .ok (.iconst (-1), 1) := by decide +kernel
theorem dX6_plot_12 : decode cX6_plot 12 = .ok (.ireturn, 1) := by decide +kernel
theorem dX6_plot_13 : decode cX6_plot 13 = .ok (.iload_n 2, 1) := by decide +kernel
theorem dX6_plot_14 : decode cX6_plot 14 = .ok (.tableswitch 66 0 3 #[30, 39, 48, 57], 30) := by decide +kernel
theorem dX6_plot_44 : decode cX6_plot 44 = .ok (.aload_n 0, 1) := by decide +kernel
theorem dX6_plot_45 : decode cX6_plot 45 = .ok (.getfield 19, 3) := by decide +kernel
theorem dX6_plot_48 : decode cX6_plot 48 = .ok (.iload_n 1, 1) := by decide +kernel
theorem dX6_plot_49 : decode cX6_plot 49 = .ok (.invokevirtual 101, 3) := by decide +kernel
theorem dX6_plot_52 : decode cX6_plot 52 = .ok (.ireturn, 1) := by decide +kernel
theorem dX6_plot_53 : decode cX6_plot 53 = .ok (.aload_n 0, 1) := by decide +kernel
theorem dX6_plot_54 : decode cX6_plot 54 = .ok (.getfield 19, 3) := by decide +kernel
theorem dX6_plot_57 : decode cX6_plot 57 = .ok (.iload_n 1, 1) := by decide +kernel
theorem dX6_plot_58 : decode cX6_plot 58 = .ok (.invokevirtual 105, 3) := by decide +kernel
theorem dX6_plot_61 : decode cX6_plot 61 = .ok (.ireturn, 1) := by decide +kernel
theorem dX6_plot_62 : decode cX6_plot 62 = .ok (.aload_n 0, 1) := by decide +kernel
theorem dX6_plot_63 : decode cX6_plot 63 = .ok (.getfield 19, 3) := by decide +kernel
theorem dX6_plot_66 : decode cX6_plot 66 = .ok (.iload_n 1, 1) := by decide +kernel
theorem dX6_plot_67 : decode cX6_plot 67 = .ok (.invokevirtual 108, 3) := by decide +kernel
theorem dX6_plot_70 : decode cX6_plot 70 = .ok (.ireturn, 1) := by decide +kernel
theorem dX6_plot_71 : decode cX6_plot 71 = .ok (.aload_n 0, 1) := by decide +kernel
theorem dX6_plot_72 : decode cX6_plot 72 = .ok (.getfield 19, 3) := by decide +kernel
theorem dX6_plot_75 : decode cX6_plot 75 = .ok (.iload_n 1, 1) := by decide +kernel
theorem dX6_plot_76 : decode cX6_plot 76 = .ok (.invokevirtual 111, 3) := by decide +kernel
theorem dX6_plot_79 : decode cX6_plot 79 = .ok (.ireturn, 1) := by decide +kernel
theorem dX6_plot_80 : decode cX6_plot 80 = .ok (.iconst (-1), 1) := by decide +kernel
theorem dX6_plot_81 : decode cX6_plot 81 = .ok (.ireturn, 1) := by decide +kernel
theorem dX6_hour_0 : decode cX6_hour 0 = .ok (.aload_n 0, 1) := by decide +kernel
theorem dX6_hour_1 : decode cX6_hour 1 = .ok (.getfield 19, 3) := by decide +kernel
theorem dX6_hour_4 : decode cX6_hour 4 = .ok (.iload_n 1, 1) := by decide +kernel
theorem dX6_hour_5 : decode cX6_hour 5 = .ok (.invokevirtual 114, 3) := by decide +kernel
theorem dX6_hour_8 : decode cX6_hour 8 = .ok (.ifCond .ne 5, 3) := by decide +kernel
theorem dX6_hour_11 : decode cX6_hour 11 = .ok (.iconst (-1), 1) := by decide +kernel
theorem dX6_hour_12 : decode cX6_hour 12 = .ok (.ireturn, 1) := by decide +kernel
theorem dX6_hour_13 : decode cX6_hour 13 = .ok (.iload_n 2, 1) := by decide +kernel
theorem dX6_hour_14 : decode cX6_hour 14 = .ok (.tableswitch 111 0 4 #[34, 43, 52, 61, 86], 34) := by decide +kernel
theorem dX6_hour_48 : decode cX6_hour 48 = .ok (.aload_n 0, 1) := by decide +kernel
theorem dX6_hour_49 : decode cX6_hour 49 = .ok (.getfield 19, 3) := by decide +kernel
theorem dX6_hour_52 : decode cX6_hour 52 = .ok (.iload_n 1, 1) := by decide +kernel
theorem dX6_hour_53 : decode cX6_hour 53 = .ok (.invokevirtual 117, 3) := by decide +kernel
theorem dX6_hour_56 : decode cX6_hour 56 = .ok (.ireturn, 1) := by decide +kernel
theorem dX6_hour_57 : decode cX6_hour 57 = .ok (.aload_n 0, 1) := by decide +kernel
theorem dX6_hour_58 : decode cX6_hour 58 = .ok (.getfield 19, 3) := by decide +kernel
theorem dX6_hour_61 : decode cX6_hour 61 = .ok (.iload_n 1, 1) := by decide +kernel
theorem dX6_hour_62 : decode cX6_hour 62 = .ok (.invokevirtual 120, 3) := by decide +kernel
theorem dX6_hour_65 : decode cX6_hour 65 = .ok (.ireturn, 1) := by decide +kernel
theorem dX6_hour_66 : decode cX6_hour 66 = .ok (.aload_n 0, 1) := by decide +kernel
theorem dX6_hour_67 : decode cX6_hour 67 = .ok (.getfield 19, 3) := by decide +kernel
theorem dX6_hour_70 : decode cX6_hour 70 = .ok (.iload_n 1, 1) := by decide +kernel
theorem dX6_hour_71 : decode cX6_hour 71 = .ok (.invokevirtual 123, 3) := by decide +kernel
theorem dX6_hour_74 : decode cX6_hour 74 = .ok (.ireturn, 1) := by decide +kernel
theorem dX6_hour_75 : decode cX6_hour 75 = .ok (.aload_n 0, 1) := by decide +kernel
theorem dX6_hour_76 : decode cX6_hour 76 = .ok (.getfield 19, 3) := by decide +kernel
theorem dX6_hour_79 : decode cX6_hour 79 = .ok (.iload_n 1, 1) := by decide +kernel
theorem dX6_hour_80 : decode cX6_hour 80 = .ok (.invokevirtual 126, 3) := by decide +kernel
theorem dX6_hour_83 : decode cX6_hour 83 = .ok (.ifCond .eq 14, 3) := by decide +kernel
theorem dX6_hour_86 : decode cX6_hour 86 = .ok (.aload_n 0, 1) := by decide +kernel
theorem dX6_hour_87 : decode cX6_hour 87 = .ok (.getfield 19, 3) := by decide +kernel
theorem dX6_hour_90 : decode cX6_hour 90 = .ok (.iload_n 1, 1) := by decide +kernel
theorem dX6_hour_91 : decode cX6_hour 91 = .ok (.invokevirtual 129, 3) := by decide +kernel
theorem dX6_hour_94 : decode cX6_hour 94 = .ok (.goto 5, 3) := by decide +kernel
theorem dX6_hour_97 : decode cX6_hour 97 = .ok (.bipush (-4), 2) := by decide +kernel
theorem dX6_hour_99 : decode cX6_hour 99 = .ok (.ireturn, 1) := by decide +kernel
theorem dX6_hour_100 : decode cX6_hour 100 = .ok (.aload_n 0, 1) := by decide +kernel
theorem dX6_hour_101 : decode cX6_hour 101 = .ok (.getfield 19, 3) := by decide +kernel
theorem dX6_hour_104 : decode cX6_hour 104 = .ok (.iload_n 1, 1) := by decide +kernel
theorem dX6_hour_105 : decode cX6_hour 105 = .ok (.invokevirtual 126, 3) := by decide +kernel
theorem dX6_hour_108 : decode cX6_hour 108 = .ok (.ifCond .eq 14, 3) := by decide +kernel
theorem dX6_hour_111 : decode cX6_hour 111 = .ok (.aload_n 0, 1) := by decide +kernel
theorem dX6_hour_112 : decode cX6_hour 112 = .ok (.getfield 19, 3) := by decide +kernel
theorem dX6_hour_115 : decode cX6_hour 115 = .ok (.iload_n 1, 1) := by decide +kernel
theorem dX6_hour_116 : decode cX6_hour 116 = .ok (.invokevirtual 132, 3) := by decide +kernel
theorem dX6_hour_119 : decode cX6_hour 119 = .ok (.goto 5, 3) := by decide +kernel
theorem dX6_hour_122 : decode cX6_hour 122 = .ok (.bipush (-4), 2) := by decide +kernel
theorem dX6_hour_124 : decode cX6_hour 124 = .ok (.ireturn, 1) := by decide +kernel
theorem dX6_hour_125 : decode cX6_hour 125 = .ok (.iconst (-1), 1) := by decide +kernel
theorem dX6_hour_126 : decode cX6_hour 126 = .ok (.ireturn, 1) := by decide +kernel
theorem dX6_fits_0 : decode cX6_fits 0 = .ok (.aload_n 0, 1) := by decide +kernel
theorem dX6_fits_1 : decode cX6_fits 1 = .ok (.getfield 19, 3) := by decide +kernel
theorem dX6_fits_4 : decode cX6_fits 4 = .ok (.iload_n 1, 1) := by decide +kernel
theorem dX6_fits_5 : decode cX6_fits 5 = .ok (.invokevirtual 114, 3) := by decide +kernel
theorem dX6_fits_8 : decode cX6_fits 8 = .ok (.ifCond .eq 14, 3) := by decide +kernel
theorem dX6_fits_11 : decode cX6_fits 11 = .ok (.aload_n 0, 1) := by decide +kernel
theorem dX6_fits_12 : decode cX6_fits 12 = .ok (.getfield 19, 3) := by decide +kernel
theorem dX6_fits_15 : decode cX6_fits 15 = .ok (.iload_n 2, 1) := by decide +kernel
theorem dX6_fits_16 : decode cX6_fits 16 = .ok (.invokevirtual 98, 3) := by decide +kernel
theorem dX6_fits_19 : decode cX6_fits 19 = .ok (.ifCond .ne 5, 3) := by decide +kernel
theorem dX6_fits_22 : decode cX6_fits 22 = .ok (.iconst (-1), 1) := by decide +kernel
theorem dX6_fits_23 : decode cX6_fits 23 = .ok (.ireturn, 1) := by decide +kernel
theorem dX6_fits_24 : decode cX6_fits 24 = .ok (.aload_n 0, 1) := by decide +kernel
theorem dX6_fits_25 : decode cX6_fits 25 = .ok (.getfield 19, 3) := by decide +kernel
theorem dX6_fits_28 : decode cX6_fits 28 = .ok (.iload_n 1, 1) := by decide +kernel
theorem dX6_fits_29 : decode cX6_fits 29 = .ok (.iload_n 2, 1) := by decide +kernel
theorem dX6_fits_30 : decode cX6_fits 30 = .ok (.invokevirtual 135, 3) := by decide +kernel
theorem dX6_fits_33 : decode cX6_fits 33 = .ok (.ifCond .eq 7, 3) := by decide +kernel
theorem dX6_fits_36 : decode cX6_fits 36 = .ok (.iconst 1, 1) := by decide +kernel
theorem dX6_fits_37 : decode cX6_fits 37 = .ok (.goto 4, 3) := by decide +kernel
theorem dX6_fits_40 : decode cX6_fits 40 = .ok (.iconst 0, 1) := by decide +kernel
theorem dX6_fits_41 : decode cX6_fits 41 = .ok (.ireturn, 1) := by decide +kernel
theorem dX6_pass_0 : decode cX6_pass 0 = .ok (.iload_n 1, 1) := by decide +kernel
theorem dX6_pass_1 : decode cX6_pass 1 = .ok (.iconst 1, 1) := by decide +kernel
theorem dX6_pass_2 : decode cX6_pass 2 = .ok (.bipush 20, 2) := by decide +kernel
theorem dX6_pass_4 : decode cX6_pass 4 = .ok (.invokestatic 139, 3) := by decide +kernel
theorem dX6_pass_7 : decode cX6_pass 7 = .ok (.ifCond .ne 5, 3) := by decide +kernel
theorem dX6_pass_10 : decode cX6_pass 10 = .ok (.iconst (-1), 1) := by decide +kernel
theorem dX6_pass_11 : decode cX6_pass 11 = .ok (.ireturn, 1) := by decide +kernel
theorem dX6_pass_12 : decode cX6_pass 12 = .ok (.aload_n 0, 1) := by decide +kernel
theorem dX6_pass_13 : decode cX6_pass 13 = .ok (.getfield 19, 3) := by decide +kernel
theorem dX6_pass_16 : decode cX6_pass 16 = .ok (.getfield 143, 3) := by decide +kernel
theorem dX6_pass_19 : decode cX6_pass 19 = .ok (.iload_n 1, 1) := by decide +kernel
theorem dX6_pass_20 : decode cX6_pass 20 = .ok (.iadd, 1) := by decide +kernel
theorem dX6_pass_21 : decode cX6_pass 21 = .ok (.sipush 999, 3) := by decide +kernel
theorem dX6_pass_24 : decode cX6_pass 24 = .ok (.if_icmp .le 6, 3) := by decide +kernel
theorem dX6_pass_27 : decode cX6_pass 27 = .ok (.bipush (-2), 2) := by decide +kernel
theorem dX6_pass_29 : decode cX6_pass 29 = .ok (.ireturn, 1) := by decide +kernel
theorem dX6_pass_30 : decode cX6_pass 30 = .ok (.aload_n 0, 1) := by decide +kernel
theorem dX6_pass_31 : decode cX6_pass 31 = .ok (.getfield 31, 3) := by decide +kernel
theorem dX6_pass_34 : decode cX6_pass 34 = .ok (.aload_n 0, 1) := by decide +kernel
theorem dX6_pass_35 : decode cX6_pass 35 = .ok (.getfield 19, 3) := by decide +kernel
theorem dX6_pass_38 : decode cX6_pass 38 = .ok (.invokevirtual 146, 3) := by decide +kernel
theorem dX6_pass_41 : decode cX6_pass 41 = .ok (.aload_n 0, 1) := by decide +kernel
theorem dX6_pass_42 : decode cX6_pass 42 = .ok (.getfield 19, 3) := by decide +kernel
theorem dX6_pass_45 : decode cX6_pass 45 = .ok (.iload_n 1, 1) := by decide +kernel
theorem dX6_pass_46 : decode cX6_pass 46 = .ok (.invokevirtual 149, 3) := by decide +kernel
theorem dX6_pass_49 : decode cX6_pass 49 = .ok (.ireturn, 1) := by decide +kernel
theorem dX6_put_0 : decode cX6_put 0 = .ok (.aload_n 0, 1) := by decide +kernel
theorem dX6_put_1 : decode cX6_put 1 = .ok (.getfield 19, 3) := by decide +kernel
theorem dX6_put_4 : decode cX6_put 4 = .ok (.iload_n 1, 1) := by decide +kernel
theorem dX6_put_5 : decode cX6_put 5 = .ok (.invokevirtual 114, 3) := by decide +kernel
theorem dX6_put_8 : decode cX6_put 8 = .ok (.ifCond .eq 14, 3) := by decide +kernel
theorem dX6_put_11 : decode cX6_put 11 = .ok (.aload_n 0, 1) := by decide +kernel
theorem dX6_put_12 : decode cX6_put 12 = .ok (.getfield 19, 3) := by decide +kernel
theorem dX6_put_15 : decode cX6_put 15 = .ok (.iload_n 2, 1) := by decide +kernel
theorem dX6_put_16 : decode cX6_put 16 = .ok (.invokevirtual 98, 3) := by decide +kernel
theorem dX6_put_19 : decode cX6_put 19 = .ok (.ifCond .ne 5, 3) := by decide +kernel
theorem dX6_put_22 : decode cX6_put 22 = .ok (.iconst (-1), 1) := by decide +kernel
theorem dX6_put_23 : decode cX6_put 23 = .ok (.ireturn, 1) := by decide +kernel
theorem dX6_put_24 : decode cX6_put 24 = .ok (.aload_n 0, 1) := by decide +kernel
theorem dX6_put_25 : decode cX6_put 25 = .ok (.getfield 19, 3) := by decide +kernel
theorem dX6_put_28 : decode cX6_put 28 = .ok (.iload_n 1, 1) := by decide +kernel
theorem dX6_put_29 : decode cX6_put 29 = .ok (.iload_n 2, 1) := by decide +kernel
theorem dX6_put_30 : decode cX6_put 30 = .ok (.invokevirtual 152, 3) := by decide +kernel
theorem dX6_put_33 : decode cX6_put 33 = .ok (.ifCond .ne 6, 3) := by decide +kernel
theorem dX6_put_36 : decode cX6_put 36 = .ok (.bipush (-2), 2) := by decide +kernel
theorem dX6_put_38 : decode cX6_put 38 = .ok (.ireturn, 1) := by decide +kernel
theorem dX6_put_39 : decode cX6_put 39 = .ok (.aload_n 0, 1) := by decide +kernel
theorem dX6_put_40 : decode cX6_put 40 = .ok (.getfield 31, 3) := by decide +kernel
theorem dX6_put_43 : decode cX6_put 43 = .ok (.aload_n 0, 1) := by decide +kernel
theorem dX6_put_44 : decode cX6_put 44 = .ok (.getfield 19, 3) := by decide +kernel
theorem dX6_put_47 : decode cX6_put 47 = .ok (.invokevirtual 146, 3) := by decide +kernel
theorem dX6_put_50 : decode cX6_put 50 = .ok (.aload_n 0, 1) := by decide +kernel
theorem dX6_put_51 : decode cX6_put 51 = .ok (.getfield 19, 3) := by decide +kernel
theorem dX6_put_54 : decode cX6_put 54 = .ok (.iload_n 1, 1) := by decide +kernel
theorem dX6_put_55 : decode cX6_put 55 = .ok (.iload_n 2, 1) := by decide +kernel
theorem dX6_put_56 : decode cX6_put 56 = .ok (.invokevirtual 155, 3) := by decide +kernel
theorem dX6_put_59 : decode cX6_put 59 = .ok (.aload_n 0, 1) := by decide +kernel
theorem dX6_put_60 : decode cX6_put 60 = .ok (.getfield 19, 3) := by decide +kernel
theorem dX6_put_63 : decode cX6_put 63 = .ok (.iload_n 2, 1) := by decide +kernel
theorem dX6_put_64 : decode cX6_put 64 = .ok (.invokevirtual 105, 3) := by decide +kernel
theorem dX6_put_67 : decode cX6_put 67 = .ok (.ireturn, 1) := by decide +kernel
theorem dX6_up_0 : decode cX6_up 0 = .ok (.aload_n 0, 1) := by decide +kernel
theorem dX6_up_1 : decode cX6_up 1 = .ok (.getfield 19, 3) := by decide +kernel
theorem dX6_up_4 : decode cX6_up 4 = .ok (.iload_n 1, 1) := by decide +kernel
theorem dX6_up_5 : decode cX6_up 5 = .ok (.invokevirtual 114, 3) := by decide +kernel
theorem dX6_up_8 : decode cX6_up 8 = .ok (.ifCond .ne 5, 3) := by decide +kernel
theorem dX6_up_11 : decode cX6_up 11 = .ok (.iconst (-1), 1) := by decide +kernel
theorem dX6_up_12 : decode cX6_up 12 = .ok (.ireturn, 1) := by decide +kernel
theorem dX6_up_13 : decode cX6_up 13 = .ok (.aload_n 0, 1) := by decide +kernel
theorem dX6_up_14 : decode cX6_up 14 = .ok (.getfield 19, 3) := by decide +kernel
theorem dX6_up_17 : decode cX6_up 17 = .ok (.iload_n 1, 1) := by decide +kernel
theorem dX6_up_18 : decode cX6_up 18 = .ok (.invokevirtual 126, 3) := by decide +kernel
theorem dX6_up_21 : decode cX6_up 21 = .ok (.ifCond .ne 6, 3) := by decide +kernel
theorem dX6_up_24 : decode cX6_up 24 = .ok (.bipush (-2), 2) := by decide +kernel
theorem dX6_up_26 : decode cX6_up 26 = .ok (.ireturn, 1) := by decide +kernel
theorem dX6_up_27 : decode cX6_up 27 = .ok (.aload_n 0, 1) := by decide +kernel
theorem dX6_up_28 : decode cX6_up 28 = .ok (.getfield 31, 3) := by decide +kernel
theorem dX6_up_31 : decode cX6_up 31 = .ok (.aload_n 0, 1) := by decide +kernel
theorem dX6_up_32 : decode cX6_up 32 = .ok (.getfield 19, 3) := by decide +kernel
theorem dX6_up_35 : decode cX6_up 35 = .ok (.invokevirtual 146, 3) := by decide +kernel
theorem dX6_up_38 : decode cX6_up 38 = .ok (.aload_n 0, 1) := by decide +kernel
theorem dX6_up_39 : decode cX6_up 39 = .ok (.getfield 19, 3) := by decide +kernel
theorem dX6_up_42 : decode cX6_up 42 = .ok (.iload_n 1, 1) := by decide +kernel
theorem dX6_up_43 : decode cX6_up 43 = .ok (.invokevirtual 159, 3) := by decide +kernel
theorem dX6_up_46 : decode cX6_up 46 = .ok (.ireturn, 1) := by decide +kernel
theorem dX6_dig_0 : decode cX6_dig 0 = .ok (.aload_n 0, 1) := by decide +kernel
theorem dX6_dig_1 : decode cX6_dig 1 = .ok (.getfield 19, 3) := by decide +kernel
theorem dX6_dig_4 : decode cX6_dig 4 = .ok (.iload_n 1, 1) := by decide +kernel
theorem dX6_dig_5 : decode cX6_dig 5 = .ok (.invokevirtual 98, 3) := by decide +kernel
theorem dX6_dig_8 : decode cX6_dig 8 = .ok (.ifCond .ne 5, 3) := by decide +kernel
theorem dX6_dig_11 : decode cX6_dig 11 = .ok (.iconst (-1), 1) := by decide +kernel
theorem dX6_dig_12 : decode cX6_dig 12 = .ok (.ireturn, 1) := by decide +kernel
theorem dX6_dig_13 : decode cX6_dig 13 = .ok (.aload_n 0, 1) := by decide +kernel
theorem dX6_dig_14 : decode cX6_dig 14 = .ok (.getfield 19, 3) := by decide +kernel
theorem dX6_dig_17 : decode cX6_dig 17 = .ok (.iload_n 1, 1) := by decide +kernel
theorem dX6_dig_18 : decode cX6_dig 18 = .ok (.invokevirtual 101, 3) := by decide +kernel
theorem dX6_dig_21 : decode cX6_dig 21 = .ok (.bipush 9, 2) := by decide +kernel
theorem dX6_dig_23 : decode cX6_dig 23 = .ok (.if_icmp .lt 6, 3) := by decide +kernel
theorem dX6_dig_26 : decode cX6_dig 26 = .ok (.bipush (-2), 2) := by decide +kernel
theorem dX6_dig_28 : decode cX6_dig 28 = .ok (.ireturn, 1) := by decide +kernel
theorem dX6_dig_29 : decode cX6_dig 29 = .ok (.aload_n 0, 1) := by decide +kernel
theorem dX6_dig_30 : decode cX6_dig 30 = .ok (.getfield 31, 3) := by decide +kernel
theorem dX6_dig_33 : decode cX6_dig 33 = .ok (.aload_n 0, 1) := by decide +kernel
theorem dX6_dig_34 : decode cX6_dig 34 = .ok (.getfield 19, 3) := by decide +kernel
theorem dX6_dig_37 : decode cX6_dig 37 = .ok (.invokevirtual 146, 3) := by decide +kernel
theorem dX6_dig_40 : decode cX6_dig 40 = .ok (.aload_n 0, 1) := by decide +kernel
theorem dX6_dig_41 : decode cX6_dig 41 = .ok (.getfield 19, 3) := by decide +kernel
theorem dX6_dig_44 : decode cX6_dig 44 = .ok (.iload_n 1, 1) := by decide +kernel
theorem dX6_dig_45 : decode cX6_dig 45 = .ok (.invokevirtual 162, 3) := by decide +kernel
theorem dX6_dig_48 : decode cX6_dig 48 = .ok (.aload_n 0, 1) := by decide +kernel
theorem dX6_dig_49 : decode cX6_dig 49 = .ok (.getfield 19, 3) := by decide +kernel
theorem dX6_dig_52 : decode cX6_dig 52 = .ok (.iload_n 1, 1) := by decide +kernel
theorem dX6_dig_53 : decode cX6_dig 53 = .ok (.invokevirtual 101, 3) := by decide +kernel
theorem dX6_dig_56 : decode cX6_dig 56 = .ok (.ireturn, 1) := by decide +kernel
theorem dX6_undo_0 : decode cX6_undo 0 = .ok (.aload_n 0, 1) := by decide +kernel
theorem dX6_undo_1 : decode cX6_undo 1 = .ok (.getfield 31, 3) := by decide +kernel
theorem dX6_undo_4 : decode cX6_undo 4 = .ok (.aload_n 0, 1) := by decide +kernel
theorem dX6_undo_5 : decode cX6_undo 5 = .ok (.getfield 19, 3) := by decide +kernel
theorem dX6_undo_8 : decode cX6_undo 8 = .ok (.invokevirtual 165, 3) := by decide +kernel
theorem dX6_undo_11 : decode cX6_undo 11 = .ok (.ifCond .eq 13, 3) := by decide +kernel
theorem dX6_undo_14 : decode cX6_undo 14 = .ok (.aload_n 0, 1) := by decide +kernel
theorem dX6_undo_15 : decode cX6_undo 15 = .ok (.getfield 31, 3) := by decide +kernel
theorem dX6_undo_18 : decode cX6_undo 18 = .ok (.getfield 169, 3) := by decide +kernel
theorem dX6_undo_21 : decode cX6_undo 21 = .ok (.goto 5, 3) := by decide +kernel
theorem dX6_undo_24 : decode cX6_undo 24 = .ok (.bipush (-2), 2) := by decide +kernel
theorem dX6_undo_26 : decode cX6_undo 26 = .ok (.ireturn, 1) := by decide +kernel
theorem dX6_out_0 : decode cX6_out 0 = .ok (.aload_n 0, 1) := by decide +kernel
theorem dX6_out_1 : decode cX6_out 1 = .ok (.getfield 19, 3) := by decide +kernel
theorem dX6_out_4 : decode cX6_out 4 = .ok (.iload_n 1, 1) := by decide +kernel
theorem dX6_out_5 : decode cX6_out 5 = .ok (.invokevirtual 114, 3) := by decide +kernel
theorem dX6_out_8 : decode cX6_out 8 = .ok (.ifCond .ne 5, 3) := by decide +kernel
theorem dX6_out_11 : decode cX6_out 11 = .ok (.iconst (-1), 1) := by decide +kernel
theorem dX6_out_12 : decode cX6_out 12 = .ok (.ireturn, 1) := by decide +kernel
theorem dX6_out_13 : decode cX6_out 13 = .ok (.aload_n 0, 1) := by decide +kernel
theorem dX6_out_14 : decode cX6_out 14 = .ok (.getfield 23, 3) := by decide +kernel
theorem dX6_out_17 : decode cX6_out 17 = .ok (.aload_n 0, 1) := by decide +kernel
theorem dX6_out_18 : decode cX6_out 18 = .ok (.getfield 19, 3) := by decide +kernel
theorem dX6_out_21 : decode cX6_out 21 = .ok (.invokevirtual 91, 3) := by decide +kernel
theorem dX6_out_24 : decode cX6_out 24 = .ok (.iconst 0, 1) := by decide +kernel
theorem dX6_out_25 : decode cX6_out 25 = .ok (.istore_n 2, 1) := by decide +kernel
theorem dX6_out_26 : decode cX6_out 26 = .ok (.iload_n 2, 1) := by decide +kernel
theorem dX6_out_27 : decode cX6_out 27 = .ok (.bipush 60, 2) := by decide +kernel
theorem dX6_out_29 : decode cX6_out 29 = .ok (.if_icmp .gt 31, 3) := by decide +kernel
theorem dX6_out_32 : decode cX6_out 32 = .ok (.aload_n 0, 1) := by decide +kernel
theorem dX6_out_33 : decode cX6_out 33 = .ok (.getfield 23, 3) := by decide +kernel
theorem dX6_out_36 : decode cX6_out 36 = .ok (.iload_n 1, 1) := by decide +kernel
theorem dX6_out_37 : decode cX6_out 37 = .ok (.invokevirtual 126, 3) := by decide +kernel
theorem dX6_out_40 : decode cX6_out 40 = .ok (.ifCond .ne 5, 3) := by decide +kernel
theorem dX6_out_43 : decode cX6_out 43 = .ok (.iload_n 2, 1) := by decide +kernel
theorem dX6_out_44 : decode cX6_out 44 = .ok (.ireturn, 1) := by decide +kernel
theorem dX6_out_45 : decode cX6_out 45 = .ok (.aload_n 0, 1) := by decide +kernel
theorem dX6_out_46 : decode cX6_out 46 = .ok (.getfield 23, 3) := by decide +kernel
theorem dX6_out_49 : decode cX6_out 49 = .ok (.iconst 1, 1) := by decide +kernel
theorem dX6_out_50 : decode cX6_out 50 = .ok (.invokevirtual 149, 3) := by decide +kernel
theorem dX6_out_53 : decode cX6_out 53 = .ok (.pop, 1) := by decide +kernel
theorem dX6_out_54 : decode cX6_out 54 = .ok (.iinc 2 1, 3) := by decide +kernel
theorem dX6_out_57 : decode cX6_out 57 = .ok (.goto (-31), 3) := by decide +kernel
theorem dX6_out_60 : decode cX6_out 60 = .ok (.bipush (-4), 2) := by decide +kernel
theorem dX6_out_62 : decode cX6_out 62 = .ok (.ireturn, 1) := by decide +kernel
theorem dX6_behind_0 : decode cX6_behind 0 = .ok (.iload_n 1, 1) := by decide +kernel
theorem dX6_behind_1 : decode cX6_behind 1 = .ok (.iconst 0, 1) := by decide +kernel
theorem dX6_behind_2 : decode cX6_behind 2 = .ok (.bipush 60, 2) := by decide +kernel
theorem dX6_behind_4 : decode cX6_behind 4 = .ok (.invokestatic 139, 3) := by decide +kernel
theorem dX6_behind_7 : decode cX6_behind 7 = .ok (.ifCond .eq 14, 3) := by decide +kernel
theorem dX6_behind_10 : decode cX6_behind 10 = .ok (.aload_n 0, 1) := by decide +kernel
theorem dX6_behind_11 : decode cX6_behind 11 = .ok (.getfield 19, 3) := by decide +kernel
theorem dX6_behind_14 : decode cX6_behind 14 = .ok (.iload_n 2, 1) := by decide +kernel
theorem dX6_behind_15 : decode cX6_behind 15 = .ok (.invokevirtual 114, 3) := by decide +kernel
theorem dX6_behind_18 : decode cX6_behind 18 = .ok (.ifCond .ne 5, 3) := by decide +kernel
theorem dX6_behind_21 : decode cX6_behind 21 = .ok (.iconst (-1), 1) := by decide +kernel
theorem dX6_behind_22 : decode cX6_behind 22 = .ok (.ireturn, 1) := by decide +kernel
theorem dX6_behind_23 : decode cX6_behind 23 = .ok (.aload_n 0, 1) := by decide +kernel
theorem dX6_behind_24 : decode cX6_behind 24 = .ok (.getfield 23, 3) := by decide +kernel
theorem dX6_behind_27 : decode cX6_behind 27 = .ok (.aload_n 0, 1) := by decide +kernel
theorem dX6_behind_28 : decode cX6_behind 28 = .ok (.getfield 19, 3) := by decide +kernel
theorem dX6_behind_31 : decode cX6_behind 31 = .ok (.invokevirtual 91, 3) := by decide +kernel
theorem dX6_behind_34 : decode cX6_behind 34 = .ok (.aload_n 0, 1) := by decide +kernel
theorem dX6_behind_35 : decode cX6_behind 35 = .ok (.getfield 23, 3) := by decide +kernel
theorem dX6_behind_38 : decode cX6_behind 38 = .ok (.iload_n 1, 1) := by decide +kernel
theorem dX6_behind_39 : decode cX6_behind 39 = .ok (.invokevirtual 149, 3) := by decide +kernel
theorem dX6_behind_42 : decode cX6_behind 42 = .ok (.pop, 1) := by decide +kernel
theorem dX6_behind_43 : decode cX6_behind 43 = .ok (.aload_n 0, 1) := by decide +kernel
theorem dX6_behind_44 : decode cX6_behind 44 = .ok (.getfield 23, 3) := by decide +kernel
theorem dX6_behind_47 : decode cX6_behind 47 = .ok (.iload_n 2, 1) := by decide +kernel
theorem dX6_behind_48 : decode cX6_behind 48 = .ok (.invokevirtual 123, 3) := by decide +kernel
theorem dX6_behind_51 : decode cX6_behind 51 = .ok (.ireturn, 1) := by decide +kernel
theorem dX6_above_0 : decode cX6_above 0 = .ok (.aload_n 0, 1) := by decide +kernel
theorem dX6_above_1 : decode cX6_above 1 = .ok (.getfield 19, 3) := by decide +kernel
theorem dX6_above_4 : decode cX6_above 4 = .ok (.iload_n 1, 1) := by decide +kernel
theorem dX6_above_5 : decode cX6_above 5 = .ok (.invokevirtual 114, 3) := by decide +kernel
theorem dX6_above_8 : decode cX6_above 8 = .ok (.ifCond .eq 14, 3) := by decide +kernel
theorem dX6_above_11 : decode cX6_above 11 = .ok (.aload_n 0, 1) := by decide +kernel
theorem dX6_above_12 : decode cX6_above 12 = .ok (.getfield 19, 3) := by decide +kernel
theorem dX6_above_15 : decode cX6_above 15 = .ok (.iload_n 1, 1) := by decide +kernel
theorem dX6_above_16 : decode cX6_above 16 = .ok (.invokevirtual 172, 3) := by decide +kernel
theorem dX6_above_19 : decode cX6_above 19 = .ok (.goto 4, 3) := by decide +kernel
theorem dX6_above_22 : decode cX6_above 22 = .ok (.iconst (-1), 1) := by decide +kernel
theorem dX6_above_23 : decode cX6_above 23 = .ok (.ireturn, 1) := by decide +kernel
theorem dX6_packs_0 : decode cX6_packs 0 = .ok (.iload_n 1, 1) := by decide +kernel
theorem dX6_packs_1 : decode cX6_packs 1 = .ok (.iconst (-1), 1) := by decide +kernel
theorem dX6_packs_2 : decode cX6_packs 2 = .ok (.if_icmp .eq 16, 3) := by decide +kernel
theorem dX6_packs_5 : decode cX6_packs 5 = .ok (.aload_n 0, 1) := by decide +kernel
theorem dX6_packs_6 : decode cX6_packs 6 = .ok (.getfield 19, 3) := by decide +kernel
theorem dX6_packs_9 : decode cX6_packs 9 = .ok (.iload_n 1, 1) := by decide +kernel
theorem dX6_packs_10 : decode cX6_packs 10 = .ok (.invokevirtual 114, 3) := by decide +kernel
theorem dX6_packs_13 : decode cX6_packs 13 = .ok (.ifCond .ne 5, 3) := by decide +kernel
theorem dX6_packs_16 : decode cX6_packs 16 = .ok (.iconst (-1), 1) := by decide +kernel
theorem dX6_packs_17 : decode cX6_packs 17 = .ok (.ireturn, 1) := by decide +kernel
theorem dX6_packs_18 : decode cX6_packs 18 = .ok (.aload_n 0, 1) := by decide +kernel
theorem dX6_packs_19 : decode cX6_packs 19 = .ok (.getfield 48, 3) := by decide +kernel
theorem dX6_packs_22 : decode cX6_packs 22 = .ok (.aload_n 0, 1) := by decide +kernel
theorem dX6_packs_23 : decode cX6_packs 23 = .ok (.getfield 19, 3) := by decide +kernel
theorem dX6_packs_26 : decode cX6_packs 26 = .ok (.iconst (-1), 1) := by decide +kernel
theorem dX6_packs_27 : decode cX6_packs 27 = .ok (.invokevirtual 175, 3) := by decide +kernel
theorem dX6_packs_30 : decode cX6_packs 30 = .ok (.istore_n 2, 1) := by decide +kernel
theorem dX6_packs_31 : decode cX6_packs 31 = .ok (.iload_n 1, 1) := by decide +kernel
theorem dX6_packs_32 : decode cX6_packs 32 = .ok (.iconst (-1), 1) := by decide +kernel
theorem dX6_packs_33 : decode cX6_packs 33 = .ok (.if_icmp .ne 7, 3) := by decide +kernel
theorem dX6_packs_36 : decode cX6_packs 36 = .ok (.iload_n 2, 1) := by decide +kernel
theorem dX6_packs_37 : decode cX6_packs 37 = .ok (.goto 11, 3) := by decide +kernel
theorem dX6_packs_40 : decode cX6_packs 40 = .ok (.aload_n 0, 1) := by decide +kernel
theorem dX6_packs_41 : decode cX6_packs 41 = .ok (.getfield 48, 3) := by decide +kernel
theorem dX6_packs_44 : decode cX6_packs 44 = .ok (.iload_n 1, 1) := by decide +kernel
theorem dX6_packs_45 : decode cX6_packs 45 = .ok (.invokevirtual 179, 3) := by decide +kernel
theorem dX6_packs_48 : decode cX6_packs 48 = .ok (.ireturn, 1) := by decide +kernel
theorem dX6_stir_0 : decode cX6_stir 0 = .ok (.iload_n 1, 1) := by decide +kernel
theorem dX6_stir_1 : decode cX6_stir 1 = .ok (.ifCond .lt 14, 3) := by decide +kernel
theorem dX6_stir_4 : decode cX6_stir 4 = .ok (.iload_n 1, 1) := by decide +kernel
theorem dX6_stir_5 : decode cX6_stir 5 = .ok (.aload_n 0, 1) := by decide +kernel
theorem dX6_stir_6 : decode cX6_stir 6 = .ok (.getfield 19, 3) := by decide +kernel
theorem dX6_stir_9 : decode cX6_stir 9 = .ok (.invokevirtual 180, 3) := by decide +kernel
theorem dX6_stir_12 : decode cX6_stir 12 = .ok (.if_icmp .lt 5, 3) := by decide +kernel
theorem dX6_stir_15 : decode cX6_stir 15 = .ok (.iconst (-1), 1) := by decide +kernel
theorem dX6_stir_16 : decode cX6_stir 16 = .ok (.ireturn, 1) := by decide +kernel
theorem dX6_stir_17 : decode cX6_stir 17 = .ok (.aload_n 0, 1) := by decide +kernel
theorem dX6_stir_18 : decode cX6_stir 18 = .ok (.getfield 19, 3) := by decide +kernel
theorem dX6_stir_21 : decode cX6_stir 21 = .ok (.iload_n 1, 1) := by decide +kernel
theorem dX6_stir_22 : decode cX6_stir 22 = .ok (.invokevirtual 183, 3) := by decide +kernel
theorem dX6_stir_25 : decode cX6_stir 25 = .ok (.ifCond .eq 14, 3) := by decide +kernel
theorem dX6_stir_28 : decode cX6_stir 28 = .ok (.aload_n 0, 1) := by decide +kernel
theorem dX6_stir_29 : decode cX6_stir 29 = .ok (.getfield 19, 3) := by decide +kernel
theorem dX6_stir_32 : decode cX6_stir 32 = .ok (.iload_n 1, 1) := by decide +kernel
theorem dX6_stir_33 : decode cX6_stir 33 = .ok (.invokevirtual 186, 3) := by decide +kernel
theorem dX6_stir_36 : decode cX6_stir 36 = .ok (.goto 5, 3) := by decide +kernel
theorem dX6_stir_39 : decode cX6_stir 39 = .ok (.bipush (-2), 2) := by decide +kernel
theorem dX6_stir_41 : decode cX6_stir 41 = .ok (.ireturn, 1) := by decide +kernel
theorem dX6_cheap_0 : decode cX6_cheap 0 = .ok (.iload_n 1, 1) := by decide +kernel
theorem dX6_cheap_1 : decode cX6_cheap 1 = .ok (.iconst 1, 1) := by decide +kernel
theorem dX6_cheap_2 : decode cX6_cheap 2 = .ok (.sipush 140, 3) := by decide +kernel
theorem dX6_cheap_5 : decode cX6_cheap 5 = .ok (.invokestatic 139, 3) := by decide +kernel
theorem dX6_cheap_8 : decode cX6_cheap 8 = .ok (.ifCond .eq 12, 3) := by decide +kernel
theorem dX6_cheap_11 : decode cX6_cheap 11 = .ok (.iload_n 2, 1) := by decide +kernel
theorem dX6_cheap_12 : decode cX6_cheap 12 = .ok (.iconst 0, 1) := by decide +kernel
theorem dX6_cheap_13 : decode cX6_cheap 13 = .ok (.iconst 1, 1) := by decide +kernel
theorem dX6_cheap_14 : decode cX6_cheap 14 = .ok (.invokestatic 139, 3) := by decide +kernel
theorem dX6_cheap_17 : decode cX6_cheap 17 = .ok (.ifCond .ne 5, 3) := by decide +kernel
theorem dX6_cheap_20 : decode cX6_cheap 20 = .ok (.iconst (-1), 1) := by decide +kernel
theorem dX6_cheap_21 : decode cX6_cheap 21 = .ok (.ireturn, 1) := by decide +kernel
theorem dX6_cheap_22 : decode cX6_cheap 22 = .ok (.aload_n 0, 1) := by decide +kernel
theorem dX6_cheap_23 : decode cX6_cheap 23 = .ok (.getfield 19, 3) := by decide +kernel
theorem dX6_cheap_26 : decode cX6_cheap 26 = .ok (.iload_n 1, 1) := by decide +kernel
theorem dX6_cheap_27 : decode cX6_cheap 27 = .ok (.invokevirtual 189, 3) := by decide +kernel
theorem dX6_cheap_30 : decode cX6_cheap 30 = .ok (.istore_n 3, 1) := by decide +kernel
theorem dX6_cheap_31 : decode cX6_cheap 31 = .ok (.iload_n 3, 1) := by decide +kernel
theorem dX6_cheap_32 : decode cX6_cheap 32 = .ok (.ifCond .ne 6, 3) := by decide +kernel
theorem dX6_cheap_35 : decode cX6_cheap 35 = .ok (.bipush (-4), 2) := by decide +kernel
theorem dX6_cheap_37 : decode cX6_cheap 37 = .ok (.ireturn, 1) := by decide +kernel
theorem dX6_cheap_38 : decode cX6_cheap 38 = .ok (.iload_n 2, 1) := by decide +kernel
theorem dX6_cheap_39 : decode cX6_cheap 39 = .ok (.ifCond .ne 7, 3) := by decide +kernel
theorem dX6_cheap_42 : decode cX6_cheap 42 = .ok (.iload_n 3, 1) := by decide +kernel
theorem dX6_cheap_43 : decode cX6_cheap 43 = .ok (.goto 11, 3) := by decide +kernel
theorem dX6_cheap_46 : decode cX6_cheap 46 = .ok (.aload_n 0, 1) := by decide +kernel
theorem dX6_cheap_47 : decode cX6_cheap 47 = .ok (.getfield 19, 3) := by decide +kernel
theorem dX6_cheap_50 : decode cX6_cheap 50 = .ok (.iload_n 3, 1) := by decide +kernel
theorem dX6_cheap_51 : decode cX6_cheap 51 = .ok (.invokevirtual 186, 3) := by decide +kernel
theorem dX6_cheap_54 : decode cX6_cheap 54 = .ok (.ireturn, 1) := by decide +kernel
theorem dX6_deeper_0 : decode cX6_deeper 0 = .ok (.iload_n 1, 1) := by decide +kernel
theorem dX6_deeper_1 : decode cX6_deeper 1 = .ok (.iconst 0, 1) := by decide +kernel
theorem dX6_deeper_2 : decode cX6_deeper 2 = .ok (.iconst 1, 1) := by decide +kernel
theorem dX6_deeper_3 : decode cX6_deeper 3 = .ok (.invokestatic 139, 3) := by decide +kernel
theorem dX6_deeper_6 : decode cX6_deeper 6 = .ok (.ifCond .ne 5, 3) := by decide +kernel
theorem dX6_deeper_9 : decode cX6_deeper 9 = .ok (.iconst (-1), 1) := by decide +kernel
theorem dX6_deeper_10 : decode cX6_deeper 10 = .ok (.ireturn, 1) := by decide +kernel
theorem dX6_deeper_11 : decode cX6_deeper 11 = .ok (.bipush (-4), 2) := by decide +kernel
theorem dX6_deeper_13 : decode cX6_deeper 13 = .ok (.istore_n 2, 1) := by decide +kernel
theorem dX6_deeper_14 : decode cX6_deeper 14 = .ok (.iconst (-1), 1) := by decide +kernel
theorem dX6_deeper_15 : decode cX6_deeper 15 = .ok (.istore_n 3, 1) := by decide +kernel
theorem dX6_deeper_16 : decode cX6_deeper 16 = .ok (.iconst 0, 1) := by decide +kernel
theorem dX6_deeper_17 : decode cX6_deeper 17 = .ok (.istore 4, 2) := by decide +kernel
theorem dX6_deeper_19 : decode cX6_deeper 19 = .ok (.iload 4, 2) := by decide +kernel
theorem dX6_deeper_21 : decode cX6_deeper 21 = .ok (.aload_n 0, 1) := by decide +kernel
theorem dX6_deeper_22 : decode cX6_deeper 22 = .ok (.getfield 19, 3) := by decide +kernel
theorem dX6_deeper_25 : decode cX6_deeper 25 = .ok (.getfield 85, 3) := by decide +kernel
theorem dX6_deeper_28 : decode cX6_deeper 28 = .ok (.if_icmp .ge 69, 3) := by decide +kernel
theorem dX6_deeper_31 : decode cX6_deeper 31 = .ok (.aload_n 0, 1) := by decide +kernel
theorem dX6_deeper_32 : decode cX6_deeper 32 = .ok (.getfield 19, 3) := by decide +kernel
theorem dX6_deeper_35 : decode cX6_deeper 35 = .ok (.iload 4, 2) := by decide +kernel
theorem dX6_deeper_37 : decode cX6_deeper 37 = .ok (.invokevirtual 101, 3) := by decide +kernel
theorem dX6_deeper_40 : decode cX6_deeper 40 = .ok (.bipush 9, 2) := by decide +kernel
theorem dX6_deeper_42 : decode cX6_deeper 42 = .ok (.if_icmp .ge 49, 3) := by decide +kernel
theorem dX6_deeper_45 : decode cX6_deeper 45 = .ok (.aload_n 0, 1) := by decide +kernel
theorem dX6_deeper_46 : decode cX6_deeper 46 = .ok (.getfield 23, 3) := by decide +kernel
theorem dX6_deeper_49 : decode cX6_deeper 49 = .ok (.aload_n 0, 1) := by decide +kernel
theorem dX6_deeper_50 : decode cX6_deeper 50 = .ok (.getfield 19, 3) := by decide +kernel
theorem dX6_deeper_53 : decode cX6_deeper 53 = .ok (.invokevirtual 91, 3) := by decide +kernel
theorem dX6_deeper_56 : decode cX6_deeper 56 = .ok (.aload_n 0, 1) := by decide +kernel
theorem dX6_deeper_57 : decode cX6_deeper 57 = .ok (.getfield 23, 3) := by decide +kernel
theorem dX6_deeper_60 : decode cX6_deeper 60 = .ok (.iload 4, 2) := by decide +kernel
theorem dX6_deeper_62 : decode cX6_deeper 62 = .ok (.invokevirtual 162, 3) := by decide +kernel
theorem dX6_deeper_65 : decode cX6_deeper 65 = .ok (.aload_n 0, 1) := by decide +kernel
theorem dX6_deeper_66 : decode cX6_deeper 66 = .ok (.getfield 48, 3) := by decide +kernel
theorem dX6_deeper_69 : decode cX6_deeper 69 = .ok (.aload_n 0, 1) := by decide +kernel
theorem dX6_deeper_70 : decode cX6_deeper 70 = .ok (.getfield 23, 3) := by decide +kernel
theorem dX6_deeper_73 : decode cX6_deeper 73 = .ok (.iload_n 3, 1) := by decide +kernel
theorem dX6_deeper_74 : decode cX6_deeper 74 = .ok (.invokevirtual 175, 3) := by decide +kernel
theorem dX6_deeper_77 : decode cX6_deeper 77 = .ok (.istore 5, 2) := by decide +kernel
theorem dX6_deeper_79 : decode cX6_deeper 79 = .ok (.iload 5, 2) := by decide +kernel
theorem dX6_deeper_81 : decode cX6_deeper 81 = .ok (.iload_n 3, 1) := by decide +kernel
theorem dX6_deeper_82 : decode cX6_deeper 82 = .ok (.if_icmp .le 9, 3) := by decide +kernel
theorem dX6_deeper_85 : decode cX6_deeper 85 = .ok (.iload 5, 2) := by decide +kernel
theorem dX6_deeper_87 : decode cX6_deeper 87 = .ok (.istore_n 3, 1) := by decide +kernel
theorem dX6_deeper_88 : decode cX6_deeper 88 = .ok (.iload 4, 2) := by decide +kernel
theorem dX6_deeper_90 : decode cX6_deeper 90 = .ok (.istore_n 2, 1) := by decide +kernel
theorem dX6_deeper_91 : decode cX6_deeper 91 = .ok (.iinc 4 1, 3) := by decide +kernel
theorem dX6_deeper_94 : decode cX6_deeper 94 = .ok (.goto (-75), 3) := by decide +kernel
theorem dX6_deeper_97 : decode cX6_deeper 97 = .ok (.iload_n 1, 1) := by decide +kernel
theorem dX6_deeper_98 : decode cX6_deeper 98 = .ok (.ifCond .eq 9, 3) := by decide +kernel
theorem dX6_deeper_101 : decode cX6_deeper 101 = .ok (.iload_n 2, 1) := by decide +kernel
theorem dX6_deeper_102 : decode cX6_deeper 102 = .ok (.bipush (-4), 2) := by decide +kernel
theorem dX6_deeper_104 : decode cX6_deeper 104 = .ok (.if_icmp .ne 7, 3) := by decide +kernel
theorem dX6_deeper_107 : decode cX6_deeper 107 = .ok (.iload_n 2, 1) := by decide +kernel
theorem dX6_deeper_108 : decode cX6_deeper 108 = .ok (.goto 4, 3) := by decide +kernel
theorem dX6_deeper_111 : decode cX6_deeper 111 = .ok (.iload_n 3, 1) := by decide +kernel
theorem dX6_deeper_112 : decode cX6_deeper 112 = .ok (.ireturn, 1) := by decide +kernel
theorem dX6_years_0 : decode cX6_years 0 = .ok (.iload_n 1, 1) := by decide +kernel
theorem dX6_years_1 : decode cX6_years 1 = .ok (.iconst 1, 1) := by decide +kernel
theorem dX6_years_2 : decode cX6_years 2 = .ok (.bipush 20, 2) := by decide +kernel
theorem dX6_years_4 : decode cX6_years 4 = .ok (.invokestatic 139, 3) := by decide +kernel
theorem dX6_years_7 : decode cX6_years 7 = .ok (.ifCond .ne 5, 3) := by decide +kernel
theorem dX6_years_10 : decode cX6_years 10 = .ok (.iconst (-1), 1) := by decide +kernel
theorem dX6_years_11 : decode cX6_years 11 = .ok (.ireturn, 1) := by decide +kernel
theorem dX6_years_12 : decode cX6_years 12 = .ok (.aload_n 0, 1) := by decide +kernel
theorem dX6_years_13 : decode cX6_years 13 = .ok (.getfield 23, 3) := by decide +kernel
