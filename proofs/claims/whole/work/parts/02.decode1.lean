theorem dX0_init_0 : decode cX0_init 0 = .ok (.aload_n 0, 1) := by decide +kernel
theorem dX0_init_1 : decode cX0_init 1 = .ok (.invokespecial 3, 3) := by decide +kernel
theorem dX0_init_4 : decode cX0_init 4 = .ok (.aload_n 0, 1) := by decide +kernel
theorem dX0_init_5 : decode cX0_init 5 = .ok (.iconst 5, 1) := by decide +kernel
theorem dX0_init_6 : decode cX0_init 6 = .ok (.newarray .int, 2) := by decide +kernel
theorem dX0_init_8 : decode cX0_init 8 = .ok (.putfield 9, 3) := by decide +kernel
theorem dX0_init_11 : decode cX0_init 11 = .ok (.aload_n 0, 1) := by decide +kernel
theorem dX0_init_12 : decode cX0_init 12 = .ok (.bipush 7, 2) := by decide +kernel
theorem dX0_init_14 : decode cX0_init 14 = .ok (.newarray .int, 2) := by decide +kernel
theorem dX0_init_16 : decode cX0_init 16 = .ok (.putfield 15, 3) := by decide +kernel
theorem dX0_init_19 : decode cX0_init 19 = .ok (.aload_n 0, 1) := by decide +kernel
theorem dX0_init_20 : decode cX0_init 20 = .ok (.bipush 7, 2) := by decide +kernel
theorem dX0_init_22 : decode cX0_init 22 = .ok (.newarray .int, 2) := by decide +kernel
theorem dX0_init_24 : decode cX0_init 24 = .ok (.putfield 18, 3) := by decide +kernel
theorem dX0_init_27 : decode cX0_init 27 = .ok (.aload_n 0, 1) := by decide +kernel
theorem dX0_init_28 : decode cX0_init 28 = .ok (.bipush 7, 2) := by decide +kernel
theorem dX0_init_30 : decode cX0_init 30 = .ok (.newarray .int, 2) := by decide +kernel
theorem dX0_init_32 : decode cX0_init 32 = .ok (.putfield 21, 3) := by decide +kernel
theorem dX0_init_35 : decode cX0_init 35 = .ok (.aload_n 0, 1) := by decide +kernel
theorem dX0_init_36 : decode cX0_init 36 = .ok (.bipush 7, 2) := by decide +kernel
theorem dX0_init_38 : decode cX0_init 38 = .ok (.newarray .int, 2) := by decide +kernel
theorem dX0_init_40 : decode cX0_init 40 = .ok (.putfield 24, 3) := by decide +kernel
theorem dX0_init_43 : decode cX0_init 43 = .ok (.aload_n 0, 1) := by decide +kernel
theorem dX0_init_44 : decode cX0_init 44 = .ok (.invokevirtual 27, 3) := by decide +kernel
theorem dX0_init_47 : decode cX0_init 47 = .ok (.return_, 1) := by decide +kernel
theorem dX0_clear_0 : decode cX0_clear 0 = .ok (.aload_n 0, 1) := by decide +kernel
theorem dX0_clear_1 : decode cX0_clear 1 = .ok (.iconst 0, 1) := by decide +kernel
theorem dX0_clear_2 : decode cX0_clear 2 = .ok (.putfield 30, 3) := by decide +kernel
theorem dX0_clear_5 : decode cX0_clear 5 = .ok (.aload_n 0, 1) := by decide +kernel
theorem dX0_clear_6 : decode cX0_clear 6 = .ok (.iconst 0, 1) := by decide +kernel
theorem dX0_clear_7 : decode cX0_clear 7 = .ok (.putfield 34, 3) := by decide +kernel
theorem dX0_clear_10 : decode cX0_clear 10 = .ok (.aload_n 0, 1) := by decide +kernel
theorem dX0_clear_11 : decode cX0_clear 11 = .ok (.iconst 0, 1) := by decide +kernel
theorem dX0_clear_12 : decode cX0_clear 12 = .ok (.putfield 37, 3) := by decide +kernel
theorem dX0_clear_15 : decode cX0_clear 15 = .ok (.aload_n 0, 1) := by decide +kernel
theorem dX0_clear_16 : decode cX0_clear 16 = .ok (.iconst 0, 1) := by decide +kernel
theorem dX0_clear_17 : decode cX0_clear 17 = .ok (.putfield 40, 3) := by decide +kernel
theorem dX0_clear_20 : decode cX0_clear 20 = .ok (.aload_n 0, 1) := by decide +kernel
theorem dX0_clear_21 : decode cX0_clear 21 = .ok (.lconst 0, 1) := by decide +kernel
theorem dX0_clear_22 : decode cX0_clear 22 = .ok (.putfield 43, 3) := by decide +kernel
theorem dX0_clear_25 : decode cX0_clear 25 = .ok (.iconst 0, 1) := by decide +kernel
theorem dX0_clear_26 : decode cX0_clear 26 = .ok (.istore_n 1, 1) := by decide +kernel
theorem dX0_clear_27 : decode cX0_clear 27 = .ok (.iload_n 1, 1) := by decide +kernel
theorem dX0_clear_28 : decode cX0_clear 28 = .ok (.bipush 7, 2) := by decide +kernel
theorem dX0_clear_30 : decode cX0_clear 30 = .ok (.if_icmp .ge 38, 3) := by decide +kernel
theorem dX0_clear_33 : decode cX0_clear 33 = .ok (.aload_n 0, 1) := by decide +kernel
theorem dX0_clear_34 : decode cX0_clear 34 = .ok (.getfield 15, 3) := by decide +kernel
theorem dX0_clear_37 : decode cX0_clear 37 = .ok (.iload_n 1, 1) := by decide +kernel
theorem dX0_clear_38 : decode cX0_clear 38 = .ok (.iconst 0, 1) := by decide +kernel
theorem dX0_clear_39 : decode cX0_clear 39 = .ok (.iastore, 1) := by decide +kernel
theorem dX0_clear_40 : decode cX0_clear 40 = .ok (.aload_n 0, 1) := by decide +kernel
theorem dX0_clear_41 : decode cX0_clear 41 = .ok (.getfield 18, 3) := by decide +kernel
theorem dX0_clear_44 : decode cX0_clear 44 = .ok (.iload_n 1, 1) := by decide +kernel
theorem dX0_clear_45 : decode cX0_clear 45 = .ok (.iconst 0, 1) := by decide +kernel
theorem dX0_clear_46 : decode cX0_clear 46 = .ok (.iastore, 1) := by decide +kernel
theorem dX0_clear_47 : decode cX0_clear 47 = .ok (.aload_n 0, 1) := by decide +kernel
theorem dX0_clear_48 : decode cX0_clear 48 = .ok (.getfield 21, 3) := by decide +kernel
theorem dX0_clear_51 : decode cX0_clear 51 = .ok (.iload_n 1, 1) := by decide +kernel
theorem dX0_clear_52 : decode cX0_clear 52 = .ok (.bipush (-4), 2) := by decide +kernel
theorem dX0_clear_54 : decode cX0_clear 54 = .ok (.iastore, 1) := by decide +kernel
theorem dX0_clear_55 : decode cX0_clear 55 = .ok (.aload_n 0, 1) := by decide +kernel
theorem dX0_clear_56 : decode cX0_clear 56 = .ok (.getfield 24, 3) := by decide +kernel
theorem dX0_clear_59 : decode cX0_clear 59 = .ok (.iload_n 1, 1) := by decide +kernel
theorem dX0_clear_60 : decode cX0_clear 60 = .ok (.iconst 0, 1) := by decide +kernel
theorem dX0_clear_61 : decode cX0_clear 61 = .ok (.iastore, 1) := by decide +kernel
theorem dX0_clear_62 : decode cX0_clear 62 = .ok (.iinc 1 1, 3) := by decide +kernel
theorem dX0_clear_65 : decode cX0_clear 65 = .ok (.goto (-38), 3) := by decide +kernel
theorem dX0_clear_68 : decode cX0_clear 68 = .ok (.return_, 1) := by decide +kernel
theorem dX0_copyFrom_0 : decode cX0_copyFrom 0 = .ok (.aload_n 0, 1) := by decide +kernel
theorem dX0_copyFrom_1 : decode cX0_copyFrom 1 = .ok (.aload_n 1, 1) := by decide +kernel
theorem dX0_copyFrom_2 : decode cX0_copyFrom 2 = .ok (.getfield 30, 3) := by decide +kernel
theorem dX0_copyFrom_5 : decode cX0_copyFrom 5 = .ok (.putfield 30, 3) := by decide +kernel
theorem dX0_copyFrom_8 : decode cX0_copyFrom 8 = .ok (.aload_n 0, 1) := by decide +kernel
theorem dX0_copyFrom_9 : decode cX0_copyFrom 9 = .ok (.aload_n 1, 1) := by decide +kernel
theorem dX0_copyFrom_10 : decode cX0_copyFrom 10 = .ok (.getfield 34, 3) := by decide +kernel
theorem dX0_copyFrom_13 : decode cX0_copyFrom 13 = .ok (.putfield 34, 3) := by decide +kernel
theorem dX0_copyFrom_16 : decode cX0_copyFrom 16 = .ok (.aload_n 0, 1) := by decide +kernel
theorem dX0_copyFrom_17 : decode cX0_copyFrom 17 = .ok (.aload_n 1, 1) := by decide +kernel
theorem dX0_copyFrom_18 : decode cX0_copyFrom 18 = .ok (.getfield 37, 3) := by decide +kernel
theorem dX0_copyFrom_21 : decode cX0_copyFrom 21 = .ok (.putfield 37, 3) := by decide +kernel
theorem dX0_copyFrom_24 : decode cX0_copyFrom 24 = .ok (.aload_n 0, 1) := by decide +kernel
theorem dX0_copyFrom_25 : decode cX0_copyFrom 25 = .ok (.aload_n 1, 1) := by decide +kernel
theorem dX0_copyFrom_26 : decode cX0_copyFrom 26 = .ok (.getfield 40, 3) := by decide +kernel
theorem dX0_copyFrom_29 : decode cX0_copyFrom 29 = .ok (.putfield 40, 3) := by decide +kernel
theorem dX0_copyFrom_32 : decode cX0_copyFrom 32 = .ok (.aload_n 0, 1) := by decide +kernel
theorem dX0_copyFrom_33 : decode cX0_copyFrom 33 = .ok (.aload_n 1, 1) := by decide +kernel
theorem dX0_copyFrom_34 : decode cX0_copyFrom 34 = .ok (.getfield 43, 3) := by decide +kernel
theorem dX0_copyFrom_37 : decode cX0_copyFrom 37 = .ok (.putfield 43, 3) := by decide +kernel
theorem dX0_copyFrom_40 : decode cX0_copyFrom 40 = .ok (.iconst 0, 1) := by decide +kernel
theorem dX0_copyFrom_41 : decode cX0_copyFrom 41 = .ok (.istore_n 2, 1) := by decide +kernel
theorem dX0_copyFrom_42 : decode cX0_copyFrom 42 = .ok (.iload_n 2, 1) := by decide +kernel
theorem dX0_copyFrom_43 : decode cX0_copyFrom 43 = .ok (.iconst 5, 1) := by decide +kernel
theorem dX0_copyFrom_44 : decode cX0_copyFrom 44 = .ok (.if_icmp .ge 21, 3) := by decide +kernel
theorem dX0_copyFrom_47 : decode cX0_copyFrom 47 = .ok (.aload_n 0, 1) := by decide +kernel
theorem dX0_copyFrom_48 : decode cX0_copyFrom 48 = .ok (.getfield 9, 3) := by decide +kernel
theorem dX0_copyFrom_51 : decode cX0_copyFrom 51 = .ok (.iload_n 2, 1) := by decide +kernel
theorem dX0_copyFrom_52 : decode cX0_copyFrom 52 = .ok (.aload_n 1, 1) := by decide +kernel
theorem dX0_copyFrom_53 : decode cX0_copyFrom 53 = .ok (.getfield 9, 3) := by decide +kernel
theorem dX0_copyFrom_56 : decode cX0_copyFrom 56 = .ok (.iload_n 2, 1) := by decide +kernel
theorem dX0_copyFrom_57 : decode cX0_copyFrom 57 = .ok (.iaload, 1) := by decide +kernel
theorem dX0_copyFrom_58 : decode cX0_copyFrom 58 = .ok (.iastore, 1) := by decide +kernel
theorem dX0_copyFrom_59 : decode cX0_copyFrom 59 = .ok (.iinc 2 1, 3) := by decide +kernel
theorem dX0_copyFrom_62 : decode cX0_copyFrom 62 = .ok (.goto (-20), 3) := by decide +kernel
theorem dX0_copyFrom_65 : decode cX0_copyFrom 65 = .ok (.iconst 0, 1) := by decide +kernel
theorem dX0_copyFrom_66 : decode cX0_copyFrom 66 = .ok (.istore_n 2, 1) := by decide +kernel
theorem dX0_copyFrom_67 : decode cX0_copyFrom 67 = .ok (.iload_n 2, 1) := by decide +kernel
theorem dX0_copyFrom_68 : decode cX0_copyFrom 68 = .ok (.bipush 7, 2) := by decide +kernel
theorem dX0_copyFrom_70 : decode cX0_copyFrom 70 = .ok (.if_icmp .ge 57, 3) := by decide +kernel
theorem dX0_copyFrom_73 : decode cX0_copyFrom 73 = .ok (.aload_n 0, 1) := by decide +kernel
theorem dX0_copyFrom_74 : decode cX0_copyFrom 74 = .ok (.getfield 15, 3) := by decide +kernel
theorem dX0_copyFrom_77 : decode cX0_copyFrom 77 = .ok (.iload_n 2, 1) := by decide +kernel
theorem dX0_copyFrom_78 : decode cX0_copyFrom 78 = .ok (.aload_n 1, 1) := by decide +kernel
theorem dX0_copyFrom_79 : decode cX0_copyFrom 79 = .ok (.getfield 15, 3) := by decide +kernel
theorem dX0_copyFrom_82 : decode cX0_copyFrom 82 = .ok (.iload_n 2, 1) := by decide +kernel
theorem dX0_copyFrom_83 : decode cX0_copyFrom 83 = .ok (.iaload, 1) := by decide +kernel
theorem dX0_copyFrom_84 : decode cX0_copyFrom 84 = .ok (.iastore, 1) := by decide +kernel
theorem dX0_copyFrom_85 : decode cX0_copyFrom 85 = .ok (.aload_n 0, 1) := by decide +kernel
theorem dX0_copyFrom_86 : decode cX0_copyFrom 86 = .ok (.getfield 18, 3) := by decide +kernel
theorem dX0_copyFrom_89 : decode cX0_copyFrom 89 = .ok (.iload_n 2, 1) := by decide +kernel
theorem dX0_copyFrom_90 : decode cX0_copyFrom 90 = .ok (.aload_n 1, 1) := by decide +kernel
theorem dX0_copyFrom_91 : decode cX0_copyFrom 91 = .ok (.getfield 18, 3) := by decide +kernel
theorem dX0_copyFrom_94 : decode cX0_copyFrom 94 = .ok (.iload_n 2, 1) := by decide +kernel
theorem dX0_copyFrom_95 : decode cX0_copyFrom 95 = .ok (.iaload, 1) := by decide +kernel
theorem dX0_copyFrom_96 : decode cX0_copyFrom 96 = .ok (.iastore, 1) := by decide +kernel
theorem dX0_copyFrom_97 : decode cX0_copyFrom 97 = .ok (.aload_n 0, 1) := by decide +kernel
theorem dX0_copyFrom_98 : decode cX0_copyFrom 98 = .ok (.getfield 21, 3) := by decide +kernel
theorem dX0_copyFrom_101 : decode cX0_copyFrom 101 = .ok (.iload_n 2, 1) := by decide +kernel
theorem dX0_copyFrom_102 : decode cX0_copyFrom 102 = .ok (.aload_n 1, 1) := by decide +kernel
theorem dX0_copyFrom_103 : decode cX0_copyFrom 103 = .ok (.getfield 21, 3) := by decide +kernel
theorem dX0_copyFrom_106 : decode cX0_copyFrom 106 = .ok (.iload_n 2, 1) := by decide +kernel
theorem dX0_copyFrom_107 : decode cX0_copyFrom 107 = .ok (.iaload, 1) := by decide +kernel
theorem dX0_copyFrom_108 : decode cX0_copyFrom 108 = .ok (.iastore, 1) := by decide +kernel
theorem dX0_copyFrom_109 : decode cX0_copyFrom 109 = .ok (.aload_n 0, 1) := by decide +kernel
theorem dX0_copyFrom_110 : decode cX0_copyFrom 110 = .ok (.getfield 24, 3) := by decide +kernel
theorem dX0_copyFrom_113 : decode cX0_copyFrom 113 = .ok (.iload_n 2, 1) := by decide +kernel
theorem dX0_copyFrom_114 : decode cX0_copyFrom 114 = .ok (.aload_n 1, 1) := by decide +kernel
theorem dX0_copyFrom_115 : decode cX0_copyFrom 115 = .ok (.getfield 24, 3) := by decide +kernel
theorem dX0_copyFrom_118 : decode cX0_copyFrom 118 = .ok (.iload_n 2, 1) := by decide +kernel
theorem dX0_copyFrom_119 : decode cX0_copyFrom 119 = .ok (.iaload, 1) := by decide +kernel
theorem dX0_copyFrom_120 : decode cX0_copyFrom 120 = .ok (.iastore, 1) := by decide +kernel
theorem dX0_copyFrom_121 : decode cX0_copyFrom 121 = .ok (.iinc 2 1, 3) := by decide +kernel
theorem dX0_copyFrom_124 : decode cX0_copyFrom 124 = .ok (.goto (-57), 3) := by decide +kernel
theorem dX0_copyFrom_127 : decode cX0_copyFrom 127 = .ok (.return_, 1) := by decide +kernel
theorem dX0_addPlot_0 : decode cX0_addPlot 0 = .ok (.iload_n 1, 1) := by decide +kernel
theorem dX0_addPlot_1 : decode cX0_addPlot 1 = .ok (.iconst 1, 1) := by decide +kernel
theorem dX0_addPlot_2 : decode cX0_addPlot 2 = .ok (.bipush 9, 2) := by decide +kernel
theorem dX0_addPlot_4 : decode cX0_addPlot 4 = .ok (.invokestatic 47, 3) := by decide +kernel
theorem dX0_addPlot_7 : decode cX0_addPlot 7 = .ok (.ifCond .eq 11, 3) := by decide +kernel
theorem dX0_addPlot_10 : decode cX0_addPlot 10 = .ok (.aload_n 0, 1) := by decide +kernel
theorem dX0_addPlot_11 : decode cX0_addPlot 11 = .ok (.getfield 30, 3) := by decide +kernel
theorem dX0_addPlot_14 : decode cX0_addPlot 14 = .ok (.iconst 5, 1) := by decide +kernel
theorem dX0_addPlot_15 : decode cX0_addPlot 15 = .ok (.if_icmp .lt 5, 3) := by decide +kernel
theorem dX0_addPlot_18 : decode cX0_addPlot 18 = .ok (.iconst 0, 1) := by decide +kernel
theorem dX0_addPlot_19 : decode cX0_addPlot 19 = .ok (.ireturn, 1) := by decide +kernel
theorem dX0_addPlot_20 : decode cX0_addPlot 20 = .ok (.aload_n 0, 1) := by decide +kernel
theorem dX0_addPlot_21 : decode cX0_addPlot 21 = .ok (.getfield 9, 3) := by decide +kernel
theorem dX0_addPlot_24 : decode cX0_addPlot 24 = .ok (.aload_n 0, 1) := by decide +kernel
theorem dX0_addPlot_25 : decode cX0_addPlot 25 = .ok (.getfield 30, 3) := by decide +kernel
theorem dX0_addPlot_28 : decode cX0_addPlot 28 = .ok (.iload_n 1, 1) := by decide +kernel
theorem dX0_addPlot_29 : decode cX0_addPlot 29 = .ok (.iastore, 1) := by decide +kernel
theorem dX0_addPlot_30 : decode cX0_addPlot 30 = .ok (.aload_n 0, 1) := by decide +kernel
theorem dX0_addPlot_31 : decode cX0_addPlot 31 = .ok (.dup, 1) := by decide +kernel
theorem dX0_addPlot_32 : decode cX0_addPlot 32 = .ok (.getfield 30, 3) := by decide +kernel
theorem dX0_addPlot_35 : decode cX0_addPlot 35 = .ok (.iconst 1, 1) := by decide +kernel
theorem dX0_addPlot_36 : decode cX0_addPlot 36 = .ok (.iadd, 1) := by decide +kernel
theorem dX0_addPlot_37 : decode cX0_addPlot 37 = .ok (.putfield 30, 3) := by decide +kernel
theorem dX0_addPlot_40 : decode cX0_addPlot 40 = .ok (.iconst 1, 1) := by decide +kernel
theorem dX0_addPlot_41 : decode cX0_addPlot 41 = .ok (.ireturn, 1) := by decide +kernel
theorem dX0_addHour_0 : decode cX0_addHour 0 = .ok (.iload_n 1, 1) := by decide +kernel
theorem dX0_addHour_1 : decode cX0_addHour 1 = .ok (.iconst 0, 1) := by decide +kernel
theorem dX0_addHour_2 : decode cX0_addHour 2 = .ok (.iconst 3, 1) := by decide +kernel
theorem dX0_addHour_3 : decode cX0_addHour 3 = .ok (.invokestatic 47, 3) := by decide +kernel
theorem dX0_addHour_6 : decode cX0_addHour 6 = .ok (.ifCond .eq 22, 3) := by decide +kernel
theorem dX0_addHour_9 : decode cX0_addHour 9 = .ok (.iload_n 2, 1) := by decide +kernel
theorem dX0_addHour_10 : decode cX0_addHour 10 = .ok (.iconst 1, 1) := by decide +kernel
theorem dX0_addHour_11 : decode cX0_addHour 11 = .ok (.bipush 20, 2) := by decide +kernel
theorem dX0_addHour_13 : decode cX0_addHour 13 = .ok (.invokestatic 47, 3) := by decide +kernel
theorem dX0_addHour_16 : decode cX0_addHour 16 = .ok (.ifCond .eq 12, 3) := by decide +kernel
theorem dX0_addHour_19 : decode cX0_addHour 19 = .ok (.aload_n 0, 1) := by decide +kernel
theorem dX0_addHour_20 : decode cX0_addHour 20 = .ok (.getfield 34, 3) := by decide +kernel
theorem dX0_addHour_23 : decode cX0_addHour 23 = .ok (.bipush 7, 2) := by decide +kernel
theorem dX0_addHour_25 : decode cX0_addHour 25 = .ok (.if_icmp .lt 5, 3) := by decide +kernel
theorem dX0_addHour_28 : decode cX0_addHour 28 = .ok (.iconst 0, 1) := by decide +kernel
theorem dX0_addHour_29 : decode cX0_addHour 29 = .ok (.ireturn, 1) := by decide +kernel
theorem dX0_addHour_30 : decode cX0_addHour 30 = .ok (.aload_n 0, 1) := by decide +kernel
theorem dX0_addHour_31 : decode cX0_addHour 31 = .ok (.getfield 15, 3) := by decide +kernel
theorem dX0_addHour_34 : decode cX0_addHour 34 = .ok (.aload_n 0, 1) := by decide +kernel
theorem dX0_addHour_35 : decode cX0_addHour 35 = .ok (.getfield 34, 3) := by decide +kernel
theorem dX0_addHour_38 : decode cX0_addHour 38 = .ok (.iload_n 1, 1) := by decide +kernel
theorem dX0_addHour_39 : decode cX0_addHour 39 = .ok (.iastore, 1) := by decide +kernel
theorem dX0_addHour_40 : decode cX0_addHour 40 = .ok (.aload_n 0, 1) := by decide +kernel
theorem dX0_addHour_41 : decode cX0_addHour 41 = .ok (.getfield 18, 3) := by decide +kernel
theorem dX0_addHour_44 : decode cX0_addHour 44 = .ok (.aload_n 0, 1) := by decide +kernel
theorem dX0_addHour_45 : decode cX0_addHour 45 = .ok (.getfield 34, 3) := by decide +kernel
theorem dX0_addHour_48 : decode cX0_addHour 48 = .ok (.iload_n 2, 1) := by decide +kernel
theorem dX0_addHour_49 : decode cX0_addHour 49 = .ok (.iastore, 1) := by decide +kernel
theorem dX0_addHour_50 : decode cX0_addHour 50 = .ok (.aload_n 0, 1) := by decide +kernel
theorem dX0_addHour_51 : decode cX0_addHour 51 = .ok (.dup, 1) := by decide +kernel
theorem dX0_addHour_52 : decode cX0_addHour 52 = .ok (.getfield 34, 3) := by decide +kernel
theorem dX0_addHour_55 : decode cX0_addHour 55 = .ok (.iconst 1, 1) := by decide +kernel
theorem dX0_addHour_56 : decode cX0_addHour 56 = .ok (.iadd, 1) := by decide +kernel
theorem dX0_addHour_57 : decode cX0_addHour 57 = .ok (.putfield 34, 3) := by decide +kernel
theorem dX0_addHour_60 : decode cX0_addHour 60 = .ok (.iconst 1, 1) := by decide +kernel
theorem dX0_addHour_61 : decode cX0_addHour 61 = .ok (.ireturn, 1) := by decide +kernel
theorem dX0_addLyingHour_0 : decode cX0_addLyingHour 0 = .ok (.aload_n 0, 1) := by decide +kernel
theorem dX0_addLyingHour_1 : decode cX0_addLyingHour 1 = .ok (.iload_n 1, 1) := by decide +kernel
theorem dX0_addLyingHour_2 : decode cX0_addLyingHour 2 = .ok (.iload_n 2, 1) := by decide +kernel
theorem dX0_addLyingHour_3 : decode cX0_addLyingHour 3 = .ok (.invokevirtual 51, 3) := by decide +kernel
theorem dX0_addLyingHour_6 : decode cX0_addLyingHour 6 = .ok (.ifCond .eq 17, 3) := by decide +kernel
theorem dX0_addLyingHour_9 : decode cX0_addLyingHour 9 = .ok (.aload_n 0, 1) := by decide +kernel
theorem dX0_addLyingHour_10 : decode cX0_addLyingHour 10 = .ok (.aload_n 0, 1) := by decide +kernel
theorem dX0_addLyingHour_11 : decode cX0_addLyingHour 11 = .ok (.getfield 34, 3) := by decide +kernel
theorem dX0_addLyingHour_14 : decode cX0_addLyingHour 14 = .ok (.iconst 1, 1) := by decide +kernel
theorem dX0_addLyingHour_15 : decode cX0_addLyingHour 15 = .ok (.isub, 1) := by decide +kernel
theorem dX0_addLyingHour_16 : decode cX0_addLyingHour 16 = .ok (.iload_n 3, 1) := by decide +kernel
theorem dX0_addLyingHour_17 : decode cX0_addLyingHour 17 = .ok (.invokevirtual 55, 3) := by decide +kernel
theorem dX0_addLyingHour_20 : decode cX0_addLyingHour 20 = .ok (.ifCond .ne 5, 3) := by decide +kernel
theorem dX0_addLyingHour_23 : decode cX0_addLyingHour 23 = .ok (.iconst 0, 1) := by decide +kernel
theorem dX0_addLyingHour_24 : decode cX0_addLyingHour 24 = .ok (.ireturn, 1) := by decide +kernel
theorem dX0_addLyingHour_25 : decode cX0_addLyingHour 25 = .ok (.aload_n 0, 1) := by decide +kernel
theorem dX0_addLyingHour_26 : decode cX0_addLyingHour 26 = .ok (.aload_n 0, 1) := by decide +kernel
theorem dX0_addLyingHour_27 : decode cX0_addLyingHour 27 = .ok (.getfield 34, 3) := by decide +kernel
theorem dX0_addLyingHour_30 : decode cX0_addLyingHour 30 = .ok (.iconst 1, 1) := by decide +kernel
theorem dX0_addLyingHour_31 : decode cX0_addLyingHour 31 = .ok (.isub, 1) := by decide +kernel
theorem dX0_addLyingHour_32 : decode cX0_addLyingHour 32 = .ok (.iload_n 3, 1) := by decide +kernel
theorem dX0_addLyingHour_33 : decode cX0_addLyingHour 33 = .ok (.invokevirtual 58, 3) := by decide +kernel
theorem dX0_addLyingHour_36 : decode cX0_addLyingHour 36 = .ok (.iconst 1, 1) := by decide +kernel
theorem dX0_addLyingHour_37 : decode cX0_addLyingHour 37 = .ok (.ireturn, 1) := by decide +kernel
theorem dX0_addFrost_0 : decode cX0_addFrost 0 = .ok (.iload_n 1, 1) := by decide +kernel
theorem dX0_addFrost_1 : decode cX0_addFrost 1 = .ok (.iconst 0, 1) := by decide +kernel
theorem dX0_addFrost_2 : decode cX0_addFrost 2 = .ok (.bipush 39, 2) := by decide +kernel
theorem dX0_addFrost_4 : decode cX0_addFrost 4 = .ok (.invokestatic 47, 3) := by decide +kernel
theorem dX0_addFrost_7 : decode cX0_addFrost 7 = .ok (.ifCond .ne 5, 3) := by decide +kernel
theorem dX0_addFrost_10 : decode cX0_addFrost 10 = .ok (.iconst 0, 1) := by decide +kernel
theorem dX0_addFrost_11 : decode cX0_addFrost 11 = .ok (.ireturn, 1) := by decide +kernel
theorem dX0_addFrost_12 : decode cX0_addFrost 12 = .ok (.aload_n 0, 1) := by decide +kernel
theorem dX0_addFrost_13 : decode cX0_addFrost 13 = .ok (.dup, 1) := by decide +kernel
theorem dX0_addFrost_14 : decode cX0_addFrost 14 = .ok (.getfield 43, 3) := by decide +kernel
theorem dX0_addFrost_17 : decode cX0_addFrost 17 = .ok (.lconst 1, 1) := by decide +kernel
theorem dX0_addFrost_18 : decode cX0_addFrost 18 = .ok (.iload_n 1, 1) := by decide +kernel
theorem dX0_addFrost_19 : decode cX0_addFrost 19 = .ok (.lshl, 1) := by decide +kernel
theorem dX0_addFrost_20 : decode cX0_addFrost 20 = .ok (.lor, 1) := by decide +kernel
theorem dX0_addFrost_21 : decode cX0_addFrost 21 = .ok (.putfield 43, 3) := by decide +kernel
theorem dX0_addFrost_24 : decode cX0_addFrost 24 = .ok (.iconst 1, 1) := by decide +kernel
theorem dX0_addFrost_25 : decode cX0_addFrost 25 = .ok (.ireturn, 1) := by decide +kernel
theorem dX0_hasPlot_0 : decode cX0_hasPlot 0 = .ok (.iload_n 1, 1) := by decide +kernel
theorem dX0_hasPlot_1 : decode cX0_hasPlot 1 = .ok (.ifCond .lt 20, 3) := by decide +kernel
theorem dX0_hasPlot_4 : decode cX0_hasPlot 4 = .ok (.iload_n 1, 1) := by decide +kernel
theorem dX0_hasPlot_5 : decode cX0_hasPlot 5 = .ok (.aload_n 0, 1) := by decide +kernel
theorem dX0_hasPlot_6 : decode cX0_hasPlot 6 = .ok (.getfield 30, 3) := by decide +kernel
theorem dX0_hasPlot_9 : decode cX0_hasPlot 9 = .ok (.if_icmp .ge 12, 3) := by decide +kernel
theorem dX0_hasPlot_12 : decode cX0_hasPlot 12 = .ok (.iload_n 1, 1) := by decide +kernel
theorem dX0_hasPlot_13 : decode cX0_hasPlot 13 = .ok (.iconst 5, 1) := by decide +kernel
theorem dX0_hasPlot_14 : decode cX0_hasPlot 14 = .ok (.if_icmp .ge 7, 3) := by decide +kernel
theorem dX0_hasPlot_17 : decode cX0_hasPlot 17 = .ok (.iconst 1, 1) := by decide +kernel
theorem dX0_hasPlot_18 : decode cX0_hasPlot 18 = .ok (.goto 4, 3) := by decide +kernel
theorem dX0_hasPlot_21 : decode cX0_hasPlot 21 = .ok (.iconst 0, 1) := by decide +kernel
theorem dX0_hasPlot_22 : decode cX0_hasPlot 22 = .ok (.ireturn, 1) := by decide +kernel
theorem dX0_hasHour_0 : decode cX0_hasHour 0 = .ok (.iload_n 1, 1) := by decide +kernel
theorem dX0_hasHour_1 : decode cX0_hasHour 1 = .ok (.ifCond .lt 21, 3) := by decide +kernel
theorem dX0_hasHour_4 : decode cX0_hasHour 4 = .ok (.iload_n 1, 1) := by decide +kernel
theorem dX0_hasHour_5 : decode cX0_hasHour 5 = .ok (.aload_n 0, 1) := by decide +kernel
theorem dX0_hasHour_6 : decode cX0_hasHour 6 = .ok (.getfield 34, 3) := by decide +kernel
theorem dX0_hasHour_9 : decode cX0_hasHour 9 = .ok (.if_icmp .ge 13, 3) := by decide +kernel
theorem dX0_hasHour_12 : decode cX0_hasHour 12 = .ok (.iload_n 1, 1) := by decide +kernel
theorem dX0_hasHour_13 : decode cX0_hasHour 13 = .ok (.bipush 7, 2) := by decide +kernel
theorem dX0_hasHour_15 : decode cX0_hasHour 15 = .ok (.if_icmp .ge 7, 3) := by decide +kernel
theorem dX0_hasHour_18 : decode cX0_hasHour 18 = .ok (.iconst 1, 1) := by decide +kernel
theorem dX0_hasHour_19 : decode cX0_hasHour 19 = .ok (.goto 4, 3) := by decide +kernel
theorem dX0_hasHour_22 : decode cX0_hasHour 22 = .ok (.iconst 0, 1) := by decide +kernel
theorem dX0_hasHour_23 : decode cX0_hasHour 23 = .ok (.ireturn, 1) := by decide +kernel
theorem dX0_roomOf_0 : decode cX0_roomOf 0 = .ok (.aload_n 0, 1) := by decide +kernel
theorem dX0_roomOf_1 : decode cX0_roomOf 1 = .ok (.iload_n 1, 1) := by decide +kernel
theorem dX0_roomOf_2 : decode cX0_roomOf 2 = .ok (.invokevirtual 62, 3) := by decide +kernel
theorem dX0_roomOf_5 : decode cX0_roomOf 5 = .ok (.ifCond .eq 12, 3) := by decide +kernel
theorem dX0_roomOf_8 : decode cX0_roomOf 8 = .ok (.aload_n 0, 1) := by decide +kernel
theorem dX0_roomOf_9 : decode cX0_roomOf 9 = .ok (.getfield 9, 3) := by decide +kernel
theorem dX0_roomOf_12 : decode cX0_roomOf 12 = .ok (.iload_n 1, 1) := by decide +kernel
theorem dX0_roomOf_13 : decode cX0_roomOf 13 = .ok (.iaload, 1) := by decide +kernel
theorem dX0_roomOf_14 : decode cX0_roomOf 14 = .ok (.goto 4, 3) := by decide +kernel
theorem dX0_roomOf_17 : decode cX0_roomOf 17 = .ok (.iconst 0, 1) := by decide +kernel
theorem dX0_roomOf_18 : decode cX0_roomOf 18 = .ok (.ireturn, 1) := by decide +kernel
theorem dX0_kindOf_0 : decode cX0_kindOf 0 = .ok (.aload_n 0, 1) := by decide +kernel
theorem dX0_kindOf_1 : decode cX0_kindOf 1 = .ok (.iload_n 1, 1) := by decide +kernel
theorem dX0_kindOf_2 : decode cX0_kindOf 2 = .ok (.invokevirtual 66, 3) := by decide +kernel
theorem dX0_kindOf_5 : decode cX0_kindOf 5 = .ok (.ifCond .eq 12, 3) := by decide +kernel
theorem dX0_kindOf_8 : decode cX0_kindOf 8 = .ok (.aload_n 0, 1) := by decide +kernel
theorem dX0_kindOf_9 : decode cX0_kindOf 9 = .ok (.getfield 15, 3) := by decide +kernel
theorem dX0_kindOf_12 : decode cX0_kindOf 12 = .ok (.iload_n 1, 1) := by decide +kernel
theorem dX0_kindOf_13 : decode cX0_kindOf 13 = .ok (.iaload, 1) := by decide +kernel
theorem dX0_kindOf_14 : decode cX0_kindOf 14 = .ok (.goto 4, 3) := by decide +kernel
theorem dX0_kindOf_17 : decode cX0_kindOf 17 = .ok (.iconst (-1), 1) := by decide +kernel
theorem dX0_kindOf_18 : decode cX0_kindOf 18 = .ok (.ireturn, 1) := by decide +kernel
theorem dX0_worthOf_0 : decode cX0_worthOf 0 = .ok (.aload_n 0, 1) := by decide +kernel
theorem dX0_worthOf_1 : decode cX0_worthOf 1 = .ok (.iload_n 1, 1) := by decide +kernel
theorem dX0_worthOf_2 : decode cX0_worthOf 2 = .ok (.invokevirtual 66, 3) := by decide +kernel
theorem dX0_worthOf_5 : decode cX0_worthOf 5 = .ok (.ifCond .eq 12, 3) := by decide +kernel
theorem dX0_worthOf_8 : decode cX0_worthOf 8 = .ok (.aload_n 0, 1) := by decide +kernel
theorem dX0_worthOf_9 : decode cX0_worthOf 9 = .ok (.getfield 18, 3) := by decide +kernel
theorem dX0_worthOf_12 : decode cX0_worthOf 12 = .ok (.iload_n 1, 1) := by decide +kernel
theorem dX0_worthOf_13 : decode cX0_worthOf 13 = .ok (.iaload, 1) := by decide +kernel
theorem dX0_worthOf_14 : decode cX0_worthOf 14 = .ok (.goto 4, 3) := by decide +kernel
theorem dX0_worthOf_17 : decode cX0_worthOf 17 = .ok (.iconst 0, 1) := by decide +kernel
theorem dX0_worthOf_18 : decode cX0_worthOf 18 = .ok (.ireturn, 1) := by decide +kernel
theorem dX0_placeOf_0 : decode cX0_placeOf 0 = .ok (.aload_n 0, 1) := by decide +kernel
theorem dX0_placeOf_1 : decode cX0_placeOf 1 = .ok (.iload_n 1, 1) := by decide +kernel
theorem dX0_placeOf_2 : decode cX0_placeOf 2 = .ok (.invokevirtual 66, 3) := by decide +kernel
theorem dX0_placeOf_5 : decode cX0_placeOf 5 = .ok (.ifCond .eq 12, 3) := by decide +kernel
theorem dX0_placeOf_8 : decode cX0_placeOf 8 = .ok (.aload_n 0, 1) := by decide +kernel
theorem dX0_placeOf_9 : decode cX0_placeOf 9 = .ok (.getfield 21, 3) := by decide +kernel
theorem dX0_placeOf_12 : decode cX0_placeOf 12 = .ok (.iload_n 1, 1) := by decide +kernel
theorem dX0_placeOf_13 : decode cX0_placeOf 13 = .ok (.iaload, 1) := by decide +kernel
theorem dX0_placeOf_14 : decode cX0_placeOf 14 = .ok (.goto 5, 3) := by decide +kernel
theorem dX0_placeOf_17 : decode cX0_placeOf 17 = .ok (.bipush (-4), 2) := by decide +kernel
theorem dX0_placeOf_19 : decode cX0_placeOf 19 = .ok (.ireturn, 1) := by decide +kernel
theorem dX0_depthOf_0 : decode cX0_depthOf 0 = .ok (.aload_n 0, 1) := by decide +kernel
theorem dX0_depthOf_1 : decode cX0_depthOf 1 = .ok (.iload_n 1, 1) := by decide +kernel
theorem dX0_depthOf_2 : decode cX0_depthOf 2 = .ok (.invokevirtual 66, 3) := by decide +kernel
theorem dX0_depthOf_5 : decode cX0_depthOf 5 = .ok (.ifCond .eq 12, 3) := by decide +kernel
theorem dX0_depthOf_8 : decode cX0_depthOf 8 = .ok (.aload_n 0, 1) := by decide +kernel
theorem dX0_depthOf_9 : decode cX0_depthOf 9 = .ok (.getfield 24, 3) := by decide +kernel
theorem dX0_depthOf_12 : decode cX0_depthOf 12 = .ok (.iload_n 1, 1) := by decide +kernel
theorem dX0_depthOf_13 : decode cX0_depthOf 13 = .ok (.iaload, 1) := by decide +kernel
theorem dX0_depthOf_14 : decode cX0_depthOf 14 = .ok (.goto 4, 3) := by decide +kernel
theorem dX0_depthOf_17 : decode cX0_depthOf 17 = .ok (.iconst 0, 1) := by decide +kernel
theorem dX0_depthOf_18 : decode cX0_depthOf 18 = .ok (.ireturn, 1) := by decide +kernel
theorem dX0_lies_0 : decode cX0_lies 0 = .ok (.aload_n 0, 1) := by decide +kernel
theorem dX0_lies_1 : decode cX0_lies 1 = .ok (.iload_n 1, 1) := by decide +kernel
theorem dX0_lies_2 : decode cX0_lies 2 = .ok (.invokevirtual 66, 3) := by decide +kernel
theorem dX0_lies_5 : decode cX0_lies 5 = .ok (.ifCond .eq 18, 3) := by decide +kernel
theorem dX0_lies_8 : decode cX0_lies 8 = .ok (.aload_n 0, 1) := by decide +kernel
theorem dX0_lies_9 : decode cX0_lies 9 = .ok (.getfield 21, 3) := by decide +kernel
theorem dX0_lies_12 : decode cX0_lies 12 = .ok (.iload_n 1, 1) := by decide +kernel
theorem dX0_lies_13 : decode cX0_lies 13 = .ok (.iaload, 1) := by decide +kernel
theorem dX0_lies_14 : decode cX0_lies 14 = .ok (.bipush (-4), 2) := by decide +kernel
theorem dX0_lies_16 : decode cX0_lies 16 = .ok (.if_icmp .eq 7, 3) := by decide +kernel
theorem dX0_lies_19 : decode cX0_lies 19 = .ok (.iconst 1, 1) := by decide +kernel
theorem dX0_lies_20 : decode cX0_lies 20 = .ok (.goto 4, 3) := by decide +kernel
theorem dX0_lies_23 : decode cX0_lies 23 = .ok (.iconst 0, 1) := by decide +kernel
theorem dX0_lies_24 : decode cX0_lies 24 = .ok (.ireturn, 1) := by decide +kernel
theorem dX0_isFrost_0 : decode cX0_isFrost 0 = .ok (.aload_n 0, 1) := by decide +kernel
theorem dX0_isFrost_1 : decode cX0_isFrost 1 = .ok (.getfield 37, 3) := by decide +kernel
theorem dX0_isFrost_4 : decode cX0_isFrost 4 = .ok (.bipush 40, 2) := by decide +kernel
theorem dX0_isFrost_6 : decode cX0_isFrost 6 = .ok (.if_icmp .ge 23, 3) := by decide +kernel
theorem dX0_isFrost_9 : decode cX0_isFrost 9 = .ok (.aload_n 0, 1) := by decide +kernel
theorem dX0_isFrost_10 : decode cX0_isFrost 10 = .ok (.getfield 43, 3) := by decide +kernel
theorem dX0_isFrost_13 : decode cX0_isFrost 13 = .ok (.aload_n 0, 1) := by decide +kernel
theorem dX0_isFrost_14 : decode cX0_isFrost 14 = .ok (.getfield 37, 3) := by decide +kernel
theorem dX0_isFrost_17 : decode cX0_isFrost 17 = .ok (.lshr, 1) := by decide +kernel
theorem dX0_isFrost_18 : decode cX0_isFrost 18 = .ok (.lconst 1, 1) := by decide +kernel
theorem dX0_isFrost_19 : decode cX0_isFrost 19 = .ok (.land, 1) := by decide +kernel
theorem dX0_isFrost_20 : decode cX0_isFrost 20 = .ok (.lconst 1, 1) := by decide +kernel
theorem dX0_isFrost_21 : decode cX0_isFrost 21 = .ok (.lcmp, 1) := by decide +kernel
theorem dX0_isFrost_22 : decode cX0_isFrost 22 = .ok (.ifCond .ne 7, 3) := by decide +kernel
theorem dX0_isFrost_25 : decode cX0_isFrost 25 = .ok (.iconst 1, 1) := by decide +kernel
theorem dX0_isFrost_26 : decode cX0_isFrost 26 = .ok (.goto 4, 3) := by decide +kernel
theorem dX0_isFrost_29 : decode cX0_isFrost 29 = .ok (.iconst 0, 1) := by decide +kernel
theorem dX0_isFrost_30 : decode cX0_isFrost 30 = .ok (.ireturn, 1) := by decide +kernel
theorem dX0_heightOf_0 : decode cX0_heightOf 0 = .ok (.iconst 0, 1) := by decide +kernel
theorem dX0_heightOf_1 : decode cX0_heightOf 1 = .ok (.istore_n 2, 1) := by decide +kernel
theorem dX0_heightOf_2 : decode cX0_heightOf 2 = .ok (.iconst 0, 1) := by decide +kernel
theorem dX0_heightOf_3 : decode cX0_heightOf 3 = .ok (.istore_n 3, 1) := by decide +kernel
theorem dX0_heightOf_4 : decode cX0_heightOf 4 = .ok (.iload_n 3, 1) := by decide +kernel
theorem dX0_heightOf_5 : decode cX0_heightOf 5 = .ok (.bipush 7, 2) := by decide +kernel
theorem dX0_heightOf_7 : decode cX0_heightOf 7 = .ok (.if_icmp .ge 22, 3) := by decide +kernel
theorem dX0_heightOf_10 : decode cX0_heightOf 10 = .ok (.aload_n 0, 1) := by decide +kernel
theorem dX0_heightOf_11 : decode cX0_heightOf 11 = .ok (.getfield 21, 3) := by decide +kernel
theorem dX0_heightOf_14 : decode cX0_heightOf 14 = .ok (.iload_n 3, 1) := by decide +kernel
theorem dX0_heightOf_15 : decode cX0_heightOf 15 = .ok (.iaload, 1) := by decide +kernel
theorem dX0_heightOf_16 : decode cX0_heightOf 16 = .ok (.iload_n 1, 1) := by decide +kernel
theorem dX0_heightOf_17 : decode cX0_heightOf 17 = .ok (.if_icmp .ne 6, 3) := by decide +kernel
theorem dX0_heightOf_20 : decode cX0_heightOf 20 = .ok (.iinc 2 1, 3) := by decide +kernel
theorem dX0_heightOf_23 : decode cX0_heightOf 23 = .ok (.iinc 3 1, 3) := by decide +kernel
theorem dX0_heightOf_26 : decode cX0_heightOf 26 = .ok (.goto (-22), 3) := by decide +kernel
theorem dX0_heightOf_29 : decode cX0_heightOf 29 = .ok (.iload_n 2, 1) := by decide +kernel
theorem dX0_heightOf_30 : decode cX0_heightOf 30 = .ok (.ireturn, 1) := by decide +kernel
theorem dX0_hourAt_0 : decode cX0_hourAt 0 = .ok (.iconst 0, 1) := by decide +kernel
theorem dX0_hourAt_1 : decode cX0_hourAt 1 = .ok (.istore_n 3, 1) := by decide +kernel
theorem dX0_hourAt_2 : decode cX0_hourAt 2 = .ok (.iload_n 3, 1) := by decide +kernel
theorem dX0_hourAt_3 : decode cX0_hourAt 3 = .ok (.bipush 7, 2) := by decide +kernel
theorem dX0_hourAt_5 : decode cX0_hourAt 5 = .ok (.if_icmp .ge 31, 3) := by decide +kernel
theorem dX0_hourAt_8 : decode cX0_hourAt 8 = .ok (.aload_n 0, 1) := by decide +kernel
theorem dX0_hourAt_9 : decode cX0_hourAt 9 = .ok (.getfield 21, 3) := by decide +kernel
theorem dX0_hourAt_12 : decode cX0_hourAt 12 = .ok (.iload_n 3, 1) := by decide +kernel
theorem dX0_hourAt_13 : decode cX0_hourAt 13 = .ok (.iaload, 1) := by decide +kernel
theorem dX0_hourAt_14 : decode cX0_hourAt 14 = .ok (.iload_n 1, 1) := by decide +kernel
theorem dX0_hourAt_15 : decode cX0_hourAt 15 = .ok (.if_icmp .ne 15, 3) := by decide +kernel
theorem dX0_hourAt_18 : decode cX0_hourAt 18 = .ok (.aload_n 0, 1) := by decide +kernel
theorem dX0_hourAt_19 : decode cX0_hourAt 19 = .ok (.getfield 24, 3) := by decide +kernel
theorem dX0_hourAt_22 : decode cX0_hourAt 22 = .ok (.iload_n 3, 1) := by decide +kernel
theorem dX0_hourAt_23 : decode cX0_hourAt 23 = .ok (.iaload, 1) := by decide +kernel
theorem dX0_hourAt_24 : decode cX0_hourAt 24 = .ok (.iload_n 2, 1) := by decide +kernel
theorem dX0_hourAt_25 : decode cX0_hourAt 25 = .ok (.if_icmp .ne 5, 3) := by decide +kernel
theorem dX0_hourAt_28 : decode cX0_hourAt 28 = .ok (.iload_n 3, 1) := by decide +kernel
theorem dX0_hourAt_29 : decode cX0_hourAt 29 = .ok (.ireturn, 1) := by decide +kernel
theorem dX0_hourAt_30 : decode cX0_hourAt 30 = .ok (.iinc 3 1, 3) := by decide +kernel
theorem dX0_hourAt_33 : decode cX0_hourAt 33 = .ok (.goto (-31), 3) := by decide +kernel
theorem dX0_hourAt_36 : decode cX0_hourAt 36 = .ok (.bipush (-4), 2) := by decide +kernel
theorem dX0_hourAt_38 : decode cX0_hourAt 38 = .ok (.ireturn, 1) := by decide +kernel
theorem dX0_topOf_0 : decode cX0_topOf 0 = .ok (.aload_n 0, 1) := by decide +kernel
theorem dX0_topOf_1 : decode cX0_topOf 1 = .ok (.iload_n 1, 1) := by decide +kernel
theorem dX0_topOf_2 : decode cX0_topOf 2 = .ok (.invokevirtual 62, 3) := by decide +kernel
theorem dX0_topOf_5 : decode cX0_topOf 5 = .ok (.ifCond .eq 18, 3) := by decide +kernel
theorem dX0_topOf_8 : decode cX0_topOf 8 = .ok (.aload_n 0, 1) := by decide +kernel
theorem dX0_topOf_9 : decode cX0_topOf 9 = .ok (.iload_n 1, 1) := by decide +kernel
theorem dX0_topOf_10 : decode cX0_topOf 10 = .ok (.aload_n 0, 1) := by decide +kernel
theorem dX0_topOf_11 : decode cX0_topOf 11 = .ok (.iload_n 1, 1) := by decide +kernel
theorem dX0_topOf_12 : decode cX0_topOf 12 = .ok (.invokevirtual 69, 3) := by decide +kernel
theorem dX0_topOf_15 : decode cX0_topOf 15 = .ok (.iconst 1, 1) := by decide +kernel
theorem dX0_topOf_16 : decode cX0_topOf 16 = .ok (.isub, 1) := by decide +kernel
theorem dX0_topOf_17 : decode cX0_topOf 17 = .ok (.invokevirtual 73, 3) := by decide +kernel
theorem dX0_topOf_20 : decode cX0_topOf 20 = .ok (.goto 5, 3) := by decide +kernel
theorem dX0_topOf_23 : decode cX0_topOf 23 = .ok (.bipush (-4), 2) := by decide +kernel
theorem dX0_topOf_25 : decode cX0_topOf 25 = .ok (.ireturn, 1) := by decide +kernel
theorem dX0_needAbove_0 : decode cX0_needAbove 0 = .ok (.iload_n 1, 1) := by decide +kernel
theorem dX0_needAbove_1 : decode cX0_needAbove 1 = .ok (.iconst 2, 1) := by decide +kernel
theorem dX0_needAbove_2 : decode cX0_needAbove 2 = .ok (.if_icmp .ne 10, 3) := by decide +kernel
theorem dX0_needAbove_5 : decode cX0_needAbove 5 = .ok (.iload_n 0, 1) := by decide +kernel
theorem dX0_needAbove_6 : decode cX0_needAbove 6 = .ok (.iconst 2, 1) := by decide +kernel
theorem dX0_needAbove_7 : decode cX0_needAbove 7 = .ok (.if_icmp .ne 5, 3) := by decide +kernel
theorem dX0_needAbove_10 : decode cX0_needAbove 10 = .ok (.iconst 0, 1) := by decide +kernel
theorem dX0_needAbove_11 : decode cX0_needAbove 11 = .ok (.ireturn, 1) := by decide +kernel
theorem dX0_needAbove_12 : decode cX0_needAbove 12 = .ok (.iload_n 1, 1) := by decide +kernel
theorem dX0_needAbove_13 : decode cX0_needAbove 13 = .ok (.iconst 1, 1) := by decide +kernel
theorem dX0_needAbove_14 : decode cX0_needAbove 14 = .ok (.if_icmp .ne 7, 3) := by decide +kernel
theorem dX0_needAbove_17 : decode cX0_needAbove 17 = .ok (.iconst 2, 1) := by decide +kernel
theorem dX0_needAbove_18 : decode cX0_needAbove 18 = .ok (.goto 4, 3) := by decide +kernel
theorem dX0_needAbove_21 : decode cX0_needAbove 21 = .ok (.iconst 1, 1) := by decide +kernel
theorem dX0_needAbove_22 : decode cX0_needAbove 22 = .ok (.ireturn, 1) := by decide +kernel
theorem dX0_needOf_0 : decode cX0_needOf 0 = .ok (.aload_n 0, 1) := by decide +kernel
theorem dX0_needOf_1 : decode cX0_needOf 1 = .ok (.iload_n 1, 1) := by decide +kernel
theorem dX0_needOf_2 : decode cX0_needOf 2 = .ok (.invokevirtual 66, 3) := by decide +kernel
theorem dX0_needOf_5 : decode cX0_needOf 5 = .ok (.ifCond .ne 5, 3) := by decide +kernel
theorem dX0_needOf_8 : decode cX0_needOf 8 = .ok (.iconst 0, 1) := by decide +kernel
theorem dX0_needOf_9 : decode cX0_needOf 9 = .ok (.ireturn, 1) := by decide +kernel
theorem dX0_needOf_10 : decode cX0_needOf 10 = .ok (.aload_n 0, 1) := by decide +kernel
theorem dX0_needOf_11 : decode cX0_needOf 11 = .ok (.aload_n 0, 1) := by decide +kernel
theorem dX0_needOf_12 : decode cX0_needOf 12 = .ok (.getfield 21, 3) := by decide +kernel
theorem dX0_needOf_15 : decode cX0_needOf 15 = .ok (.iload_n 1, 1) := by decide +kernel
theorem dX0_needOf_16 : decode cX0_needOf 16 = .ok (.iaload, 1) := by decide +kernel
theorem dX0_needOf_17 : decode cX0_needOf 17 = .ok (.aload_n 0, 1) := by decide +kernel
theorem dX0_needOf_18 : decode cX0_needOf 18 = .ok (.getfield 24, 3) := by decide +kernel
theorem dX0_needOf_21 : decode cX0_needOf 21 = .ok (.iload_n 1, 1) := by decide +kernel
theorem dX0_needOf_22 : decode cX0_needOf 22 = .ok (.iaload, 1) := by decide +kernel
theorem dX0_needOf_23 : decode cX0_needOf 23 = .ok (.iconst 1, 1) := by decide +kernel
theorem dX0_needOf_24 : decode cX0_needOf 24 = .ok (.isub, 1) := by decide +kernel
theorem dX0_needOf_25 : decode cX0_needOf 25 = .ok (.invokevirtual 73, 3) := by decide +kernel
theorem dX0_needOf_28 : decode cX0_needOf 28 = .ok (.istore_n 2, 1) := by decide +kernel
theorem dX0_needOf_29 : decode cX0_needOf 29 = .ok (.aload_n 0, 1) := by decide +kernel
theorem dX0_needOf_30 : decode cX0_needOf 30 = .ok (.iload_n 2, 1) := by decide +kernel
theorem dX0_needOf_31 : decode cX0_needOf 31 = .ok (.invokevirtual 66, 3) := by decide +kernel
theorem dX0_needOf_34 : decode cX0_needOf 34 = .ok (.ifCond .eq 12, 3) := by decide +kernel
theorem dX0_needOf_37 : decode cX0_needOf 37 = .ok (.aload_n 0, 1) := by decide +kernel
theorem dX0_needOf_38 : decode cX0_needOf 38 = .ok (.getfield 15, 3) := by decide +kernel
theorem dX0_needOf_41 : decode cX0_needOf 41 = .ok (.iload_n 2, 1) := by decide +kernel
theorem dX0_needOf_42 : decode cX0_needOf 42 = .ok (.iaload, 1) := by decide +kernel
theorem dX0_needOf_43 : decode cX0_needOf 43 = .ok (.goto 4, 3) := by decide +kernel
theorem dX0_needOf_46 : decode cX0_needOf 46 = .ok (.iconst (-1), 1) := by decide +kernel
theorem dX0_needOf_47 : decode cX0_needOf 47 = .ok (.aload_n 0, 1) := by decide +kernel
theorem dX0_needOf_48 : decode cX0_needOf 48 = .ok (.getfield 15, 3) := by decide +kernel
theorem dX0_needOf_51 : decode cX0_needOf 51 = .ok (.iload_n 1, 1) := by decide +kernel
theorem dX0_needOf_52 : decode cX0_needOf 52 = .ok (.iaload, 1) := by decide +kernel
theorem dX0_needOf_53 : decode cX0_needOf 53 = .ok (.invokestatic 77, 3) := by decide +kernel
theorem dX0_needOf_56 : decode cX0_needOf 56 = .ok (.ireturn, 1) := by decide +kernel
theorem dX0_freeIn_0 : decode cX0_freeIn 0 = .ok (.aload_n 0, 1) := by decide +kernel
theorem dX0_freeIn_1 : decode cX0_freeIn 1 = .ok (.iload_n 1, 1) := by decide +kernel
theorem dX0_freeIn_2 : decode cX0_freeIn 2 = .ok (.invokevirtual 80, 3) := by decide +kernel
theorem dX0_freeIn_5 : decode cX0_freeIn 5 = .ok (.istore_n 2, 1) := by decide +kernel
theorem dX0_freeIn_6 : decode cX0_freeIn 6 = .ok (.iconst 0, 1) := by decide +kernel
theorem dX0_freeIn_7 : decode cX0_freeIn 7 = .ok (.istore_n 3, 1) := by decide +kernel
theorem dX0_freeIn_8 : decode cX0_freeIn 8 = .ok (.iload_n 3, 1) := by decide +kernel
theorem dX0_freeIn_9 : decode cX0_freeIn 9 = .ok (.bipush 7, 2) := by decide +kernel
theorem dX0_freeIn_11 : decode cX0_freeIn 11 = .ok (.if_icmp .ge 27, 3) := by decide +kernel
theorem dX0_freeIn_14 : decode cX0_freeIn 14 = .ok (.aload_n 0, 1) := by decide +kernel
theorem dX0_freeIn_15 : decode cX0_freeIn 15 = .ok (.getfield 21, 3) := by decide +kernel
theorem dX0_freeIn_18 : decode cX0_freeIn 18 = .ok (.iload_n 3, 1) := by decide +kernel
theorem dX0_freeIn_19 : decode cX0_freeIn 19 = .ok (.iaload, 1) := by decide +kernel
theorem dX0_freeIn_20 : decode cX0_freeIn 20 = .ok (.iload_n 1, 1) := by decide +kernel
theorem dX0_freeIn_21 : decode cX0_freeIn 21 = .ok (.if_icmp .ne 11, 3) := by decide +kernel
theorem dX0_freeIn_24 : decode cX0_freeIn 24 = .ok (.iload_n 2, 1) := by decide +kernel
theorem dX0_freeIn_25 : decode cX0_freeIn 25 = .ok (.aload_n 0, 1) := by decide +kernel
theorem dX0_freeIn_26 : decode cX0_freeIn 26 = .ok (.iload_n 3, 1) := by decide +kernel
theorem dX0_freeIn_27 : decode cX0_freeIn 27 = .ok (.invokevirtual 83, 3) := by decide +kernel
theorem dX0_freeIn_30 : decode cX0_freeIn 30 = .ok (.isub, 1) := by decide +kernel
theorem dX0_freeIn_31 : decode cX0_freeIn 31 = .ok (.istore_n 2, 1) := by decide +kernel
theorem dX0_freeIn_32 : decode cX0_freeIn 32 = .ok (.iinc 3 1, 3) := by decide +kernel
theorem dX0_freeIn_35 : decode cX0_freeIn 35 = .ok (.goto (-27), 3) := by decide +kernel
theorem dX0_freeIn_38 : decode cX0_freeIn 38 = .ok (.iload_n 2, 1) := by decide +kernel
theorem dX0_freeIn_39 : decode cX0_freeIn 39 = .ok (.ireturn, 1) := by decide +kernel
theorem dX0_hasRoomFor_0 : decode cX0_hasRoomFor 0 = .ok (.aload_n 0, 1) := by decide +kernel
theorem dX0_hasRoomFor_1 : decode cX0_hasRoomFor 1 = .ok (.iload_n 1, 1) := by decide +kernel
theorem dX0_hasRoomFor_2 : decode cX0_hasRoomFor 2 = .ok (.invokevirtual 66, 3) := by decide +kernel
theorem dX0_hasRoomFor_5 : decode cX0_hasRoomFor 5 = .ok (.ifCond .eq 20, 3) := by decide +kernel
theorem dX0_hasRoomFor_8 : decode cX0_hasRoomFor 8 = .ok (.aload_n 0, 1) := by decide +kernel
theorem dX0_hasRoomFor_9 : decode cX0_hasRoomFor 9 = .ok (.iload_n 2, 1) := by decide +kernel
theorem dX0_hasRoomFor_10 : decode cX0_hasRoomFor 10 = .ok (.invokevirtual 62, 3) := by decide +kernel
theorem dX0_hasRoomFor_13 : decode cX0_hasRoomFor 13 = .ok (.ifCond .eq 12, 3) := by decide +kernel
theorem dX0_hasRoomFor_16 : decode cX0_hasRoomFor 16 = .ok (.aload_n 0, 1) := by decide +kernel
theorem dX0_hasRoomFor_17 : decode cX0_hasRoomFor 17 = .ok (.iload_n 1, 1) := by decide +kernel
theorem dX0_hasRoomFor_18 : decode cX0_hasRoomFor 18 = .ok (.invokevirtual 86, 3) := by decide +kernel
theorem dX0_hasRoomFor_21 : decode cX0_hasRoomFor 21 = .ok (.iload_n 2, 1) := by decide +kernel
theorem dX0_hasRoomFor_22 : decode cX0_hasRoomFor 22 = .ok (.if_icmp .ne 5, 3) := by decide +kernel
theorem dX0_hasRoomFor_25 : decode cX0_hasRoomFor 25 = .ok (.iconst 0, 1) := by decide +kernel
theorem dX0_hasRoomFor_26 : decode cX0_hasRoomFor 26 = .ok (.ireturn, 1) := by decide +kernel
theorem dX0_hasRoomFor_27 : decode cX0_hasRoomFor 27 = .ok (.aload_n 0, 1) := by decide +kernel
theorem dX0_hasRoomFor_28 : decode cX0_hasRoomFor 28 = .ok (.aload_n 0, 1) := by decide +kernel
theorem dX0_hasRoomFor_29 : decode cX0_hasRoomFor 29 = .ok (.iload_n 2, 1) := by decide +kernel
theorem dX0_hasRoomFor_30 : decode cX0_hasRoomFor 30 = .ok (.invokevirtual 89, 3) := by decide +kernel
theorem dX0_hasRoomFor_33 : decode cX0_hasRoomFor 33 = .ok (.invokevirtual 92, 3) := by decide +kernel
theorem dX0_hasRoomFor_36 : decode cX0_hasRoomFor 36 = .ok (.istore_n 3, 1) := by decide +kernel
theorem dX0_hasRoomFor_37 : decode cX0_hasRoomFor 37 = .ok (.iload_n 3, 1) := by decide +kernel
theorem dX0_hasRoomFor_38 : decode cX0_hasRoomFor 38 = .ok (.iconst 3, 1) := by decide +kernel
theorem dX0_hasRoomFor_39 : decode cX0_hasRoomFor 39 = .ok (.if_icmp .eq 24, 3) := by decide +kernel
theorem dX0_hasRoomFor_42 : decode cX0_hasRoomFor 42 = .ok (.iload_n 3, 1) := by decide +kernel
theorem dX0_hasRoomFor_43 : decode cX0_hasRoomFor 43 = .ok (.aload_n 0, 1) := by decide +kernel
theorem dX0_hasRoomFor_44 : decode cX0_hasRoomFor 44 = .ok (.iload_n 1, 1) := by decide +kernel
theorem dX0_hasRoomFor_45 : decode cX0_hasRoomFor 45 = .ok (.invokevirtual 92, 3) := by decide +kernel
theorem dX0_hasRoomFor_48 : decode cX0_hasRoomFor 48 = .ok (.invokestatic 77, 3) := by decide +kernel
theorem dX0_hasRoomFor_51 : decode cX0_hasRoomFor 51 = .ok (.aload_n 0, 1) := by decide +kernel
theorem dX0_hasRoomFor_52 : decode cX0_hasRoomFor 52 = .ok (.iload_n 2, 1) := by decide +kernel
theorem dX0_hasRoomFor_53 : decode cX0_hasRoomFor 53 = .ok (.invokevirtual 95, 3) := by decide +kernel
theorem dX0_hasRoomFor_56 : decode cX0_hasRoomFor 56 = .ok (.if_icmp .gt 7, 3) := by decide +kernel
theorem dX0_hasRoomFor_59 : decode cX0_hasRoomFor 59 = .ok (.iconst 1, 1) := by decide +kernel
theorem dX0_hasRoomFor_60 : decode cX0_hasRoomFor 60 = .ok (.goto 4, 3) := by decide +kernel
theorem dX0_hasRoomFor_63 : decode cX0_hasRoomFor 63 = .ok (.iconst 0, 1) := by decide +kernel
theorem dX0_hasRoomFor_64 : decode cX0_hasRoomFor 64 = .ok (.ireturn, 1) := by decide +kernel
theorem dX0_canBePutIn_0 : decode cX0_canBePutIn 0 = .ok (.aload_n 0, 1) := by decide +kernel
theorem dX0_canBePutIn_1 : decode cX0_canBePutIn 1 = .ok (.iload_n 1, 1) := by decide +kernel
theorem dX0_canBePutIn_2 : decode cX0_canBePutIn 2 = .ok (.invokevirtual 98, 3) := by decide +kernel
theorem dX0_canBePutIn_5 : decode cX0_canBePutIn 5 = .ok (.ifCond .ne 23, 3) := by decide +kernel
theorem dX0_canBePutIn_8 : decode cX0_canBePutIn 8 = .ok (.aload_n 0, 1) := by decide +kernel
theorem dX0_canBePutIn_9 : decode cX0_canBePutIn 9 = .ok (.invokevirtual 101, 3) := by decide +kernel
theorem dX0_canBePutIn_12 : decode cX0_canBePutIn 12 = .ok (.ifCond .ne 16, 3) := by decide +kernel
theorem dX0_canBePutIn_15 : decode cX0_canBePutIn 15 = .ok (.aload_n 0, 1) := by decide +kernel
theorem dX0_canBePutIn_16 : decode cX0_canBePutIn 16 = .ok (.iload_n 1, 1) := by decide +kernel
theorem dX0_canBePutIn_17 : decode cX0_canBePutIn 17 = .ok (.iload_n 2, 1) := by decide +kernel
theorem dX0_canBePutIn_18 : decode cX0_canBePutIn 18 = .ok (.invokevirtual 55, 3) := by decide +kernel
theorem dX0_canBePutIn_21 : decode cX0_canBePutIn 21 = .ok (.ifCond .eq 7, 3) := by decide +kernel
theorem dX0_canBePutIn_24 : decode cX0_canBePutIn 24 = .ok (.iconst 1, 1) := by decide +kernel
theorem dX0_canBePutIn_25 : decode cX0_canBePutIn 25 = .ok (.goto 4, 3) := by decide +kernel
theorem dX0_canBePutIn_28 : decode cX0_canBePutIn 28 = .ok (.iconst 0, 1) := by decide +kernel
theorem dX0_canBePutIn_29 : decode cX0_canBePutIn 29 = .ok (.ireturn, 1) := by decide +kernel
theorem dX0_setOnTop_0 : decode cX0_setOnTop 0 = .ok (.aload_n 0, 1) := by decide +kernel
theorem dX0_setOnTop_1 : decode cX0_setOnTop 1 = .ok (.iload_n 1, 1) := by decide +kernel
theorem dX0_setOnTop_2 : decode cX0_setOnTop 2 = .ok (.invokevirtual 66, 3) := by decide +kernel
theorem dX0_setOnTop_5 : decode cX0_setOnTop 5 = .ok (.ifCond .eq 29, 3) := by decide +kernel
theorem dX0_setOnTop_8 : decode cX0_setOnTop 8 = .ok (.aload_n 0, 1) := by decide +kernel
theorem dX0_setOnTop_9 : decode cX0_setOnTop 9 = .ok (.iload_n 2, 1) := by decide +kernel
theorem dX0_setOnTop_10 : decode cX0_setOnTop 10 = .ok (.invokevirtual 62, 3) := by decide +kernel
theorem dX0_setOnTop_13 : decode cX0_setOnTop 13 = .ok (.ifCond .eq 21, 3) := by decide +kernel
theorem dX0_setOnTop_16 : decode cX0_setOnTop 16 = .ok (.aload_n 0, 1) := by decide +kernel
theorem dX0_setOnTop_17 : decode cX0_setOnTop 17 = .ok (.getfield 24, 3) := by decide +kernel
theorem dX0_setOnTop_20 : decode cX0_setOnTop 20 = .ok (.iload_n 1, 1) := by decide +kernel
theorem dX0_setOnTop_21 : decode cX0_setOnTop 21 = .ok (.aload_n 0, 1) := by decide +kernel
theorem dX0_setOnTop_22 : decode cX0_setOnTop 22 = .ok (.iload_n 2, 1) := by decide +kernel
theorem dX0_setOnTop_23 : decode cX0_setOnTop 23 = .ok (.invokevirtual 69, 3) := by decide +kernel
theorem dX0_setOnTop_26 : decode cX0_setOnTop 26 = .ok (.iastore, 1) := by decide +kernel
theorem dX0_setOnTop_27 : decode cX0_setOnTop 27 = .ok (.aload_n 0, 1) := by decide +kernel
theorem dX0_setOnTop_28 : decode cX0_setOnTop 28 = .ok (.getfield 21, 3) := by decide +kernel
theorem dX0_setOnTop_31 : decode cX0_setOnTop 31 = .ok (.iload_n 1, 1) := by decide +kernel
theorem dX0_setOnTop_32 : decode cX0_setOnTop 32 = .ok (.iload_n 2, 1) := by decide +kernel
theorem dX0_setOnTop_33 : decode cX0_setOnTop 33 = .ok (.iastore, 1) := by decide +kernel
theorem dX0_setOnTop_34 : decode cX0_setOnTop 34 = .ok (.return_, 1) := by decide +kernel
theorem dX0_setKind_0 : decode cX0_setKind 0 = .ok (.aload_n 0, 1) := by decide +kernel
theorem dX0_setKind_1 : decode cX0_setKind 1 = .ok (.iload_n 1, 1) := by decide +kernel
theorem dX0_setKind_2 : decode cX0_setKind 2 = .ok (.invokevirtual 66, 3) := by decide +kernel
theorem dX0_setKind_5 : decode cX0_setKind 5 = .ok (.ifCond .eq 10, 3) := by decide +kernel
theorem dX0_setKind_8 : decode cX0_setKind 8 = .ok (.aload_n 0, 1) := by decide +kernel
theorem dX0_setKind_9 : decode cX0_setKind 9 = .ok (.getfield 15, 3) := by decide +kernel
theorem dX0_setKind_12 : decode cX0_setKind 12 = .ok (.iload_n 1, 1) := by decide +kernel
theorem dX0_setKind_13 : decode cX0_setKind 13 = .ok (.iload_n 2, 1) := by decide +kernel
theorem dX0_setKind_14 : decode cX0_setKind 14 = .ok (.iastore, 1) := by decide +kernel
theorem dX0_setKind_15 : decode cX0_setKind 15 = .ok (.return_, 1) := by decide +kernel
theorem dX0_deepen_0 : decode cX0_deepen 0 = .ok (.aload_n 0, 1) := by decide +kernel
theorem dX0_deepen_1 : decode cX0_deepen 1 = .ok (.iload_n 1, 1) := by decide +kernel
theorem dX0_deepen_2 : decode cX0_deepen 2 = .ok (.invokevirtual 62, 3) := by decide +kernel
theorem dX0_deepen_5 : decode cX0_deepen 5 = .ok (.ifCond .eq 13, 3) := by decide +kernel
theorem dX0_deepen_8 : decode cX0_deepen 8 = .ok (.aload_n 0, 1) := by decide +kernel
theorem dX0_deepen_9 : decode cX0_deepen 9 = .ok (.getfield 9, 3) := by decide +kernel
theorem dX0_deepen_12 : decode cX0_deepen 12 = .ok (.iload_n 1, 1) := by decide +kernel
theorem dX0_deepen_13 : decode cX0_deepen 13 = .ok (.dup2, 1) := by decide +kernel
theorem dX0_deepen_14 : decode cX0_deepen 14 = .ok (.iaload, 1) := by decide +kernel
theorem dX0_deepen_15 : decode cX0_deepen 15 = .ok (.iconst 1, 1) := by decide +kernel
theorem dX0_deepen_16 : decode cX0_deepen 16 = .ok (.iadd, 1) := by decide +kernel
theorem dX0_deepen_17 : decode cX0_deepen 17 = .ok (.iastore, 1) := by decide +kernel
theorem dX0_deepen_18 : decode cX0_deepen 18 = .ok (.return_, 1) := by decide +kernel
theorem dX0_isAbove_0 : decode cX0_isAbove 0 = .ok (.aload_n 0, 1) := by decide +kernel
theorem dX0_isAbove_1 : decode cX0_isAbove 1 = .ok (.iload_n 2, 1) := by decide +kernel
theorem dX0_isAbove_2 : decode cX0_isAbove 2 = .ok (.invokevirtual 98, 3) := by decide +kernel
theorem dX0_isAbove_5 : decode cX0_isAbove 5 = .ok (.ifCond .eq 33, 3) := by decide +kernel
theorem dX0_isAbove_8 : decode cX0_isAbove 8 = .ok (.aload_n 0, 1) := by decide +kernel
theorem dX0_isAbove_9 : decode cX0_isAbove 9 = .ok (.iload_n 1, 1) := by decide +kernel
theorem dX0_isAbove_10 : decode cX0_isAbove 10 = .ok (.invokevirtual 86, 3) := by decide +kernel
theorem dX0_isAbove_13 : decode cX0_isAbove 13 = .ok (.aload_n 0, 1) := by decide +kernel
theorem dX0_isAbove_14 : decode cX0_isAbove 14 = .ok (.iload_n 2, 1) := by decide +kernel
theorem dX0_isAbove_15 : decode cX0_isAbove 15 = .ok (.invokevirtual 86, 3) := by decide +kernel
theorem dX0_isAbove_18 : decode cX0_isAbove 18 = .ok (.if_icmp .ne 20, 3) := by decide +kernel
theorem dX0_isAbove_21 : decode cX0_isAbove 21 = .ok (.aload_n 0, 1) := by decide +kernel
theorem dX0_isAbove_22 : decode cX0_isAbove 22 = .ok (.iload_n 1, 1) := by decide +kernel
theorem dX0_isAbove_23 : decode cX0_isAbove 23 = .ok (.invokevirtual 105, 3) := by decide +kernel
theorem dX0_isAbove_26 : decode cX0_isAbove 26 = .ok (.aload_n 0, 1) := by decide +kernel
theorem dX0_isAbove_27 : decode cX0_isAbove 27 = .ok (.iload_n 2, 1) := by decide +kernel
theorem dX0_isAbove_28 : decode cX0_isAbove 28 = .ok (.invokevirtual 105, 3) := by decide +kernel
theorem dX0_isAbove_31 : decode cX0_isAbove 31 = .ok (.if_icmp .le 7, 3) := by decide +kernel
theorem dX0_isAbove_34 : decode cX0_isAbove 34 = .ok (.iconst 1, 1) := by decide +kernel
theorem dX0_isAbove_35 : decode cX0_isAbove 35 = .ok (.goto 4, 3) := by decide +kernel
theorem dX0_isAbove_38 : decode cX0_isAbove 38 = .ok (.iconst 0, 1) := by decide +kernel
theorem dX0_isAbove_39 : decode cX0_isAbove 39 = .ok (.ireturn, 1) := by decide +kernel
theorem dX0_bitsAbove_0 : decode cX0_bitsAbove 0 = .ok (.iconst 0, 1) := by decide +kernel
theorem dX0_bitsAbove_1 : decode cX0_bitsAbove 1 = .ok (.istore_n 2, 1) := by decide +kernel
theorem dX0_bitsAbove_2 : decode cX0_bitsAbove 2 = .ok (.iconst 0, 1) := by decide +kernel
theorem dX0_bitsAbove_3 : decode cX0_bitsAbove 3 = .ok (.istore_n 3, 1) := by decide +kernel
theorem dX0_bitsAbove_4 : decode cX0_bitsAbove 4 = .ok (.iload_n 3, 1) := by decide +kernel
theorem dX0_bitsAbove_5 : decode cX0_bitsAbove 5 = .ok (.aload_n 0, 1) := by decide +kernel
theorem dX0_bitsAbove_6 : decode cX0_bitsAbove 6 = .ok (.getfield 34, 3) := by decide +kernel
theorem dX0_bitsAbove_9 : decode cX0_bitsAbove 9 = .ok (.if_icmp .ge 24, 3) := by decide +kernel
theorem dX0_bitsAbove_12 : decode cX0_bitsAbove 12 = .ok (.aload_n 0, 1) := by decide +kernel
theorem dX0_bitsAbove_13 : decode cX0_bitsAbove 13 = .ok (.iload_n 3, 1) := by decide +kernel
theorem dX0_bitsAbove_14 : decode cX0_bitsAbove 14 = .ok (.iload_n 1, 1) := by decide +kernel
theorem dX0_bitsAbove_15 : decode cX0_bitsAbove 15 = .ok (.invokevirtual 108, 3) := by decide +kernel
theorem dX0_bitsAbove_18 : decode cX0_bitsAbove 18 = .ok (.ifCond .eq 9, 3) := by decide +kernel
theorem dX0_bitsAbove_21 : decode cX0_bitsAbove 21 = .ok (.iload_n 2, 1) := by decide +kernel
theorem dX0_bitsAbove_22 : decode cX0_bitsAbove 22 = .ok (.iconst 1, 1) := by decide +kernel
theorem dX0_bitsAbove_23 : decode cX0_bitsAbove 23 = .ok (.iload_n 3, 1) := by decide +kernel
theorem dX0_bitsAbove_24 : decode cX0_bitsAbove 24 = .ok (.ishl, 1) := by decide +kernel
theorem dX0_bitsAbove_25 : decode cX0_bitsAbove 25 = .ok (.ior, 1) := by decide +kernel
theorem dX0_bitsAbove_26 : decode cX0_bitsAbove 26 = .ok (.istore_n 2, 1) := by decide +kernel
theorem dX0_bitsAbove_27 : decode cX0_bitsAbove 27 = .ok (.iinc 3 1, 3) := by decide +kernel
theorem dX0_bitsAbove_30 : decode cX0_bitsAbove 30 = .ok (.goto (-26), 3) := by decide +kernel
theorem dX0_bitsAbove_33 : decode cX0_bitsAbove 33 = .ok (.iload_n 2, 1) := by decide +kernel
theorem dX0_bitsAbove_34 : decode cX0_bitsAbove 34 = .ok (.ireturn, 1) := by decide +kernel
theorem dX0_takeUp_0 : decode cX0_takeUp 0 = .ok (.aload_n 0, 1) := by decide +kernel
theorem dX0_takeUp_1 : decode cX0_takeUp 1 = .ok (.iload_n 1, 1) := by decide +kernel
theorem dX0_takeUp_2 : decode cX0_takeUp 2 = .ok (.invokevirtual 98, 3) := by decide +kernel
theorem dX0_takeUp_5 : decode cX0_takeUp 5 = .ok (.ifCond .ne 5, 3) := by decide +kernel
theorem dX0_takeUp_8 : decode cX0_takeUp 8 = .ok (.iconst 0, 1) := by decide +kernel
theorem dX0_takeUp_9 : decode cX0_takeUp 9 = .ok (.ireturn, 1) := by decide +kernel
theorem dX0_takeUp_10 : decode cX0_takeUp 10 = .ok (.iconst 0, 1) := by decide +kernel
theorem dX0_takeUp_11 : decode cX0_takeUp 11 = .ok (.istore_n 2, 1) := by decide +kernel
theorem dX0_takeUp_12 : decode cX0_takeUp 12 = .ok (.iconst 0, 1) := by decide +kernel
theorem dX0_takeUp_13 : decode cX0_takeUp 13 = .ok (.istore_n 3, 1) := by decide +kernel
theorem dX0_takeUp_14 : decode cX0_takeUp 14 = .ok (.iload_n 3, 1) := by decide +kernel
theorem dX0_takeUp_15 : decode cX0_takeUp 15 = .ok (.bipush 7, 2) := by decide +kernel
theorem dX0_takeUp_17 : decode cX0_takeUp 17 = .ok (.if_icmp .ge 31, 3) := by decide +kernel
theorem dX0_takeUp_20 : decode cX0_takeUp 20 = .ok (.aload_n 0, 1) := by decide +kernel
theorem dX0_takeUp_21 : decode cX0_takeUp 21 = .ok (.iload_n 3, 1) := by decide +kernel
theorem dX0_takeUp_22 : decode cX0_takeUp 22 = .ok (.iload_n 1, 1) := by decide +kernel
theorem dX0_takeUp_23 : decode cX0_takeUp 23 = .ok (.invokevirtual 108, 3) := by decide +kernel
theorem dX0_takeUp_26 : decode cX0_takeUp 26 = .ok (.ifCond .eq 16, 3) := by decide +kernel
theorem dX0_takeUp_29 : decode cX0_takeUp 29 = .ok (.aload_n 0, 1) := by decide +kernel
theorem dX0_takeUp_30 : decode cX0_takeUp 30 = .ok (.getfield 24, 3) := by decide +kernel
theorem dX0_takeUp_33 : decode cX0_takeUp 33 = .ok (.iload_n 3, 1) := by decide +kernel
theorem dX0_takeUp_34 : decode cX0_takeUp 34 = .ok (.dup2, 1) := by decide +kernel
theorem dX0_takeUp_35 : decode cX0_takeUp 35 = .ok (.iaload, 1) := by decide +kernel
theorem dX0_takeUp_36 : decode cX0_takeUp 36 = .ok (.iconst 1, 1) := by decide +kernel
theorem dX0_takeUp_37 : decode cX0_takeUp 37 = .ok (.isub, 1) := by decide +kernel
theorem dX0_takeUp_38 : decode cX0_takeUp 38 = .ok (.iastore, 1) := by decide +kernel
theorem dX0_takeUp_39 : decode cX0_takeUp 39 = .ok (.iinc 2 1, 3) := by decide +kernel
theorem dX0_takeUp_42 : decode cX0_takeUp 42 = .ok (.iinc 3 1, 3) := by decide +kernel
theorem dX0_takeUp_45 : decode cX0_takeUp 45 = .ok (.goto (-31), 3) := by decide +kernel
theorem dX0_takeUp_48 : decode cX0_takeUp 48 = .ok (.aload_n 0, 1) := by decide +kernel
theorem dX0_takeUp_49 : decode cX0_takeUp 49 = .ok (.getfield 21, 3) := by decide +kernel
theorem dX0_takeUp_52 : decode cX0_takeUp 52 = .ok (.iload_n 1, 1) := by decide +kernel
theorem dX0_takeUp_53 : decode cX0_takeUp 53 = .ok (.bipush (-4), 2) := by decide +kernel
theorem dX0_takeUp_55 : decode cX0_takeUp 55 = .ok (.iastore, 1) := by decide +kernel
theorem dX0_takeUp_56 : decode cX0_takeUp 56 = .ok (.aload_n 0, 1) := by decide +kernel
theorem dX0_takeUp_57 : decode cX0_takeUp 57 = .ok (.dup, 1) := by decide +kernel
theorem dX0_takeUp_58 : decode cX0_takeUp 58 = .ok (.getfield 40, 3) := by decide +kernel
theorem dX0_takeUp_61 : decode cX0_takeUp 61 = .ok (.iload_n 2, 1) := by decide +kernel
theorem dX0_takeUp_62 : decode cX0_takeUp 62 = .ok (.iadd, 1) := by decide +kernel
theorem dX0_takeUp_63 : decode cX0_takeUp 63 = .ok (.putfield 40, 3) := by decide +kernel
theorem dX0_takeUp_66 : decode cX0_takeUp 66 = .ok (.iload_n 2, 1) := by decide +kernel
theorem dX0_takeUp_67 : decode cX0_takeUp 67 = .ok (.ireturn, 1) := by decide +kernel
theorem dX0_isLoose_0 : decode cX0_isLoose 0 = .ok (.iload_n 0, 1) := by decide +kernel
theorem dX0_isLoose_1 : decode cX0_isLoose 1 = .ok (.ifCond .eq 8, 3) := by decide +kernel
theorem dX0_isLoose_4 : decode cX0_isLoose 4 = .ok (.iload_n 0, 1) := by decide +kernel
theorem dX0_isLoose_5 : decode cX0_isLoose 5 = .ok (.iconst 2, 1) := by decide +kernel
theorem dX0_isLoose_6 : decode cX0_isLoose 6 = .ok (.if_icmp .ne 7, 3) := by decide +kernel
theorem dX0_isLoose_9 : decode cX0_isLoose 9 = .ok (.iconst 1, 1) := by decide +kernel
theorem dX0_isLoose_10 : decode cX0_isLoose 10 = .ok (.goto 4, 3) := by decide +kernel
theorem dX0_isLoose_13 : decode cX0_isLoose 13 = .ok (.iconst 0, 1) := by decide +kernel
theorem dX0_isLoose_14 : decode cX0_isLoose 14 = .ok (.ireturn, 1) := by decide +kernel
theorem dX0_rabbitPlot_0 : decode cX0_rabbitPlot 0 = .ok (.aload_n 0, 1) := by decide +kernel
theorem dX0_rabbitPlot_1 : decode cX0_rabbitPlot 1 = .ok (.getfield 30, 3) := by decide +kernel
theorem dX0_rabbitPlot_4 : decode cX0_rabbitPlot 4 = .ok (.ifCond .le 12, 3) := by decide +kernel
theorem dX0_rabbitPlot_7 : decode cX0_rabbitPlot 7 = .ok (.iload_n 1, 1) := by decide +kernel
theorem dX0_rabbitPlot_8 : decode cX0_rabbitPlot 8 = .ok (.aload_n 0, 1) := by decide +kernel
theorem dX0_rabbitPlot_9 : decode cX0_rabbitPlot 9 = .ok (.getfield 30, 3) := by decide +kernel
theorem dX0_rabbitPlot_12 : decode cX0_rabbitPlot 12 = .ok (.irem, 1) := by decide +kernel
theorem dX0_rabbitPlot_13 : decode cX0_rabbitPlot 13 = .ok (.goto 5, 3) := by decide +kernel
theorem dX0_rabbitPlot_16 : decode cX0_rabbitPlot 16 = .ok (.bipush (-4), 2) := by decide +kernel
theorem dX0_rabbitPlot_18 : decode cX0_rabbitPlot 18 = .ok (.ireturn, 1) := by decide +kernel
theorem dX0_passYears_0 : decode cX0_passYears 0 = .ok (.iconst 0, 1) := by decide +kernel
theorem dX0_passYears_1 : decode cX0_passYears 1 = .ok (.istore_n 2, 1) := by decide +kernel
theorem dX0_passYears_2 : decode cX0_passYears 2 = .ok (.iconst 0, 1) := by decide +kernel
theorem dX0_passYears_3 : decode cX0_passYears 3 = .ok (.istore_n 3, 1) := by decide +kernel
theorem dX0_passYears_4 : decode cX0_passYears 4 = .ok (.iload_n 3, 1) := by decide +kernel
theorem dX0_passYears_5 : decode cX0_passYears 5 = .ok (.iload_n 1, 1) := by decide +kernel
theorem dX0_passYears_6 : decode cX0_passYears 6 = .ok (.if_icmp .ge 66, 3) := by decide +kernel
theorem dX0_passYears_9 : decode cX0_passYears 9 = .ok (.aload_n 0, 1) := by decide +kernel
theorem dX0_passYears_10 : decode cX0_passYears 10 = .ok (.aload_n 0, 1) := by decide +kernel
theorem dX0_passYears_11 : decode cX0_passYears 11 = .ok (.aload_n 0, 1) := by decide +kernel
theorem dX0_passYears_12 : decode cX0_passYears 12 = .ok (.getfield 37, 3) := by decide +kernel
theorem dX0_passYears_15 : decode cX0_passYears 15 = .ok (.invokevirtual 111, 3) := by decide +kernel
theorem dX0_passYears_18 : decode cX0_passYears 18 = .ok (.invokevirtual 89, 3) := by decide +kernel
theorem dX0_passYears_21 : decode cX0_passYears 21 = .ok (.istore 4, 2) := by decide +kernel
theorem dX0_passYears_23 : decode cX0_passYears 23 = .ok (.aload_n 0, 1) := by decide +kernel
theorem dX0_passYears_24 : decode cX0_passYears 24 = .ok (.iload 4, 2) := by decide +kernel
theorem dX0_passYears_26 : decode cX0_passYears 26 = .ok (.invokevirtual 66, 3) := by decide +kernel
theorem dX0_passYears_29 : decode cX0_passYears 29 = .ok (.ifCond .eq 27, 3) := by decide +kernel
theorem dX0_passYears_32 : decode cX0_passYears 32 = .ok (.aload_n 0, 1) := by decide +kernel
theorem dX0_passYears_33 : decode cX0_passYears 33 = .ok (.iload 4, 2) := by decide +kernel
theorem dX0_passYears_35 : decode cX0_passYears 35 = .ok (.invokevirtual 92, 3) := by decide +kernel
theorem dX0_passYears_38 : decode cX0_passYears 38 = .ok (.invokestatic 114, 3) := by decide +kernel
theorem dX0_passYears_41 : decode cX0_passYears 41 = .ok (.ifCond .eq 15, 3) := by decide +kernel
theorem dX0_passYears_44 : decode cX0_passYears 44 = .ok (.aload_n 0, 1) := by decide +kernel
theorem dX0_passYears_45 : decode cX0_passYears 45 = .ok (.getfield 21, 3) := by decide +kernel
theorem dX0_passYears_48 : decode cX0_passYears 48 = .ok (.iload 4, 2) := by decide +kernel
theorem dX0_passYears_50 : decode cX0_passYears 50 = .ok (.bipush (-4), 2) := by decide +kernel
theorem dX0_passYears_52 : decode cX0_passYears 52 = .ok (.iastore, 1) := by decide +kernel
theorem dX0_passYears_53 : decode cX0_passYears 53 = .ok (.iinc 2 1, 3) := by decide +kernel
theorem dX0_passYears_56 : decode cX0_passYears 56 = .ok (.aload_n 0, 1) := by decide +kernel
theorem dX0_passYears_57 : decode cX0_passYears 57 = .ok (.dup, 1) := by decide +kernel
theorem dX0_passYears_58 : decode cX0_passYears 58 = .ok (.getfield 37, 3) := by decide +kernel
theorem dX0_passYears_61 : decode cX0_passYears 61 = .ok (.iconst 1, 1) := by decide +kernel
theorem dX0_passYears_62 : decode cX0_passYears 62 = .ok (.iadd, 1) := by decide +kernel
theorem dX0_passYears_63 : decode cX0_passYears 63 = .ok (.putfield 37, 3) := by decide +kernel
theorem dX0_passYears_66 : decode cX0_passYears 66 = .ok (.iinc 3 1, 3) := by decide +kernel
theorem dX0_passYears_69 : decode cX0_passYears 69 = .ok (.goto (-65), 3) := by decide +kernel
theorem dX0_passYears_72 : decode cX0_passYears 72 = .ok (.iload_n 2, 1) := by decide +kernel
theorem dX0_passYears_73 : decode cX0_passYears 73 = .ok (.ireturn, 1) := by decide +kernel
theorem dX0_visitsTo_0 : decode cX0_visitsTo 0 = .ok (.iconst 0, 1) := by decide +kernel
theorem dX0_visitsTo_1 : decode cX0_visitsTo 1 = .ok (.istore_n 3, 1) := by decide +kernel
theorem dX0_visitsTo_2 : decode cX0_visitsTo 2 = .ok (.iconst 0, 1) := by decide +kernel
theorem dX0_visitsTo_3 : decode cX0_visitsTo 3 = .ok (.istore 4, 2) := by decide +kernel
theorem dX0_visitsTo_5 : decode cX0_visitsTo 5 = .ok (.iload 4, 2) := by decide +kernel
theorem dX0_visitsTo_7 : decode cX0_visitsTo 7 = .ok (.iload_n 2, 1) := by decide +kernel
theorem dX0_visitsTo_8 : decode cX0_visitsTo 8 = .ok (.if_icmp .ge 27, 3) := by decide +kernel
theorem dX0_visitsTo_11 : decode cX0_visitsTo 11 = .ok (.aload_n 0, 1) := by decide +kernel
theorem dX0_visitsTo_12 : decode cX0_visitsTo 12 = .ok (.aload_n 0, 1) := by decide +kernel
theorem dX0_visitsTo_13 : decode cX0_visitsTo 13 = .ok (.getfield 37, 3) := by decide +kernel
theorem dX0_visitsTo_16 : decode cX0_visitsTo 16 = .ok (.iload 4, 2) := by decide +kernel
theorem dX0_visitsTo_18 : decode cX0_visitsTo 18 = .ok (.iadd, 1) := by decide +kernel
theorem dX0_visitsTo_19 : decode cX0_visitsTo 19 = .ok (.invokevirtual 111, 3) := by decide +kernel
theorem dX0_visitsTo_22 : decode cX0_visitsTo 22 = .ok (.iload_n 1, 1) := by decide +kernel
theorem dX0_visitsTo_23 : decode cX0_visitsTo 23 = .ok (.if_icmp .ne 6, 3) := by decide +kernel
theorem dX0_visitsTo_26 : decode cX0_visitsTo 26 = .ok (.iinc 3 1, 3) := by decide +kernel
theorem dX0_visitsTo_29 : decode cX0_visitsTo 29 = .ok (.iinc 4 1, 3) := by decide +kernel
theorem dX0_visitsTo_32 : decode cX0_visitsTo 32 = .ok (.goto (-27), 3) := by decide +kernel
theorem dX0_visitsTo_35 : decode cX0_visitsTo 35 = .ok (.iload_n 3, 1) := by decide +kernel
theorem dX0_visitsTo_36 : decode cX0_visitsTo 36 = .ok (.ireturn, 1) := by decide +kernel
theorem dX0_throwsBorneBy_0 : decode cX0_throwsBorneBy 0 = .ok (.iconst 0, 1) := by decide +kernel
theorem dX0_throwsBorneBy_1 : decode cX0_throwsBorneBy 1 = .ok (.istore_n 2, 1) := by decide +kernel
theorem dX0_throwsBorneBy_2 : decode cX0_throwsBorneBy 2 = .ok (.iconst 0, 1) := by decide +kernel
theorem dX0_throwsBorneBy_3 : decode cX0_throwsBorneBy 3 = .ok (.istore_n 3, 1) := by decide +kernel
theorem dX0_throwsBorneBy_4 : decode cX0_throwsBorneBy 4 = .ok (.iload_n 3, 1) := by decide +kernel
theorem dX0_throwsBorneBy_5 : decode cX0_throwsBorneBy 5 = .ok (.aload_n 0, 1) := by decide +kernel
theorem dX0_throwsBorneBy_6 : decode cX0_throwsBorneBy 6 = .ok (.getfield 34, 3) := by decide +kernel
theorem dX0_throwsBorneBy_9 : decode cX0_throwsBorneBy 9 = .ok (.if_icmp .ge 40, 3) := by decide +kernel
theorem dX0_throwsBorneBy_12 : decode cX0_throwsBorneBy 12 = .ok (.iload_n 3, 1) := by decide +kernel
theorem dX0_throwsBorneBy_13 : decode cX0_throwsBorneBy 13 = .ok (.iload_n 1, 1) := by decide +kernel
theorem dX0_throwsBorneBy_14 : decode cX0_throwsBorneBy 14 = .ok (.if_icmp .eq 12, 3) := by decide +kernel
theorem dX0_throwsBorneBy_17 : decode cX0_throwsBorneBy 17 = .ok (.aload_n 0, 1) := by decide +kernel
theorem dX0_throwsBorneBy_18 : decode cX0_throwsBorneBy 18 = .ok (.iload_n 3, 1) := by decide +kernel
theorem dX0_throwsBorneBy_19 : decode cX0_throwsBorneBy 19 = .ok (.iload_n 1, 1) := by decide +kernel
theorem dX0_throwsBorneBy_20 : decode cX0_throwsBorneBy 20 = .ok (.invokevirtual 108, 3) := by decide +kernel
theorem dX0_throwsBorneBy_23 : decode cX0_throwsBorneBy 23 = .ok (.ifCond .eq 20, 3) := by decide +kernel
theorem dX0_throwsBorneBy_26 : decode cX0_throwsBorneBy 26 = .ok (.aload_n 0, 1) := by decide +kernel
theorem dX0_throwsBorneBy_27 : decode cX0_throwsBorneBy 27 = .ok (.iload_n 3, 1) := by decide +kernel
theorem dX0_throwsBorneBy_28 : decode cX0_throwsBorneBy 28 = .ok (.invokevirtual 92, 3) := by decide +kernel
theorem dX0_throwsBorneBy_31 : decode cX0_throwsBorneBy 31 = .ok (.invokestatic 114, 3) := by decide +kernel
theorem dX0_throwsBorneBy_34 : decode cX0_throwsBorneBy 34 = .ok (.ifCond .ne 6, 3) := by decide +kernel
theorem dX0_throwsBorneBy_37 : decode cX0_throwsBorneBy 37 = .ok (.bipush 8, 2) := by decide +kernel
theorem dX0_throwsBorneBy_39 : decode cX0_throwsBorneBy 39 = .ok (.ireturn, 1) := by decide +kernel
theorem dX0_throwsBorneBy_40 : decode cX0_throwsBorneBy 40 = .ok (.iinc 2 1, 3) := by decide +kernel
theorem dX0_throwsBorneBy_43 : decode cX0_throwsBorneBy 43 = .ok (.iinc 3 1, 3) := by decide +kernel
theorem dX0_throwsBorneBy_46 : decode cX0_throwsBorneBy 46 = .ok (.goto (-42), 3) := by decide +kernel
theorem dX0_throwsBorneBy_49 : decode cX0_throwsBorneBy 49 = .ok (.iload_n 2, 1) := by decide +kernel
theorem dX0_throwsBorneBy_50 : decode cX0_throwsBorneBy 50 = .ok (.iconst 1, 1) := by decide +kernel
theorem dX0_throwsBorneBy_51 : decode cX0_throwsBorneBy 51 = .ok (.isub, 1) := by decide +kernel
theorem dX0_throwsBorneBy_52 : decode cX0_throwsBorneBy 52 = .ok (.ireturn, 1) := by decide +kernel
theorem dX0_actByDraw_0 : decode cX0_actByDraw 0 = .ok (.aload_n 0, 1) := by decide +kernel
theorem dX0_actByDraw_1 : decode cX0_actByDraw 1 = .ok (.getfield 34, 3) := by decide +kernel
theorem dX0_actByDraw_4 : decode cX0_actByDraw 4 = .ok (.iconst 1, 1) := by decide +kernel
theorem dX0_actByDraw_5 : decode cX0_actByDraw 5 = .ok (.if_icmp .lt 11, 3) := by decide +kernel
theorem dX0_actByDraw_8 : decode cX0_actByDraw 8 = .ok (.aload_n 0, 1) := by decide +kernel
theorem dX0_actByDraw_9 : decode cX0_actByDraw 9 = .ok (.getfield 30, 3) := by decide +kernel
theorem dX0_actByDraw_12 : decode cX0_actByDraw 12 = .ok (.iconst 1, 1) := by decide +kernel
theorem dX0_actByDraw_13 : decode cX0_actByDraw 13 = .ok (.if_icmp .ge 4, 3) := by decide +kernel
theorem dX0_actByDraw_16 : decode cX0_actByDraw 16 = .ok (.return_, 1) := by decide +kernel
theorem dX0_actByDraw_17 : decode cX0_actByDraw 17 = .ok (.iload_n 1, 1) := by decide +kernel
theorem dX0_actByDraw_18 : decode cX0_actByDraw 18 = .ok (.aload_n 0, 1) := by decide +kernel
theorem dX0_actByDraw_19 : decode cX0_actByDraw 19 = .ok (.getfield 34, 3) := by decide +kernel
theorem dX0_actByDraw_22 : decode cX0_actByDraw 22 = .ok (.irem, 1) := by decide +kernel
theorem dX0_actByDraw_23 : decode cX0_actByDraw 23 = .ok (.istore_n 2, 1) := by decide +kernel
theorem dX0_actByDraw_24 : decode cX0_actByDraw 24 = .ok (.iload_n 1, 1) := by decide +kernel
theorem dX0_actByDraw_25 : decode cX0_actByDraw 25 = .ok (.bipush 8, 2) := by decide +kernel
theorem dX0_actByDraw_27 : decode cX0_actByDraw 27 = .ok (.idiv, 1) := by decide +kernel
theorem dX0_actByDraw_28 : decode cX0_actByDraw 28 = .ok (.aload_n 0, 1) := by decide +kernel
theorem dX0_actByDraw_29 : decode cX0_actByDraw 29 = .ok (.getfield 30, 3) := by decide +kernel
theorem dX0_actByDraw_32 : decode cX0_actByDraw 32 = .ok (.irem, 1) := by decide +kernel
theorem dX0_actByDraw_33 : decode cX0_actByDraw 33 = .ok (.istore_n 3, 1) := by decide +kernel
theorem dX0_actByDraw_34 : decode cX0_actByDraw 34 = .ok (.aload_n 0, 1) := by decide +kernel
theorem dX0_actByDraw_35 : decode cX0_actByDraw 35 = .ok (.iload_n 2, 1) := by decide +kernel
theorem dX0_actByDraw_36 : decode cX0_actByDraw 36 = .ok (.invokevirtual 98, 3) := by decide +kernel
theorem dX0_actByDraw_39 : decode cX0_actByDraw 39 = .ok (.ifCond .ne 21, 3) := by decide +kernel
theorem dX0_actByDraw_42 : decode cX0_actByDraw 42 = .ok (.aload_n 0, 1) := by decide +kernel
theorem dX0_actByDraw_43 : decode cX0_actByDraw 43 = .ok (.iload_n 2, 1) := by decide +kernel
theorem dX0_actByDraw_44 : decode cX0_actByDraw 44 = .ok (.iload_n 3, 1) := by decide +kernel
theorem dX0_actByDraw_45 : decode cX0_actByDraw 45 = .ok (.invokevirtual 117, 3) := by decide +kernel
theorem dX0_actByDraw_48 : decode cX0_actByDraw 48 = .ok (.ifCond .eq 27, 3) := by decide +kernel
theorem dX0_actByDraw_51 : decode cX0_actByDraw 51 = .ok (.aload_n 0, 1) := by decide +kernel
theorem dX0_actByDraw_52 : decode cX0_actByDraw 52 = .ok (.iload_n 2, 1) := by decide +kernel
theorem dX0_actByDraw_53 : decode cX0_actByDraw 53 = .ok (.iload_n 3, 1) := by decide +kernel
theorem dX0_actByDraw_54 : decode cX0_actByDraw 54 = .ok (.invokevirtual 58, 3) := by decide +kernel
theorem dX0_actByDraw_57 : decode cX0_actByDraw 57 = .ok (.goto 18, 3) := by decide +kernel
theorem dX0_actByDraw_60 : decode cX0_actByDraw 60 = .ok (.iload_n 1, 1) := by decide +kernel
theorem dX0_actByDraw_61 : decode cX0_actByDraw 61 = .ok (.bipush 64, 2) := by decide +kernel
theorem dX0_actByDraw_63 : decode cX0_actByDraw 63 = .ok (.idiv, 1) := by decide +kernel
theorem dX0_actByDraw_64 : decode cX0_actByDraw 64 = .ok (.iconst 4, 1) := by decide +kernel
theorem dX0_actByDraw_65 : decode cX0_actByDraw 65 = .ok (.irem, 1) := by decide +kernel
theorem dX0_actByDraw_66 : decode cX0_actByDraw 66 = .ok (.ifCond .ne 9, 3) := by decide +kernel
theorem dX0_actByDraw_69 : decode cX0_actByDraw 69 = .ok (.aload_n 0, 1) := by decide +kernel
theorem dX0_actByDraw_70 : decode cX0_actByDraw 70 = .ok (.iload_n 2, 1) := by decide +kernel
theorem dX0_actByDraw_71 : decode cX0_actByDraw 71 = .ok (.invokevirtual 120, 3) := by decide +kernel
theorem dX0_actByDraw_74 : decode cX0_actByDraw 74 = .ok (.pop, 1) := by decide +kernel
theorem dX0_actByDraw_75 : decode cX0_actByDraw 75 = .ok (.return_, 1) := by decide +kernel
theorem dX0_lyingCount_0 : decode cX0_lyingCount 0 = .ok (.iconst 0, 1) := by decide +kernel
theorem dX0_lyingCount_1 : decode cX0_lyingCount 1 = .ok (.istore_n 1, 1) := by decide +kernel
theorem dX0_lyingCount_2 : decode cX0_lyingCount 2 = .ok (.iconst 0, 1) := by decide +kernel
theorem dX0_lyingCount_3 : decode cX0_lyingCount 3 = .ok (.istore_n 2, 1) := by decide +kernel
theorem dX0_lyingCount_4 : decode cX0_lyingCount 4 = .ok (.iload_n 2, 1) := by decide +kernel
theorem dX0_lyingCount_5 : decode cX0_lyingCount 5 = .ok (.aload_n 0, 1) := by decide +kernel
theorem dX0_lyingCount_6 : decode cX0_lyingCount 6 = .ok (.getfield 34, 3) := by decide +kernel
theorem dX0_lyingCount_9 : decode cX0_lyingCount 9 = .ok (.if_icmp .ge 20, 3) := by decide +kernel
theorem dX0_lyingCount_12 : decode cX0_lyingCount 12 = .ok (.aload_n 0, 1) := by decide +kernel
theorem dX0_lyingCount_13 : decode cX0_lyingCount 13 = .ok (.iload_n 2, 1) := by decide +kernel
theorem dX0_lyingCount_14 : decode cX0_lyingCount 14 = .ok (.invokevirtual 98, 3) := by decide +kernel
theorem dX0_lyingCount_17 : decode cX0_lyingCount 17 = .ok (.ifCond .eq 6, 3) := by decide +kernel
theorem dX0_lyingCount_20 : decode cX0_lyingCount 20 = .ok (.iinc 1 1, 3) := by decide +kernel
theorem dX0_lyingCount_23 : decode cX0_lyingCount 23 = .ok (.iinc 2 1, 3) := by decide +kernel
theorem dX0_lyingCount_26 : decode cX0_lyingCount 26 = .ok (.goto (-22), 3) := by decide +kernel
theorem dX0_lyingCount_29 : decode cX0_lyingCount 29 = .ok (.iload_n 1, 1) := by decide +kernel
theorem dX0_lyingCount_30 : decode cX0_lyingCount 30 = .ok (.ireturn, 1) := by decide +kernel
theorem dX0_lyingWorth_0 : decode cX0_lyingWorth 0 = .ok (.iconst 0, 1) := by decide +kernel
theorem dX0_lyingWorth_1 : decode cX0_lyingWorth 1 = .ok (.istore_n 1, 1) := by decide +kernel
theorem dX0_lyingWorth_2 : decode cX0_lyingWorth 2 = .ok (.iconst 0, 1) := by decide +kernel
theorem dX0_lyingWorth_3 : decode cX0_lyingWorth 3 = .ok (.istore_n 2, 1) := by decide +kernel
theorem dX0_lyingWorth_4 : decode cX0_lyingWorth 4 = .ok (.iload_n 2, 1) := by decide +kernel
theorem dX0_lyingWorth_5 : decode cX0_lyingWorth 5 = .ok (.aload_n 0, 1) := by decide +kernel
theorem dX0_lyingWorth_6 : decode cX0_lyingWorth 6 = .ok (.getfield 34, 3) := by decide +kernel
theorem dX0_lyingWorth_9 : decode cX0_lyingWorth 9 = .ok (.if_icmp .ge 25, 3) := by decide +kernel
theorem dX0_lyingWorth_12 : decode cX0_lyingWorth 12 = .ok (.aload_n 0, 1) := by decide +kernel
theorem dX0_lyingWorth_13 : decode cX0_lyingWorth 13 = .ok (.iload_n 2, 1) := by decide +kernel
theorem dX0_lyingWorth_14 : decode cX0_lyingWorth 14 = .ok (.invokevirtual 98, 3) := by decide +kernel
theorem dX0_lyingWorth_17 : decode cX0_lyingWorth 17 = .ok (.ifCond .eq 11, 3) := by decide +kernel
theorem dX0_lyingWorth_20 : decode cX0_lyingWorth 20 = .ok (.iload_n 1, 1) := by decide +kernel
theorem dX0_lyingWorth_21 : decode cX0_lyingWorth 21 = .ok (.aload_n 0, 1) := by decide +kernel
theorem dX0_lyingWorth_22 : decode cX0_lyingWorth 22 = .ok (.iload_n 2, 1) := by decide +kernel
theorem dX0_lyingWorth_23 : decode cX0_lyingWorth 23 = .ok (.invokevirtual 123, 3) := by decide +kernel
theorem dX0_lyingWorth_26 : decode cX0_lyingWorth 26 = .ok (.iadd, 1) := by decide +kernel
theorem dX0_lyingWorth_27 : decode cX0_lyingWorth 27 = .ok (.istore_n 1, 1) := by decide +kernel
theorem dX0_lyingWorth_28 : decode cX0_lyingWorth 28 = .ok (.iinc 2 1, 3) := by decide +kernel
theorem dX0_lyingWorth_31 : decode cX0_lyingWorth 31 = .ok (.goto (-27), 3) := by decide +kernel
theorem dX0_lyingWorth_34 : decode cX0_lyingWorth 34 = .ok (.iload_n 1, 1) := by decide +kernel
theorem dX0_lyingWorth_35 : decode cX0_lyingWorth 35 = .ok (.ireturn, 1) := by decide +kernel
theorem dX0_setCount_0 : decode cX0_setCount 0 = .ok (.iconst 1, 1) := by decide +kernel
theorem dX0_setCount_1 : decode cX0_setCount 1 = .ok (.aload_n 0, 1) := by decide +kernel
theorem dX0_setCount_2 : decode cX0_setCount 2 = .ok (.getfield 34, 3) := by decide +kernel
theorem dX0_setCount_5 : decode cX0_setCount 5 = .ok (.ishl, 1) := by decide +kernel
theorem dX0_setCount_6 : decode cX0_setCount 6 = .ok (.ireturn, 1) := by decide +kernel
theorem dX0_allLie_0 : decode cX0_allLie 0 = .ok (.iconst 0, 1) := by decide +kernel
theorem dX0_allLie_1 : decode cX0_allLie 1 = .ok (.istore_n 2, 1) := by decide +kernel
theorem dX0_allLie_2 : decode cX0_allLie 2 = .ok (.iload_n 2, 1) := by decide +kernel
theorem dX0_allLie_3 : decode cX0_allLie 3 = .ok (.aload_n 0, 1) := by decide +kernel
theorem dX0_allLie_4 : decode cX0_allLie 4 = .ok (.getfield 34, 3) := by decide +kernel
theorem dX0_allLie_7 : decode cX0_allLie 7 = .ok (.if_icmp .ge 28, 3) := by decide +kernel
theorem dX0_allLie_10 : decode cX0_allLie 10 = .ok (.iload_n 1, 1) := by decide +kernel
theorem dX0_allLie_11 : decode cX0_allLie 11 = .ok (.iload_n 2, 1) := by decide +kernel
theorem dX0_allLie_12 : decode cX0_allLie 12 = .ok (.ishr, 1) := by decide +kernel
theorem dX0_allLie_13 : decode cX0_allLie 13 = .ok (.iconst 1, 1) := by decide +kernel
theorem dX0_allLie_14 : decode cX0_allLie 14 = .ok (.iand, 1) := by decide +kernel
theorem dX0_allLie_15 : decode cX0_allLie 15 = .ok (.iconst 1, 1) := by decide +kernel
theorem dX0_allLie_16 : decode cX0_allLie 16 = .ok (.if_icmp .ne 13, 3) := by decide +kernel
theorem dX0_allLie_19 : decode cX0_allLie 19 = .ok (.aload_n 0, 1) := by decide +kernel
theorem dX0_allLie_20 : decode cX0_allLie 20 = .ok (.iload_n 2, 1) := by decide +kernel
theorem dX0_allLie_21 : decode cX0_allLie 21 = .ok (.invokevirtual 98, 3) := by decide +kernel
theorem dX0_allLie_24 : decode cX0_allLie 24 = .ok (.ifCond .ne 5, 3) := by decide +kernel
theorem dX0_allLie_27 : decode cX0_allLie 27 = .ok (.iconst 0, 1) := by decide +kernel
theorem dX0_allLie_28 : decode cX0_allLie 28 = .ok (.ireturn, 1) := by decide +kernel
theorem dX0_allLie_29 : decode cX0_allLie 29 = .ok (.iinc 2 1, 3) := by decide +kernel
theorem dX0_allLie_32 : decode cX0_allLie 32 = .ok (.goto (-30), 3) := by decide +kernel
theorem dX0_allLie_35 : decode cX0_allLie 35 = .ok (.iconst 1, 1) := by decide +kernel
theorem dX0_allLie_36 : decode cX0_allLie 36 = .ok (.ireturn, 1) := by decide +kernel
theorem dX0_worthOfSet_0 : decode cX0_worthOfSet 0 = .ok (.iconst 0, 1) := by decide +kernel
theorem dX0_worthOfSet_1 : decode cX0_worthOfSet 1 = .ok (.istore_n 2, 1) := by decide +kernel
theorem dX0_worthOfSet_2 : decode cX0_worthOfSet 2 = .ok (.iconst 0, 1) := by decide +kernel
theorem dX0_worthOfSet_3 : decode cX0_worthOfSet 3 = .ok (.istore_n 3, 1) := by decide +kernel
theorem dX0_worthOfSet_4 : decode cX0_worthOfSet 4 = .ok (.iload_n 3, 1) := by decide +kernel
theorem dX0_worthOfSet_5 : decode cX0_worthOfSet 5 = .ok (.aload_n 0, 1) := by decide +kernel
theorem dX0_worthOfSet_6 : decode cX0_worthOfSet 6 = .ok (.getfield 34, 3) := by decide +kernel
theorem dX0_worthOfSet_9 : decode cX0_worthOfSet 9 = .ok (.if_icmp .ge 26, 3) := by decide +kernel
theorem dX0_worthOfSet_12 : decode cX0_worthOfSet 12 = .ok (.iload_n 1, 1) := by decide +kernel
theorem dX0_worthOfSet_13 : decode cX0_worthOfSet 13 = .ok (.iload_n 3, 1) := by decide +kernel
theorem dX0_worthOfSet_14 : decode cX0_worthOfSet 14 = .ok (.ishr, 1) := by decide +kernel
theorem dX0_worthOfSet_15 : decode cX0_worthOfSet 15 = .ok (.iconst 1, 1) := by decide +kernel
theorem dX0_worthOfSet_16 : decode cX0_worthOfSet 16 = .ok (.iand, 1) := by decide +kernel
theorem dX0_worthOfSet_17 : decode cX0_worthOfSet 17 = .ok (.iconst 1, 1) := by decide +kernel
theorem dX0_worthOfSet_18 : decode cX0_worthOfSet 18 = .ok (.if_icmp .ne 11, 3) := by decide +kernel
theorem dX0_worthOfSet_21 : decode cX0_worthOfSet 21 = .ok (.iload_n 2, 1) := by decide +kernel
theorem dX0_worthOfSet_22 : decode cX0_worthOfSet 22 = .ok (.aload_n 0, 1) := by decide +kernel
theorem dX0_worthOfSet_23 : decode cX0_worthOfSet 23 = .ok (.iload_n 3, 1) := by decide +kernel
theorem dX0_worthOfSet_24 : decode cX0_worthOfSet 24 = .ok (.invokevirtual 123, 3) := by decide +kernel
theorem dX0_worthOfSet_27 : decode cX0_worthOfSet 27 = .ok (.iadd, 1) := by decide +kernel
theorem dX0_worthOfSet_28 : decode cX0_worthOfSet 28 = .ok (.istore_n 2, 1) := by decide +kernel
theorem dX0_worthOfSet_29 : decode cX0_worthOfSet 29 = .ok (.iinc 3 1, 3) := by decide +kernel
theorem dX0_worthOfSet_32 : decode cX0_worthOfSet 32 = .ok (.goto (-28), 3) := by decide +kernel
theorem dX0_worthOfSet_35 : decode cX0_worthOfSet 35 = .ok (.iload_n 2, 1) := by decide +kernel
theorem dX0_worthOfSet_36 : decode cX0_worthOfSet 36 = .ok (.ireturn, 1) := by decide +kernel
theorem dX0_stirOf_0 : decode cX0_stirOf 0 = .ok (.iconst 0, 1) := by decide +kernel
theorem dX0_stirOf_1 : decode cX0_stirOf 1 = .ok (.istore_n 2, 1) := by decide +kernel
theorem dX0_stirOf_2 : decode cX0_stirOf 2 = .ok (.iconst 0, 1) := by decide +kernel
theorem dX0_stirOf_3 : decode cX0_stirOf 3 = .ok (.istore_n 3, 1) := by decide +kernel
theorem dX0_stirOf_4 : decode cX0_stirOf 4 = .ok (.iload_n 3, 1) := by decide +kernel
theorem dX0_stirOf_5 : decode cX0_stirOf 5 = .ok (.aload_n 0, 1) := by decide +kernel
theorem dX0_stirOf_6 : decode cX0_stirOf 6 = .ok (.getfield 34, 3) := by decide +kernel
theorem dX0_stirOf_9 : decode cX0_stirOf 9 = .ok (.if_icmp .ge 26, 3) := by decide +kernel
theorem dX0_stirOf_12 : decode cX0_stirOf 12 = .ok (.iload_n 1, 1) := by decide +kernel
theorem dX0_stirOf_13 : decode cX0_stirOf 13 = .ok (.iload_n 3, 1) := by decide +kernel
theorem dX0_stirOf_14 : decode cX0_stirOf 14 = .ok (.ishr, 1) := by decide +kernel
theorem dX0_stirOf_15 : decode cX0_stirOf 15 = .ok (.iconst 1, 1) := by decide +kernel
theorem dX0_stirOf_16 : decode cX0_stirOf 16 = .ok (.iand, 1) := by decide +kernel
theorem dX0_stirOf_17 : decode cX0_stirOf 17 = .ok (.iconst 1, 1) := by decide +kernel
theorem dX0_stirOf_18 : decode cX0_stirOf 18 = .ok (.if_icmp .ne 11, 3) := by decide +kernel
theorem dX0_stirOf_21 : decode cX0_stirOf 21 = .ok (.iload_n 2, 1) := by decide +kernel
theorem dX0_stirOf_22 : decode cX0_stirOf 22 = .ok (.aload_n 0, 1) := by decide +kernel
theorem dX0_stirOf_23 : decode cX0_stirOf 23 = .ok (.iload_n 3, 1) := by decide +kernel
theorem dX0_stirOf_24 : decode cX0_stirOf 24 = .ok (.invokevirtual 126, 3) := by decide +kernel
theorem dX0_stirOf_27 : decode cX0_stirOf 27 = .ok (.ior, 1) := by decide +kernel
theorem dX0_stirOf_28 : decode cX0_stirOf 28 = .ok (.istore_n 2, 1) := by decide +kernel
theorem dX0_stirOf_29 : decode cX0_stirOf 29 = .ok (.iinc 3 1, 3) := by decide +kernel
theorem dX0_stirOf_32 : decode cX0_stirOf 32 = .ok (.goto (-28), 3) := by decide +kernel
theorem dX0_stirOf_35 : decode cX0_stirOf 35 = .ok (.iload_n 2, 1) := by decide +kernel
theorem dX0_stirOf_36 : decode cX0_stirOf 36 = .ok (.iload_n 1, 1) := by decide +kernel
theorem dX0_stirOf_37 : decode cX0_stirOf 37 = .ok (.iconst (-1), 1) := by decide +kernel
theorem dX0_stirOf_38 : decode cX0_stirOf 38 = .ok (.ixor, 1) := by decide +kernel
theorem dX0_stirOf_39 : decode cX0_stirOf 39 = .ok (.iand, 1) := by decide +kernel
theorem dX0_stirOf_40 : decode cX0_stirOf 40 = .ok (.invokestatic 129, 3) := by decide +kernel
theorem dX0_stirOf_43 : decode cX0_stirOf 43 = .ok (.ireturn, 1) := by decide +kernel
theorem dX0_cheapestSet_0 : decode cX0_cheapestSet 0 = .ok (.iconst 0, 1) := by decide +kernel
theorem dX0_cheapestSet_1 : decode cX0_cheapestSet 1 = .ok (.istore_n 2, 1) := by decide +kernel
theorem dX0_cheapestSet_2 : decode cX0_cheapestSet 2 = .ok (.iconst 0, 1) := by decide +kernel
theorem dX0_cheapestSet_3 : decode cX0_cheapestSet 3 = .ok (.istore_n 3, 1) := by decide +kernel
theorem dX0_cheapestSet_4 : decode cX0_cheapestSet 4 = .ok (.iconst 1, 1) := by decide +kernel
theorem dX0_cheapestSet_5 : decode cX0_cheapestSet 5 = .ok (.istore 4, 2) := by decide +kernel
theorem dX0_cheapestSet_7 : decode cX0_cheapestSet 7 = .ok (.iload 4, 2) := by decide +kernel
theorem dX0_cheapestSet_9 : decode cX0_cheapestSet 9 = .ok (.aload_n 0, 1) := by decide +kernel
theorem dX0_cheapestSet_10 : decode cX0_cheapestSet 10 = .ok (.invokevirtual 134, 3) := by decide +kernel
theorem dX0_cheapestSet_13 : decode cX0_cheapestSet 13 = .ok (.if_icmp .ge 61, 3) := by decide +kernel
theorem dX0_cheapestSet_16 : decode cX0_cheapestSet 16 = .ok (.aload_n 0, 1) := by decide +kernel
theorem dX0_cheapestSet_17 : decode cX0_cheapestSet 17 = .ok (.iload 4, 2) := by decide +kernel
theorem dX0_cheapestSet_19 : decode cX0_cheapestSet 19 = .ok (.invokevirtual 138, 3) := by decide +kernel
theorem dX0_cheapestSet_22 : decode cX0_cheapestSet 22 = .ok (.iload_n 1, 1) := by decide +kernel
theorem dX0_cheapestSet_23 : decode cX0_cheapestSet 23 = .ok (.if_icmp .lt 45, 3) := by decide +kernel
theorem dX0_cheapestSet_26 : decode cX0_cheapestSet 26 = .ok (.aload_n 0, 1) := by decide +kernel
theorem dX0_cheapestSet_27 : decode cX0_cheapestSet 27 = .ok (.iload 4, 2) := by decide +kernel
theorem dX0_cheapestSet_29 : decode cX0_cheapestSet 29 = .ok (.invokevirtual 141, 3) := by decide +kernel
theorem dX0_cheapestSet_32 : decode cX0_cheapestSet 32 = .ok (.ifCond .eq 36, 3) := by decide +kernel
theorem dX0_cheapestSet_35 : decode cX0_cheapestSet 35 = .ok (.aload_n 0, 1) := by decide +kernel
theorem dX0_cheapestSet_36 : decode cX0_cheapestSet 36 = .ok (.iload 4, 2) := by decide +kernel
theorem dX0_cheapestSet_38 : decode cX0_cheapestSet 38 = .ok (.invokevirtual 144, 3) := by decide +kernel
theorem dX0_cheapestSet_41 : decode cX0_cheapestSet 41 = .ok (.bipush 8, 2) := by decide +kernel
theorem dX0_cheapestSet_43 : decode cX0_cheapestSet 43 = .ok (.imul, 1) := by decide +kernel
theorem dX0_cheapestSet_44 : decode cX0_cheapestSet 44 = .ok (.iload 4, 2) := by decide +kernel
theorem dX0_cheapestSet_46 : decode cX0_cheapestSet 46 = .ok (.invokestatic 129, 3) := by decide +kernel
theorem dX0_cheapestSet_49 : decode cX0_cheapestSet 49 = .ok (.iadd, 1) := by decide +kernel
theorem dX0_cheapestSet_50 : decode cX0_cheapestSet 50 = .ok (.istore 5, 2) := by decide +kernel
theorem dX0_cheapestSet_52 : decode cX0_cheapestSet 52 = .ok (.iload_n 2, 1) := by decide +kernel
theorem dX0_cheapestSet_53 : decode cX0_cheapestSet 53 = .ok (.ifCond .eq 9, 3) := by decide +kernel
theorem dX0_cheapestSet_56 : decode cX0_cheapestSet 56 = .ok (.iload 5, 2) := by decide +kernel
theorem dX0_cheapestSet_58 : decode cX0_cheapestSet 58 = .ok (.iload_n 3, 1) := by decide +kernel
theorem dX0_cheapestSet_59 : decode cX0_cheapestSet 59 = .ok (.if_icmp .ge 9, 3) := by decide +kernel
theorem dX0_cheapestSet_62 : decode cX0_cheapestSet 62 = .ok (.iload 5, 2) := by decide +kernel
theorem dX0_cheapestSet_64 : decode cX0_cheapestSet 64 = .ok (.istore_n 3, 1) := by decide +kernel
theorem dX0_cheapestSet_65 : decode cX0_cheapestSet 65 = .ok (.iload 4, 2) := by decide +kernel
theorem dX0_cheapestSet_67 : decode cX0_cheapestSet 67 = .ok (.istore_n 2, 1) := by decide +kernel
theorem dX0_cheapestSet_68 : decode cX0_cheapestSet 68 = .ok (.iinc 4 1, 3) := by decide +kernel
theorem dX0_cheapestSet_71 : decode cX0_cheapestSet 71 = .ok (.goto (-64), 3) := by decide +kernel
theorem dX0_cheapestSet_74 : decode cX0_cheapestSet 74 = .ok (.iload_n 2, 1) := by decide +kernel
theorem dX0_cheapestSet_75 : decode cX0_cheapestSet 75 = .ok (.ireturn, 1) := by decide +kernel
theorem dX1_init_0 : decode cX1_init 0 = .ok (.aload_n 0, 1) := by decide +kernel
theorem dX1_init_1 : decode cX1_init 1 = .ok (.invokespecial 3, 3) := by decide +kernel
theorem dX1_init_4 : decode cX1_init 4 = .ok (.aload_n 0, 1) := by decide +kernel
theorem dX1_init_5 : decode cX1_init 5 = .ok (.bipush 9, 2) := by decide +kernel
theorem dX1_init_7 : decode cX1_init 7 = .ok (.newarray .int, 2) := by decide +kernel
theorem dX1_init_9 : decode cX1_init 9 = .ok (.putfield 9, 3) := by decide +kernel
theorem dX1_init_12 : decode cX1_init 12 = .ok (.return_, 1) := by decide +kernel
theorem dX1_reckon_0 : decode cX1_reckon 0 = .ok (.aload_n 0, 1) := by decide +kernel
theorem dX1_reckon_1 : decode cX1_reckon 1 = .ok (.iload_n 1, 1) := by decide +kernel
theorem dX1_reckon_2 : decode cX1_reckon 2 = .ok (.iload_n 2, 1) := by decide +kernel
theorem dX1_reckon_3 : decode cX1_reckon 3 = .ok (.invokevirtual 15, 3) := by decide +kernel
theorem dX1_reckon_6 : decode cX1_reckon 6 = .ok (.iconst 0, 1) := by decide +kernel
theorem dX1_reckon_7 : decode cX1_reckon 7 = .ok (.istore 4, 2) := by decide +kernel
theorem dX1_reckon_9 : decode cX1_reckon 9 = .ok (.iconst 0, 1) := by decide +kernel
theorem dX1_reckon_10 : decode cX1_reckon 10 = .ok (.istore 5, 2) := by decide +kernel
theorem dX1_reckon_12 : decode cX1_reckon 12 = .ok (.iconst 0, 1) := by decide +kernel
theorem dX1_reckon_13 : decode cX1_reckon 13 = .ok (.istore 6, 2) := by decide +kernel
theorem dX1_reckon_15 : decode cX1_reckon 15 = .ok (.iload 6, 2) := by decide +kernel
theorem dX1_reckon_17 : decode cX1_reckon 17 = .ok (.bipush 8, 2) := by decide +kernel
theorem dX1_reckon_19 : decode cX1_reckon 19 = .ok (.if_icmp .gt 39, 3) := by decide +kernel
theorem dX1_reckon_22 : decode cX1_reckon 22 = .ok (.iload 5, 2) := by decide +kernel
theorem dX1_reckon_24 : decode cX1_reckon 24 = .ok (.aload_n 0, 1) := by decide +kernel
theorem dX1_reckon_25 : decode cX1_reckon 25 = .ok (.getfield 9, 3) := by decide +kernel
theorem dX1_reckon_28 : decode cX1_reckon 28 = .ok (.iload 6, 2) := by decide +kernel
theorem dX1_reckon_30 : decode cX1_reckon 30 = .ok (.iaload, 1) := by decide +kernel
theorem dX1_reckon_31 : decode cX1_reckon 31 = .ok (.iadd, 1) := by decide +kernel
theorem dX1_reckon_32 : decode cX1_reckon 32 = .ok (.istore 5, 2) := by decide +kernel
theorem dX1_reckon_34 : decode cX1_reckon 34 = .ok (.iload 6, 2) := by decide +kernel
theorem dX1_reckon_36 : decode cX1_reckon 36 = .ok (.iload_n 3, 1) := by decide +kernel
theorem dX1_reckon_37 : decode cX1_reckon 37 = .ok (.if_icmp .gt 15, 3) := by decide +kernel
theorem dX1_reckon_40 : decode cX1_reckon 40 = .ok (.iload 4, 2) := by decide +kernel
theorem dX1_reckon_42 : decode cX1_reckon 42 = .ok (.aload_n 0, 1) := by decide +kernel
theorem dX1_reckon_43 : decode cX1_reckon 43 = .ok (.getfield 9, 3) := by decide +kernel
theorem dX1_reckon_46 : decode cX1_reckon 46 = .ok (.iload 6, 2) := by decide +kernel
theorem dX1_reckon_48 : decode cX1_reckon 48 = .ok (.iaload, 1) := by decide +kernel
theorem dX1_reckon_49 : decode cX1_reckon 49 = .ok (.iadd, 1) := by decide +kernel
theorem dX1_reckon_50 : decode cX1_reckon 50 = .ok (.istore 4, 2) := by decide +kernel
theorem dX1_reckon_52 : decode cX1_reckon 52 = .ok (.iinc 6 1, 3) := by decide +kernel
theorem dX1_reckon_55 : decode cX1_reckon 55 = .ok (.goto (-40), 3) := by decide +kernel
theorem dX1_reckon_58 : decode cX1_reckon 58 = .ok (.iload 5, 2) := by decide +kernel
theorem dX1_reckon_60 : decode cX1_reckon 60 = .ok (.iload 4, 2) := by decide +kernel
theorem dX1_reckon_62 : decode cX1_reckon 62 = .ok (.invokestatic 19, 3) := by decide +kernel
theorem dX1_reckon_65 : decode cX1_reckon 65 = .ok (.istore 6, 2) := by decide +kernel
theorem dX1_reckon_67 : decode cX1_reckon 67 = .ok (.aload_n 0, 1) := by decide +kernel
theorem dX1_reckon_68 : decode cX1_reckon 68 = .ok (.iload 6, 2) := by decide +kernel
theorem dX1_reckon_70 : decode cX1_reckon 70 = .ok (.ifCond .le 11, 3) := by decide +kernel
theorem dX1_reckon_73 : decode cX1_reckon 73 = .ok (.iload 4, 2) := by decide +kernel
theorem dX1_reckon_75 : decode cX1_reckon 75 = .ok (.iload 6, 2) := by decide +kernel
theorem dX1_reckon_77 : decode cX1_reckon 77 = .ok (.idiv, 1) := by decide +kernel
theorem dX1_reckon_78 : decode cX1_reckon 78 = .ok (.goto 4, 3) := by decide +kernel
theorem dX1_reckon_81 : decode cX1_reckon 81 = .ok (.iconst 0, 1) := by decide +kernel
theorem dX1_reckon_82 : decode cX1_reckon 82 = .ok (.putfield 23, 3) := by decide +kernel
theorem dX1_reckon_85 : decode cX1_reckon 85 = .ok (.aload_n 0, 1) := by decide +kernel
theorem dX1_reckon_86 : decode cX1_reckon 86 = .ok (.iload 6, 2) := by decide +kernel
theorem dX1_reckon_88 : decode cX1_reckon 88 = .ok (.ifCond .le 11, 3) := by decide +kernel
theorem dX1_reckon_91 : decode cX1_reckon 91 = .ok (.iload 5, 2) := by decide +kernel
theorem dX1_reckon_93 : decode cX1_reckon 93 = .ok (.iload 6, 2) := by decide +kernel
theorem dX1_reckon_95 : decode cX1_reckon 95 = .ok (.idiv, 1) := by decide +kernel
theorem dX1_reckon_96 : decode cX1_reckon 96 = .ok (.goto 4, 3) := by decide +kernel
theorem dX1_reckon_99 : decode cX1_reckon 99 = .ok (.iconst 1, 1) := by decide +kernel
theorem dX1_reckon_100 : decode cX1_reckon 100 = .ok (.putfield 27, 3) := by decide +kernel
theorem dX1_reckon_103 : decode cX1_reckon 103 = .ok (.return_, 1) := by decide +kernel
theorem dX1_spread_0 : decode cX1_spread 0 = .ok (.iconst 0, 1) := by decide +kernel
theorem dX1_spread_1 : decode cX1_spread 1 = .ok (.istore_n 3, 1) := by decide +kernel
theorem dX1_spread_2 : decode cX1_spread 2 = .ok (.iload_n 3, 1) := by decide +kernel
theorem dX1_spread_3 : decode cX1_spread 3 = .ok (.bipush 8, 2) := by decide +kernel
theorem dX1_spread_5 : decode cX1_spread 5 = .ok (.if_icmp .gt 24, 3) := by decide +kernel
theorem dX1_spread_8 : decode cX1_spread 8 = .ok (.aload_n 0, 1) := by decide +kernel
theorem dX1_spread_9 : decode cX1_spread 9 = .ok (.getfield 9, 3) := by decide +kernel
theorem dX1_spread_12 : decode cX1_spread 12 = .ok (.iload_n 3, 1) := by decide +kernel
theorem dX1_spread_13 : decode cX1_spread 13 = .ok (.iload_n 3, 1) := by decide +kernel
theorem dX1_spread_14 : decode cX1_spread 14 = .ok (.ifCond .ne 7, 3) := by decide +kernel
theorem dX1_spread_17 : decode cX1_spread 17 = .ok (.iconst 1, 1) := by decide +kernel
theorem dX1_spread_18 : decode cX1_spread 18 = .ok (.goto 4, 3) := by decide +kernel
theorem dX1_spread_21 : decode cX1_spread 21 = .ok (.iconst 0, 1) := by decide +kernel
theorem dX1_spread_22 : decode cX1_spread 22 = .ok (.iastore, 1) := by decide +kernel
theorem dX1_spread_23 : decode cX1_spread 23 = .ok (.iinc 3 1, 3) := by decide +kernel
theorem dX1_spread_26 : decode cX1_spread 26 = .ok (.goto (-24), 3) := by decide +kernel
theorem dX1_spread_29 : decode cX1_spread 29 = .ok (.iconst 0, 1) := by decide +kernel
theorem dX1_spread_30 : decode cX1_spread 30 = .ok (.istore_n 3, 1) := by decide +kernel
theorem dX1_spread_31 : decode cX1_spread 31 = .ok (.iload_n 3, 1) := by decide +kernel
theorem dX1_spread_32 : decode cX1_spread 32 = .ok (.iload_n 1, 1) := by decide +kernel
theorem dX1_spread_33 : decode cX1_spread 33 = .ok (.if_icmp .ge 68, 3) := by decide +kernel
theorem dX1_spread_36 : decode cX1_spread 36 = .ok (.bipush 8, 2) := by decide +kernel
theorem dX1_spread_38 : decode cX1_spread 38 = .ok (.istore 4, 2) := by decide +kernel
theorem dX1_spread_40 : decode cX1_spread 40 = .ok (.iload 4, 2) := by decide +kernel
theorem dX1_spread_42 : decode cX1_spread 42 = .ok (.ifCond .le 40, 3) := by decide +kernel
theorem dX1_spread_45 : decode cX1_spread 45 = .ok (.aload_n 0, 1) := by decide +kernel
theorem dX1_spread_46 : decode cX1_spread 46 = .ok (.getfield 9, 3) := by decide +kernel
theorem dX1_spread_49 : decode cX1_spread 49 = .ok (.iload 4, 2) := by decide +kernel
theorem dX1_spread_51 : decode cX1_spread 51 = .ok (.aload_n 0, 1) := by decide +kernel
theorem dX1_spread_52 : decode cX1_spread 52 = .ok (.getfield 9, 3) := by decide +kernel
theorem dX1_spread_55 : decode cX1_spread 55 = .ok (.iload 4, 2) := by decide +kernel
theorem dX1_spread_57 : decode cX1_spread 57 = .ok (.iaload, 1) := by decide +kernel
theorem dX1_spread_58 : decode cX1_spread 58 = .ok (.bipush 10, 2) := by decide +kernel
theorem dX1_spread_60 : decode cX1_spread 60 = .ok (.iload_n 2, 1) := by decide +kernel
theorem dX1_spread_61 : decode cX1_spread 61 = .ok (.isub, 1) := by decide +kernel
theorem dX1_spread_62 : decode cX1_spread 62 = .ok (.imul, 1) := by decide +kernel
theorem dX1_spread_63 : decode cX1_spread 63 = .ok (.aload_n 0, 1) := by decide +kernel
theorem dX1_spread_64 : decode cX1_spread 64 = .ok (.getfield 9, 3) := by decide +kernel
theorem dX1_spread_67 : decode cX1_spread 67 = .ok (.iload 4, 2) := by decide +kernel
theorem dX1_spread_69 : decode cX1_spread 69 = .ok (.iconst 1, 1) := by decide +kernel
theorem dX1_spread_70 : decode cX1_spread 70 = .ok (.isub, 1) := by decide +kernel
theorem dX1_spread_71 : decode cX1_spread 71 = .ok (.iaload, 1) := by decide +kernel
theorem dX1_spread_72 : decode cX1_spread 72 = .ok (.iload_n 2, 1) := by decide +kernel
theorem dX1_spread_73 : decode cX1_spread 73 = .ok (.imul, 1) := by decide +kernel
theorem dX1_spread_74 : decode cX1_spread 74 = .ok (.iadd, 1) := by decide +kernel
theorem dX1_spread_75 : decode cX1_spread 75 = .ok (.iastore, 1) := by decide +kernel
theorem dX1_spread_76 : decode cX1_spread 76 = .ok (.iinc 4 (-1), 3) := by decide +kernel
theorem dX1_spread_79 : decode cX1_spread 79 = .ok (.goto (-39), 3) := by decide +kernel
theorem dX1_spread_82 : decode cX1_spread 82 = .ok (.aload_n 0, 1) := by decide +kernel
theorem dX1_spread_83 : decode cX1_spread 83 = .ok (.getfield 9, 3) := by decide +kernel
theorem dX1_spread_86 : decode cX1_spread 86 = .ok (.iconst 0, 1) := by decide +kernel
theorem dX1_spread_87 : decode cX1_spread 87 = .ok (.dup2, 1) := by decide +kernel
theorem dX1_spread_88 : decode cX1_spread 88 = .ok (.iaload, 1) := by decide +kernel
theorem dX1_spread_89 : decode cX1_spread 89 = .ok (.bipush 10, 2) := by decide +kernel
theorem dX1_spread_91 : decode cX1_spread 91 = .ok (.iload_n 2, 1) := by decide +kernel
theorem dX1_spread_92 : decode cX1_spread 92 = .ok (.isub, 1) := by decide +kernel
theorem dX1_spread_93 : decode cX1_spread 93 = .ok (.imul, 1) := by decide +kernel
theorem dX1_spread_94 : decode cX1_spread 94 = .ok (.iastore, 1) := by decide +kernel
theorem dX1_spread_95 : decode cX1_spread 95 = .ok (.iinc 3 1, 3) := by decide +kernel
theorem dX1_spread_98 : decode cX1_spread 98 = .ok (.goto (-67), 3) := by decide +kernel
theorem dX1_spread_101 : decode cX1_spread 101 = .ok (.return_, 1) := by decide +kernel
theorem dX1_commonDivisor_0 : decode cX1_commonDivisor 0 = .ok (.iload_n 0, 1) := by decide +kernel
theorem dX1_commonDivisor_1 : decode cX1_commonDivisor 1 = .ok (.istore_n 2, 1) := by decide +kernel
theorem dX1_commonDivisor_2 : decode cX1_commonDivisor 2 = .ok (.iload_n 1, 1) := by decide +kernel
theorem dX1_commonDivisor_3 : decode cX1_commonDivisor 3 = .ok (.istore_n 3, 1) := by decide +kernel
theorem dX1_commonDivisor_4 : decode cX1_commonDivisor 4 = .ok (.iconst 0, 1) := by decide +kernel
theorem dX1_commonDivisor_5 : decode cX1_commonDivisor 5 = .ok (.istore 4, 2) := by decide +kernel
theorem dX1_commonDivisor_7 : decode cX1_commonDivisor 7 = .ok (.iload 4, 2) := by decide +kernel
theorem dX1_commonDivisor_9 : decode cX1_commonDivisor 9 = .ok (.bipush 50, 2) := by decide +kernel
theorem dX1_commonDivisor_11 : decode cX1_commonDivisor 11 = .ok (.if_icmp .ge 23, 3) := by decide +kernel
theorem dX1_commonDivisor_14 : decode cX1_commonDivisor 14 = .ok (.iload_n 3, 1) := by decide +kernel
theorem dX1_commonDivisor_15 : decode cX1_commonDivisor 15 = .ok (.ifCond .eq 19, 3) := by decide +kernel
theorem dX1_commonDivisor_18 : decode cX1_commonDivisor 18 = .ok (.iload_n 2, 1) := by decide +kernel
theorem dX1_commonDivisor_19 : decode cX1_commonDivisor 19 = .ok (.iload_n 3, 1) := by decide +kernel
theorem dX1_commonDivisor_20 : decode cX1_commonDivisor 20 = .ok (.irem, 1) := by decide +kernel
theorem dX1_commonDivisor_21 : decode cX1_commonDivisor 21 = .ok (.istore 5, 2) := by decide +kernel
theorem dX1_commonDivisor_23 : decode cX1_commonDivisor 23 = .ok (.iload_n 3, 1) := by decide +kernel
theorem dX1_commonDivisor_24 : decode cX1_commonDivisor 24 = .ok (.istore_n 2, 1) := by decide +kernel
theorem dX1_commonDivisor_25 : decode cX1_commonDivisor 25 = .ok (.iload 5, 2) := by decide +kernel
theorem dX1_commonDivisor_27 : decode cX1_commonDivisor 27 = .ok (.istore_n 3, 1) := by decide +kernel
theorem dX1_commonDivisor_28 : decode cX1_commonDivisor 28 = .ok (.iinc 4 1, 3) := by decide +kernel
theorem dX1_commonDivisor_31 : decode cX1_commonDivisor 31 = .ok (.goto (-24), 3) := by decide +kernel
theorem dX1_commonDivisor_34 : decode cX1_commonDivisor 34 = .ok (.iload_n 2, 1) := by decide +kernel
theorem dX1_commonDivisor_35 : decode cX1_commonDivisor 35 = .ok (.ireturn, 1) := by decide +kernel
theorem dX2_init_0 : decode cX2_init 0 = .ok (.aload_n 0, 1) := by decide +kernel
theorem dX2_init_1 : decode cX2_init 1 = .ok (.invokespecial 3, 3) := by decide +kernel
theorem dX2_init_4 : decode cX2_init 4 = .ok (.aload_n 0, 1) := by decide +kernel
theorem dX2_init_5 : decode cX2_init 5 = .ok (.iconst 5, 1) := by decide +kernel
theorem dX2_init_6 : decode cX2_init 6 = .ok (.newarray .int, 2) := by decide +kernel
theorem dX2_init_8 : decode cX2_init 8 = .ok (.putfield 9, 3) := by decide +kernel
theorem dX2_init_11 : decode cX2_init 11 = .ok (.aload_n 0, 1) := by decide +kernel
theorem dX2_init_12 : decode cX2_init 12 = .ok (.iconst 5, 1) := by decide +kernel
theorem dX2_init_13 : decode cX2_init 13 = .ok (.newarray .boolean, 2) := by decide +kernel
theorem dX2_init_15 : decode cX2_init 15 = .ok (.putfield 15, 3) := by decide +kernel
theorem dX2_init_18 : decode cX2_init 18 = .ok (.aload_n 0, 1) := by decide +kernel
theorem dX2_init_19 : decode cX2_init 19 = .ok (.bipush 8, 2) := by decide +kernel
theorem dX2_init_21 : decode cX2_init 21 = .ok (.newarray .int, 2) := by decide +kernel
theorem dX2_init_23 : decode cX2_init 23 = .ok (.putfield 19, 3) := by decide +kernel
theorem dX2_init_26 : decode cX2_init 26 = .ok (.aload_n 0, 1) := by decide +kernel
theorem dX2_init_27 : decode cX2_init 27 = .ok (.bipush 8, 2) := by decide +kernel
theorem dX2_init_29 : decode cX2_init 29 = .ok (.newarray .int, 2) := by decide +kernel
theorem dX2_init_31 : decode cX2_init 31 = .ok (.putfield 22, 3) := by decide +kernel
theorem dX2_init_34 : decode cX2_init 34 = .ok (.aload_n 0, 1) := by decide +kernel
theorem dX2_init_35 : decode cX2_init 35 = .ok (.bipush 7, 2) := by decide +kernel
theorem dX2_init_37 : decode cX2_init 37 = .ok (.newarray .int, 2) := by decide +kernel
theorem dX2_init_39 : decode cX2_init 39 = .ok (.putfield 25, 3) := by decide +kernel
theorem dX2_init_42 : decode cX2_init 42 = .ok (.aload_n 0, 1) := by decide +kernel
theorem dX2_init_43 : decode cX2_init 43 = .ok (.bipush 7, 2) := by decide +kernel
theorem dX2_init_45 : decode cX2_init 45 = .ok (.newarray .int, 2) := by decide +kernel
theorem dX2_init_47 : decode cX2_init 47 = .ok (.putfield 28, 3) := by decide +kernel
theorem dX2_init_50 : decode cX2_init 50 = .ok (.return_, 1) := by decide +kernel
theorem dX2_mostOf_0 : decode cX2_mostOf 0 = .ok (.iconst 0, 1) := by decide +kernel
theorem dX2_mostOf_1 : decode cX2_mostOf 1 = .ok (.istore_n 3, 1) := by decide +kernel
theorem dX2_mostOf_2 : decode cX2_mostOf 2 = .ok (.iload_n 3, 1) := by decide +kernel
theorem dX2_mostOf_3 : decode cX2_mostOf 3 = .ok (.iconst 5, 1) := by decide +kernel
theorem dX2_mostOf_4 : decode cX2_mostOf 4 = .ok (.if_icmp .ge 58, 3) := by decide +kernel
theorem dX2_mostOf_7 : decode cX2_mostOf 7 = .ok (.aload_n 1, 1) := by decide +kernel
theorem dX2_mostOf_8 : decode cX2_mostOf 8 = .ok (.aload_n 1, 1) := by decide +kernel
theorem dX2_mostOf_9 : decode cX2_mostOf 9 = .ok (.iload_n 3, 1) := by decide +kernel
theorem dX2_mostOf_10 : decode cX2_mostOf 10 = .ok (.invokevirtual 31, 3) := by decide +kernel
theorem dX2_mostOf_13 : decode cX2_mostOf 13 = .ok (.invokevirtual 37, 3) := by decide +kernel
theorem dX2_mostOf_16 : decode cX2_mostOf 16 = .ok (.istore 4, 2) := by decide +kernel
theorem dX2_mostOf_18 : decode cX2_mostOf 18 = .ok (.aload_n 0, 1) := by decide +kernel
theorem dX2_mostOf_19 : decode cX2_mostOf 19 = .ok (.getfield 9, 3) := by decide +kernel
theorem dX2_mostOf_22 : decode cX2_mostOf 22 = .ok (.iload_n 3, 1) := by decide +kernel
theorem dX2_mostOf_23 : decode cX2_mostOf 23 = .ok (.iload 4, 2) := by decide +kernel
theorem dX2_mostOf_25 : decode cX2_mostOf 25 = .ok (.iconst 3, 1) := by decide +kernel
theorem dX2_mostOf_26 : decode cX2_mostOf 26 = .ok (.if_icmp .ne 7, 3) := by decide +kernel
theorem dX2_mostOf_29 : decode cX2_mostOf 29 = .ok (.iconst (-1), 1) := by decide +kernel
theorem dX2_mostOf_30 : decode cX2_mostOf 30 = .ok (.goto 8, 3) := by decide +kernel
theorem dX2_mostOf_33 : decode cX2_mostOf 33 = .ok (.aload_n 1, 1) := by decide +kernel
theorem dX2_mostOf_34 : decode cX2_mostOf 34 = .ok (.iload_n 3, 1) := by decide +kernel
theorem dX2_mostOf_35 : decode cX2_mostOf 35 = .ok (.invokevirtual 40, 3) := by decide +kernel
theorem dX2_mostOf_38 : decode cX2_mostOf 38 = .ok (.iastore, 1) := by decide +kernel
theorem dX2_mostOf_39 : decode cX2_mostOf 39 = .ok (.aload_n 0, 1) := by decide +kernel
theorem dX2_mostOf_40 : decode cX2_mostOf 40 = .ok (.getfield 15, 3) := by decide +kernel
theorem dX2_mostOf_43 : decode cX2_mostOf 43 = .ok (.iload_n 3, 1) := by decide +kernel
theorem dX2_mostOf_44 : decode cX2_mostOf 44 = .ok (.iload 4, 2) := by decide +kernel
theorem dX2_mostOf_46 : decode cX2_mostOf 46 = .ok (.iconst 2, 1) := by decide +kernel
theorem dX2_mostOf_47 : decode cX2_mostOf 47 = .ok (.if_icmp .ne 7, 3) := by decide +kernel
theorem dX2_mostOf_50 : decode cX2_mostOf 50 = .ok (.iconst 1, 1) := by decide +kernel
theorem dX2_mostOf_51 : decode cX2_mostOf 51 = .ok (.goto 4, 3) := by decide +kernel
theorem dX2_mostOf_54 : decode cX2_mostOf 54 = .ok (.iconst 0, 1) := by decide +kernel
theorem dX2_mostOf_55 : decode cX2_mostOf 55 = .ok (.bastore, 1) := by decide +kernel
theorem dX2_mostOf_56 : decode cX2_mostOf 56 = .ok (.iinc 3 1, 3) := by decide +kernel
theorem dX2_mostOf_59 : decode cX2_mostOf 59 = .ok (.goto (-57), 3) := by decide +kernel
theorem dX2_mostOf_62 : decode cX2_mostOf 62 = .ok (.aload_n 0, 1) := by decide +kernel
theorem dX2_mostOf_63 : decode cX2_mostOf 63 = .ok (.aload_n 1, 1) := by decide +kernel
theorem dX2_mostOf_64 : decode cX2_mostOf 64 = .ok (.invokevirtual 43, 3) := by decide +kernel
theorem dX2_mostOf_67 : decode cX2_mostOf 67 = .ok (.aload_n 0, 1) := by decide +kernel
theorem dX2_mostOf_68 : decode cX2_mostOf 68 = .ok (.iload_n 2, 1) := by decide +kernel
theorem dX2_mostOf_69 : decode cX2_mostOf 69 = .ok (.putfield 47, 3) := by decide +kernel
theorem dX2_mostOf_72 : decode cX2_mostOf 72 = .ok (.aload_n 0, 1) := by decide +kernel
theorem dX2_mostOf_73 : decode cX2_mostOf 73 = .ok (.aload_n 1, 1) := by decide +kernel
theorem dX2_mostOf_74 : decode cX2_mostOf 74 = .ok (.iconst 0, 1) := by decide +kernel
theorem dX2_mostOf_75 : decode cX2_mostOf 75 = .ok (.iconst 0, 1) := by decide +kernel
theorem dX2_mostOf_76 : decode cX2_mostOf 76 = .ok (.invokestatic 51, 3) := by decide +kernel
theorem dX2_mostOf_79 : decode cX2_mostOf 79 = .ok (.aload_n 0, 1) := by decide +kernel
theorem dX2_mostOf_80 : decode cX2_mostOf 80 = .ok (.getfield 47, 3) := by decide +kernel
theorem dX2_mostOf_83 : decode cX2_mostOf 83 = .ok (.ireturn, 1) := by decide +kernel
theorem dX2_lookAhead_0 : decode cX2_lookAhead 0 = .ok (.iconst 0, 1) := by decide +kernel
theorem dX2_lookAhead_1 : decode cX2_lookAhead 1 = .ok (.istore_n 2, 1) := by decide +kernel
theorem dX2_lookAhead_2 : decode cX2_lookAhead 2 = .ok (.iconst 0, 1) := by decide +kernel
theorem dX2_lookAhead_3 : decode cX2_lookAhead 3 = .ok (.istore_n 3, 1) := by decide +kernel
theorem dX2_lookAhead_4 : decode cX2_lookAhead 4 = .ok (.aload_n 0, 1) := by decide +kernel
theorem dX2_lookAhead_5 : decode cX2_lookAhead 5 = .ok (.getfield 19, 3) := by decide +kernel
theorem dX2_lookAhead_8 : decode cX2_lookAhead 8 = .ok (.bipush 7, 2) := by decide +kernel
theorem dX2_lookAhead_10 : decode cX2_lookAhead 10 = .ok (.iconst 0, 1) := by decide +kernel
theorem dX2_lookAhead_11 : decode cX2_lookAhead 11 = .ok (.iastore, 1) := by decide +kernel
theorem dX2_lookAhead_12 : decode cX2_lookAhead 12 = .ok (.aload_n 0, 1) := by decide +kernel
theorem dX2_lookAhead_13 : decode cX2_lookAhead 13 = .ok (.getfield 22, 3) := by decide +kernel
theorem dX2_lookAhead_16 : decode cX2_lookAhead 16 = .ok (.bipush 7, 2) := by decide +kernel
theorem dX2_lookAhead_18 : decode cX2_lookAhead 18 = .ok (.iconst 0, 1) := by decide +kernel
theorem dX2_lookAhead_19 : decode cX2_lookAhead 19 = .ok (.iastore, 1) := by decide +kernel
theorem dX2_lookAhead_20 : decode cX2_lookAhead 20 = .ok (.bipush 6, 2) := by decide +kernel
theorem dX2_lookAhead_22 : decode cX2_lookAhead 22 = .ok (.istore 4, 2) := by decide +kernel
theorem dX2_lookAhead_24 : decode cX2_lookAhead 24 = .ok (.iload 4, 2) := by decide +kernel
theorem dX2_lookAhead_26 : decode cX2_lookAhead 26 = .ok (.ifCond .lt 114, 3) := by decide +kernel
theorem dX2_lookAhead_29 : decode cX2_lookAhead 29 = .ok (.aload_n 1, 1) := by decide +kernel
theorem dX2_lookAhead_30 : decode cX2_lookAhead 30 = .ok (.iload 4, 2) := by decide +kernel
theorem dX2_lookAhead_32 : decode cX2_lookAhead 32 = .ok (.invokevirtual 55, 3) := by decide +kernel
theorem dX2_lookAhead_35 : decode cX2_lookAhead 35 = .ok (.ifCond .eq 16, 3) := by decide +kernel
theorem dX2_lookAhead_38 : decode cX2_lookAhead 38 = .ok (.aload_n 1, 1) := by decide +kernel
theorem dX2_lookAhead_39 : decode cX2_lookAhead 39 = .ok (.iload 4, 2) := by decide +kernel
theorem dX2_lookAhead_41 : decode cX2_lookAhead 41 = .ok (.invokevirtual 59, 3) := by decide +kernel
theorem dX2_lookAhead_44 : decode cX2_lookAhead 44 = .ok (.ifCond .ne 7, 3) := by decide +kernel
theorem dX2_lookAhead_47 : decode cX2_lookAhead 47 = .ok (.iconst 1, 1) := by decide +kernel
theorem dX2_lookAhead_48 : decode cX2_lookAhead 48 = .ok (.goto 4, 3) := by decide +kernel
theorem dX2_lookAhead_51 : decode cX2_lookAhead 51 = .ok (.iconst 0, 1) := by decide +kernel
theorem dX2_lookAhead_52 : decode cX2_lookAhead 52 = .ok (.istore 5, 2) := by decide +kernel
theorem dX2_lookAhead_54 : decode cX2_lookAhead 54 = .ok (.iload 5, 2) := by decide +kernel
theorem dX2_lookAhead_56 : decode cX2_lookAhead 56 = .ok (.ifCond .eq 18, 3) := by decide +kernel
theorem dX2_lookAhead_59 : decode cX2_lookAhead 59 = .ok (.aload_n 1, 1) := by decide +kernel
theorem dX2_lookAhead_60 : decode cX2_lookAhead 60 = .ok (.iload 4, 2) := by decide +kernel
theorem dX2_lookAhead_62 : decode cX2_lookAhead 62 = .ok (.invokevirtual 37, 3) := by decide +kernel
theorem dX2_lookAhead_65 : decode cX2_lookAhead 65 = .ok (.iconst 3, 1) := by decide +kernel
theorem dX2_lookAhead_66 : decode cX2_lookAhead 66 = .ok (.if_icmp .ne 8, 3) := by decide +kernel
theorem dX2_lookAhead_69 : decode cX2_lookAhead 69 = .ok (.iconst 1, 1) := by decide +kernel
theorem dX2_lookAhead_70 : decode cX2_lookAhead 70 = .ok (.istore_n 3, 1) := by decide +kernel
theorem dX2_lookAhead_71 : decode cX2_lookAhead 71 = .ok (.goto 21, 3) := by decide +kernel
theorem dX2_lookAhead_74 : decode cX2_lookAhead 74 = .ok (.iload 5, 2) := by decide +kernel
theorem dX2_lookAhead_76 : decode cX2_lookAhead 76 = .ok (.ifCond .eq 16, 3) := by decide +kernel
theorem dX2_lookAhead_79 : decode cX2_lookAhead 79 = .ok (.iload_n 2, 1) := by decide +kernel
theorem dX2_lookAhead_80 : decode cX2_lookAhead 80 = .ok (.iconst (-1), 1) := by decide +kernel
theorem dX2_lookAhead_81 : decode cX2_lookAhead 81 = .ok (.aload_n 1, 1) := by decide +kernel
theorem dX2_lookAhead_82 : decode cX2_lookAhead 82 = .ok (.iload 4, 2) := by decide +kernel
theorem dX2_lookAhead_84 : decode cX2_lookAhead 84 = .ok (.invokevirtual 37, 3) := by decide +kernel
theorem dX2_lookAhead_87 : decode cX2_lookAhead 87 = .ok (.invokestatic 62, 3) := by decide +kernel
theorem dX2_lookAhead_90 : decode cX2_lookAhead 90 = .ok (.iadd, 1) := by decide +kernel
theorem dX2_lookAhead_91 : decode cX2_lookAhead 91 = .ok (.istore_n 2, 1) := by decide +kernel
theorem dX2_lookAhead_92 : decode cX2_lookAhead 92 = .ok (.aload_n 0, 1) := by decide +kernel
theorem dX2_lookAhead_93 : decode cX2_lookAhead 93 = .ok (.getfield 19, 3) := by decide +kernel
theorem dX2_lookAhead_96 : decode cX2_lookAhead 96 = .ok (.iload 4, 2) := by decide +kernel
theorem dX2_lookAhead_98 : decode cX2_lookAhead 98 = .ok (.aload_n 0, 1) := by decide +kernel
theorem dX2_lookAhead_99 : decode cX2_lookAhead 99 = .ok (.getfield 19, 3) := by decide +kernel
theorem dX2_lookAhead_102 : decode cX2_lookAhead 102 = .ok (.iload 4, 2) := by decide +kernel
theorem dX2_lookAhead_104 : decode cX2_lookAhead 104 = .ok (.iconst 1, 1) := by decide +kernel
theorem dX2_lookAhead_105 : decode cX2_lookAhead 105 = .ok (.iadd, 1) := by decide +kernel
theorem dX2_lookAhead_106 : decode cX2_lookAhead 106 = .ok (.iaload, 1) := by decide +kernel
theorem dX2_lookAhead_107 : decode cX2_lookAhead 107 = .ok (.iload 5, 2) := by decide +kernel
theorem dX2_lookAhead_109 : decode cX2_lookAhead 109 = .ok (.ifCond .eq 12, 3) := by decide +kernel
theorem dX2_lookAhead_112 : decode cX2_lookAhead 112 = .ok (.aload_n 1, 1) := by decide +kernel
theorem dX2_lookAhead_113 : decode cX2_lookAhead 113 = .ok (.iload 4, 2) := by decide +kernel
theorem dX2_lookAhead_115 : decode cX2_lookAhead 115 = .ok (.invokevirtual 66, 3) := by decide +kernel
theorem dX2_lookAhead_118 : decode cX2_lookAhead 118 = .ok (.goto 4, 3) := by decide +kernel
theorem dX2_lookAhead_121 : decode cX2_lookAhead 121 = .ok (.iconst 0, 1) := by decide +kernel
theorem dX2_lookAhead_122 : decode cX2_lookAhead 122 = .ok (.iadd, 1) := by decide +kernel
theorem dX2_lookAhead_123 : decode cX2_lookAhead 123 = .ok (.iastore, 1) := by decide +kernel
theorem dX2_lookAhead_124 : decode cX2_lookAhead 124 = .ok (.aload_n 0, 1) := by decide +kernel
theorem dX2_lookAhead_125 : decode cX2_lookAhead 125 = .ok (.getfield 22, 3) := by decide +kernel
theorem dX2_lookAhead_128 : decode cX2_lookAhead 128 = .ok (.iload 4, 2) := by decide +kernel
theorem dX2_lookAhead_130 : decode cX2_lookAhead 130 = .ok (.iload_n 2, 1) := by decide +kernel
theorem dX2_lookAhead_131 : decode cX2_lookAhead 131 = .ok (.iload_n 3, 1) := by decide +kernel
theorem dX2_lookAhead_132 : decode cX2_lookAhead 132 = .ok (.iadd, 1) := by decide +kernel
theorem dX2_lookAhead_133 : decode cX2_lookAhead 133 = .ok (.iastore, 1) := by decide +kernel
theorem dX2_lookAhead_134 : decode cX2_lookAhead 134 = .ok (.iinc 4 (-1), 3) := by decide +kernel
theorem dX2_lookAhead_137 : decode cX2_lookAhead 137 = .ok (.goto (-113), 3) := by decide +kernel
theorem dX2_lookAhead_140 : decode cX2_lookAhead 140 = .ok (.return_, 1) := by decide +kernel
theorem dX2_placeOf_0 : decode cX2_placeOf 0 = .ok (.iload_n 1, 1) := by decide +kernel
theorem dX2_placeOf_1 : decode cX2_placeOf 1 = .ok (.ifCond .lt 18, 3) := by decide +kernel
theorem dX2_placeOf_4 : decode cX2_placeOf 4 = .ok (.iload_n 1, 1) := by decide +kernel
theorem dX2_placeOf_5 : decode cX2_placeOf 5 = .ok (.bipush 7, 2) := by decide +kernel
theorem dX2_placeOf_7 : decode cX2_placeOf 7 = .ok (.if_icmp .ge 12, 3) := by decide +kernel
theorem dX2_placeOf_10 : decode cX2_placeOf 10 = .ok (.aload_n 0, 1) := by decide +kernel
theorem dX2_placeOf_11 : decode cX2_placeOf 11 = .ok (.getfield 28, 3) := by decide +kernel
theorem dX2_placeOf_14 : decode cX2_placeOf 14 = .ok (.iload_n 1, 1) := by decide +kernel
theorem dX2_placeOf_15 : decode cX2_placeOf 15 = .ok (.iaload, 1) := by decide +kernel
theorem dX2_placeOf_16 : decode cX2_placeOf 16 = .ok (.goto 5, 3) := by decide +kernel
