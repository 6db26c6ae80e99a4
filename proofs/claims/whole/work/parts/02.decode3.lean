theorem dX6_years_16 : decode cX6_years 16 = .ok (.aload_n 0, 1) := by decide +kernel
theorem dX6_years_17 : decode cX6_years 17 = .ok (.getfield 19, 3) := by decide +kernel
theorem dX6_years_20 : decode cX6_years 20 = .ok (.invokevirtual 91, 3) := by decide +kernel
theorem dX6_years_23 : decode cX6_years 23 = .ok (.aload_n 0, 1) := by decide +kernel
theorem dX6_years_24 : decode cX6_years 24 = .ok (.getfield 23, 3) := by decide +kernel
theorem dX6_years_27 : decode cX6_years 27 = .ok (.iload_n 1, 1) := by decide +kernel
theorem dX6_years_28 : decode cX6_years 28 = .ok (.invokevirtual 149, 3) := by decide +kernel
theorem dX6_years_31 : decode cX6_years 31 = .ok (.ireturn, 1) := by decide +kernel
theorem dX6_seen_0 : decode cX6_seen 0 = .ok (.iload_n 1, 1) := by decide +kernel
theorem dX6_seen_1 : decode cX6_seen 1 = .ok (.iconst 0, 1) := by decide +kernel
theorem dX6_seen_2 : decode cX6_seen 2 = .ok (.bipush 20, 2) := by decide +kernel
theorem dX6_seen_4 : decode cX6_seen 4 = .ok (.invokestatic 139, 3) := by decide +kernel
theorem dX6_seen_7 : decode cX6_seen 7 = .ok (.ifCond .eq 23, 3) := by decide +kernel
theorem dX6_seen_10 : decode cX6_seen 10 = .ok (.aload_n 0, 1) := by decide +kernel
theorem dX6_seen_11 : decode cX6_seen 11 = .ok (.getfield 19, 3) := by decide +kernel
theorem dX6_seen_14 : decode cX6_seen 14 = .ok (.iload_n 2, 1) := by decide +kernel
theorem dX6_seen_15 : decode cX6_seen 15 = .ok (.invokevirtual 114, 3) := by decide +kernel
theorem dX6_seen_18 : decode cX6_seen 18 = .ok (.ifCond .eq 12, 3) := by decide +kernel
theorem dX6_seen_21 : decode cX6_seen 21 = .ok (.iload_n 3, 1) := by decide +kernel
theorem dX6_seen_22 : decode cX6_seen 22 = .ok (.iconst 0, 1) := by decide +kernel
theorem dX6_seen_23 : decode cX6_seen 23 = .ok (.iconst 1, 1) := by decide +kernel
theorem dX6_seen_24 : decode cX6_seen 24 = .ok (.invokestatic 139, 3) := by decide +kernel
theorem dX6_seen_27 : decode cX6_seen 27 = .ok (.ifCond .ne 5, 3) := by decide +kernel
theorem dX6_seen_30 : decode cX6_seen 30 = .ok (.iconst (-1), 1) := by decide +kernel
theorem dX6_seen_31 : decode cX6_seen 31 = .ok (.ireturn, 1) := by decide +kernel
theorem dX6_seen_32 : decode cX6_seen 32 = .ok (.aload_n 0, 1) := by decide +kernel
theorem dX6_seen_33 : decode cX6_seen 33 = .ok (.getfield 41, 3) := by decide +kernel
theorem dX6_seen_36 : decode cX6_seen 36 = .ok (.iload_n 1, 1) := by decide +kernel
theorem dX6_seen_37 : decode cX6_seen 37 = .ok (.iload_n 2, 1) := by decide +kernel
theorem dX6_seen_38 : decode cX6_seen 38 = .ok (.iload_n 3, 1) := by decide +kernel
theorem dX6_seen_39 : decode cX6_seen 39 = .ok (.iconst 1, 1) := by decide +kernel
theorem dX6_seen_40 : decode cX6_seen 40 = .ok (.if_icmp .ne 7, 3) := by decide +kernel
theorem dX6_seen_43 : decode cX6_seen 43 = .ok (.iconst 1, 1) := by decide +kernel
theorem dX6_seen_44 : decode cX6_seen 44 = .ok (.goto 4, 3) := by decide +kernel
theorem dX6_seen_47 : decode cX6_seen 47 = .ok (.iconst 0, 1) := by decide +kernel
theorem dX6_seen_48 : decode cX6_seen 48 = .ok (.invokevirtual 192, 3) := by decide +kernel
theorem dX6_seen_51 : decode cX6_seen 51 = .ok (.ifCond .eq 13, 3) := by decide +kernel
theorem dX6_seen_54 : decode cX6_seen 54 = .ok (.aload_n 0, 1) := by decide +kernel
theorem dX6_seen_55 : decode cX6_seen 55 = .ok (.getfield 41, 3) := by decide +kernel
theorem dX6_seen_58 : decode cX6_seen 58 = .ok (.getfield 195, 3) := by decide +kernel
theorem dX6_seen_61 : decode cX6_seen 61 = .ok (.goto 5, 3) := by decide +kernel
theorem dX6_seen_64 : decode cX6_seen 64 = .ok (.bipush (-3), 2) := by decide +kernel
theorem dX6_seen_66 : decode cX6_seen 66 = .ok (.ireturn, 1) := by decide +kernel
theorem dX6_forget_0 : decode cX6_forget 0 = .ok (.aload_n 0, 1) := by decide +kernel
theorem dX6_forget_1 : decode cX6_forget 1 = .ok (.getfield 41, 3) := by decide +kernel
theorem dX6_forget_4 : decode cX6_forget 4 = .ok (.invokevirtual 97, 3) := by decide +kernel
theorem dX6_forget_7 : decode cX6_forget 7 = .ok (.ireturn, 1) := by decide +kernel
theorem dX6_plots_0 : decode cX6_plots 0 = .ok (.aload_n 0, 1) := by decide +kernel
theorem dX6_plots_1 : decode cX6_plots 1 = .ok (.getfield 19, 3) := by decide +kernel
theorem dX6_plots_4 : decode cX6_plots 4 = .ok (.iload_n 1, 1) := by decide +kernel
theorem dX6_plots_5 : decode cX6_plots 5 = .ok (.invokevirtual 114, 3) := by decide +kernel
theorem dX6_plots_8 : decode cX6_plots 8 = .ok (.ifCond .ne 5, 3) := by decide +kernel
theorem dX6_plots_11 : decode cX6_plots 11 = .ok (.iconst (-1), 1) := by decide +kernel
theorem dX6_plots_12 : decode cX6_plots 12 = .ok (.ireturn, 1) := by decide +kernel
theorem dX6_plots_13 : decode cX6_plots 13 = .ok (.iconst 0, 1) := by decide +kernel
theorem dX6_plots_14 : decode cX6_plots 14 = .ok (.istore_n 2, 1) := by decide +kernel
theorem dX6_plots_15 : decode cX6_plots 15 = .ok (.iconst 0, 1) := by decide +kernel
theorem dX6_plots_16 : decode cX6_plots 16 = .ok (.istore_n 3, 1) := by decide +kernel
theorem dX6_plots_17 : decode cX6_plots 17 = .ok (.iload_n 3, 1) := by decide +kernel
theorem dX6_plots_18 : decode cX6_plots 18 = .ok (.aload_n 0, 1) := by decide +kernel
theorem dX6_plots_19 : decode cX6_plots 19 = .ok (.getfield 19, 3) := by decide +kernel
theorem dX6_plots_22 : decode cX6_plots 22 = .ok (.getfield 85, 3) := by decide +kernel
theorem dX6_plots_25 : decode cX6_plots 25 = .ok (.if_icmp .ge 58, 3) := by decide +kernel
theorem dX6_plots_28 : decode cX6_plots 28 = .ok (.aload_n 0, 1) := by decide +kernel
theorem dX6_plots_29 : decode cX6_plots 29 = .ok (.getfield 23, 3) := by decide +kernel
theorem dX6_plots_32 : decode cX6_plots 32 = .ok (.aload_n 0, 1) := by decide +kernel
theorem dX6_plots_33 : decode cX6_plots 33 = .ok (.getfield 19, 3) := by decide +kernel
theorem dX6_plots_36 : decode cX6_plots 36 = .ok (.invokevirtual 91, 3) := by decide +kernel
theorem dX6_plots_39 : decode cX6_plots 39 = .ok (.aload_n 0, 1) := by decide +kernel
theorem dX6_plots_40 : decode cX6_plots 40 = .ok (.getfield 23, 3) := by decide +kernel
theorem dX6_plots_43 : decode cX6_plots 43 = .ok (.iload_n 1, 1) := by decide +kernel
theorem dX6_plots_44 : decode cX6_plots 44 = .ok (.invokevirtual 159, 3) := by decide +kernel
theorem dX6_plots_47 : decode cX6_plots 47 = .ok (.pop, 1) := by decide +kernel
theorem dX6_plots_48 : decode cX6_plots 48 = .ok (.aload_n 0, 1) := by decide +kernel
theorem dX6_plots_49 : decode cX6_plots 49 = .ok (.getfield 23, 3) := by decide +kernel
theorem dX6_plots_52 : decode cX6_plots 52 = .ok (.iload_n 1, 1) := by decide +kernel
theorem dX6_plots_53 : decode cX6_plots 53 = .ok (.iload_n 3, 1) := by decide +kernel
theorem dX6_plots_54 : decode cX6_plots 54 = .ok (.invokevirtual 155, 3) := by decide +kernel
theorem dX6_plots_57 : decode cX6_plots 57 = .ok (.aload_n 0, 1) := by decide +kernel
theorem dX6_plots_58 : decode cX6_plots 58 = .ok (.getfield 41, 3) := by decide +kernel
theorem dX6_plots_61 : decode cX6_plots 61 = .ok (.aload_n 0, 1) := by decide +kernel
theorem dX6_plots_62 : decode cX6_plots 62 = .ok (.getfield 23, 3) := by decide +kernel
theorem dX6_plots_65 : decode cX6_plots 65 = .ok (.invokevirtual 196, 3) := by decide +kernel
theorem dX6_plots_68 : decode cX6_plots 68 = .ok (.ifCond .eq 9, 3) := by decide +kernel
theorem dX6_plots_71 : decode cX6_plots 71 = .ok (.iload_n 2, 1) := by decide +kernel
theorem dX6_plots_72 : decode cX6_plots 72 = .ok (.iconst 1, 1) := by decide +kernel
theorem dX6_plots_73 : decode cX6_plots 73 = .ok (.iload_n 3, 1) := by decide +kernel
theorem dX6_plots_74 : decode cX6_plots 74 = .ok (.ishl, 1) := by decide +kernel
theorem dX6_plots_75 : decode cX6_plots 75 = .ok (.ior, 1) := by decide +kernel
theorem dX6_plots_76 : decode cX6_plots 76 = .ok (.istore_n 2, 1) := by decide +kernel
theorem dX6_plots_77 : decode cX6_plots 77 = .ok (.iinc 3 1, 3) := by decide +kernel
theorem dX6_plots_80 : decode cX6_plots 80 = .ok (.goto (-63), 3) := by decide +kernel
theorem dX6_plots_83 : decode cX6_plots 83 = .ok (.iload_n 2, 1) := by decide +kernel
theorem dX6_plots_84 : decode cX6_plots 84 = .ok (.ireturn, 1) := by decide +kernel
theorem dX6_kinds_0 : decode cX6_kinds 0 = .ok (.aload_n 0, 1) := by decide +kernel
theorem dX6_kinds_1 : decode cX6_kinds 1 = .ok (.getfield 19, 3) := by decide +kernel
theorem dX6_kinds_4 : decode cX6_kinds 4 = .ok (.iload_n 1, 1) := by decide +kernel
theorem dX6_kinds_5 : decode cX6_kinds 5 = .ok (.invokevirtual 114, 3) := by decide +kernel
theorem dX6_kinds_8 : decode cX6_kinds 8 = .ok (.ifCond .ne 5, 3) := by decide +kernel
theorem dX6_kinds_11 : decode cX6_kinds 11 = .ok (.iconst (-1), 1) := by decide +kernel
theorem dX6_kinds_12 : decode cX6_kinds 12 = .ok (.ireturn, 1) := by decide +kernel
theorem dX6_kinds_13 : decode cX6_kinds 13 = .ok (.iconst 0, 1) := by decide +kernel
theorem dX6_kinds_14 : decode cX6_kinds 14 = .ok (.istore_n 2, 1) := by decide +kernel
theorem dX6_kinds_15 : decode cX6_kinds 15 = .ok (.iconst 0, 1) := by decide +kernel
theorem dX6_kinds_16 : decode cX6_kinds 16 = .ok (.istore_n 3, 1) := by decide +kernel
theorem dX6_kinds_17 : decode cX6_kinds 17 = .ok (.iload_n 3, 1) := by decide +kernel
theorem dX6_kinds_18 : decode cX6_kinds 18 = .ok (.iconst 4, 1) := by decide +kernel
theorem dX6_kinds_19 : decode cX6_kinds 19 = .ok (.if_icmp .ge 49, 3) := by decide +kernel
theorem dX6_kinds_22 : decode cX6_kinds 22 = .ok (.aload_n 0, 1) := by decide +kernel
theorem dX6_kinds_23 : decode cX6_kinds 23 = .ok (.getfield 23, 3) := by decide +kernel
theorem dX6_kinds_26 : decode cX6_kinds 26 = .ok (.aload_n 0, 1) := by decide +kernel
theorem dX6_kinds_27 : decode cX6_kinds 27 = .ok (.getfield 19, 3) := by decide +kernel
theorem dX6_kinds_30 : decode cX6_kinds 30 = .ok (.invokevirtual 91, 3) := by decide +kernel
theorem dX6_kinds_33 : decode cX6_kinds 33 = .ok (.aload_n 0, 1) := by decide +kernel
theorem dX6_kinds_34 : decode cX6_kinds 34 = .ok (.getfield 23, 3) := by decide +kernel
theorem dX6_kinds_37 : decode cX6_kinds 37 = .ok (.iload_n 1, 1) := by decide +kernel
theorem dX6_kinds_38 : decode cX6_kinds 38 = .ok (.iload_n 3, 1) := by decide +kernel
theorem dX6_kinds_39 : decode cX6_kinds 39 = .ok (.invokevirtual 199, 3) := by decide +kernel
theorem dX6_kinds_42 : decode cX6_kinds 42 = .ok (.aload_n 0, 1) := by decide +kernel
theorem dX6_kinds_43 : decode cX6_kinds 43 = .ok (.getfield 41, 3) := by decide +kernel
theorem dX6_kinds_46 : decode cX6_kinds 46 = .ok (.aload_n 0, 1) := by decide +kernel
theorem dX6_kinds_47 : decode cX6_kinds 47 = .ok (.getfield 23, 3) := by decide +kernel
theorem dX6_kinds_50 : decode cX6_kinds 50 = .ok (.invokevirtual 196, 3) := by decide +kernel
theorem dX6_kinds_53 : decode cX6_kinds 53 = .ok (.ifCond .eq 9, 3) := by decide +kernel
theorem dX6_kinds_56 : decode cX6_kinds 56 = .ok (.iload_n 2, 1) := by decide +kernel
theorem dX6_kinds_57 : decode cX6_kinds 57 = .ok (.iconst 1, 1) := by decide +kernel
theorem dX6_kinds_58 : decode cX6_kinds 58 = .ok (.iload_n 3, 1) := by decide +kernel
theorem dX6_kinds_59 : decode cX6_kinds 59 = .ok (.ishl, 1) := by decide +kernel
theorem dX6_kinds_60 : decode cX6_kinds 60 = .ok (.ior, 1) := by decide +kernel
theorem dX6_kinds_61 : decode cX6_kinds 61 = .ok (.istore_n 2, 1) := by decide +kernel
theorem dX6_kinds_62 : decode cX6_kinds 62 = .ok (.iinc 3 1, 3) := by decide +kernel
theorem dX6_kinds_65 : decode cX6_kinds 65 = .ok (.goto (-48), 3) := by decide +kernel
theorem dX6_kinds_68 : decode cX6_kinds 68 = .ok (.iload_n 2, 1) := by decide +kernel
theorem dX6_kinds_69 : decode cX6_kinds 69 = .ok (.ireturn, 1) := by decide +kernel
theorem dX6_likely_0 : decode cX6_likely 0 = .ok (.aload_n 0, 1) := by decide +kernel
theorem dX6_likely_1 : decode cX6_likely 1 = .ok (.getfield 19, 3) := by decide +kernel
theorem dX6_likely_4 : decode cX6_likely 4 = .ok (.iload_n 1, 1) := by decide +kernel
theorem dX6_likely_5 : decode cX6_likely 5 = .ok (.invokevirtual 114, 3) := by decide +kernel
theorem dX6_likely_8 : decode cX6_likely 8 = .ok (.ifCond .eq 33, 3) := by decide +kernel
theorem dX6_likely_11 : decode cX6_likely 11 = .ok (.iload_n 2, 1) := by decide +kernel
theorem dX6_likely_12 : decode cX6_likely 12 = .ok (.iconst 0, 1) := by decide +kernel
theorem dX6_likely_13 : decode cX6_likely 13 = .ok (.bipush 8, 2) := by decide +kernel
theorem dX6_likely_15 : decode cX6_likely 15 = .ok (.invokestatic 139, 3) := by decide +kernel
theorem dX6_likely_18 : decode cX6_likely 18 = .ok (.ifCond .eq 23, 3) := by decide +kernel
theorem dX6_likely_21 : decode cX6_likely 21 = .ok (.iload_n 3, 1) := by decide +kernel
theorem dX6_likely_22 : decode cX6_likely 22 = .ok (.iconst 0, 1) := by decide +kernel
theorem dX6_likely_23 : decode cX6_likely 23 = .ok (.bipush 10, 2) := by decide +kernel
theorem dX6_likely_25 : decode cX6_likely 25 = .ok (.invokestatic 139, 3) := by decide +kernel
theorem dX6_likely_28 : decode cX6_likely 28 = .ok (.ifCond .eq 13, 3) := by decide +kernel
theorem dX6_likely_31 : decode cX6_likely 31 = .ok (.iload 4, 2) := by decide +kernel
theorem dX6_likely_33 : decode cX6_likely 33 = .ok (.iconst 0, 1) := by decide +kernel
theorem dX6_likely_34 : decode cX6_likely 34 = .ok (.iconst 1, 1) := by decide +kernel
theorem dX6_likely_35 : decode cX6_likely 35 = .ok (.invokestatic 139, 3) := by decide +kernel
theorem dX6_likely_38 : decode cX6_likely 38 = .ok (.ifCond .ne 5, 3) := by decide +kernel
theorem dX6_likely_41 : decode cX6_likely 41 = .ok (.iconst (-1), 1) := by decide +kernel
theorem dX6_likely_42 : decode cX6_likely 42 = .ok (.ireturn, 1) := by decide +kernel
theorem dX6_likely_43 : decode cX6_likely 43 = .ok (.aload_n 0, 1) := by decide +kernel
theorem dX6_likely_44 : decode cX6_likely 44 = .ok (.getfield 19, 3) := by decide +kernel
theorem dX6_likely_47 : decode cX6_likely 47 = .ok (.iload_n 1, 1) := by decide +kernel
theorem dX6_likely_48 : decode cX6_likely 48 = .ok (.invokevirtual 126, 3) := by decide +kernel
theorem dX6_likely_51 : decode cX6_likely 51 = .ok (.ifCond .ne 6, 3) := by decide +kernel
theorem dX6_likely_54 : decode cX6_likely 54 = .ok (.bipush (-2), 2) := by decide +kernel
theorem dX6_likely_56 : decode cX6_likely 56 = .ok (.ireturn, 1) := by decide +kernel
theorem dX6_likely_57 : decode cX6_likely 57 = .ok (.aload_n 0, 1) := by decide +kernel
theorem dX6_likely_58 : decode cX6_likely 58 = .ok (.getfield 55, 3) := by decide +kernel
theorem dX6_likely_61 : decode cX6_likely 61 = .ok (.aload_n 0, 1) := by decide +kernel
theorem dX6_likely_62 : decode cX6_likely 62 = .ok (.getfield 19, 3) := by decide +kernel
theorem dX6_likely_65 : decode cX6_likely 65 = .ok (.aload_n 0, 1) := by decide +kernel
theorem dX6_likely_66 : decode cX6_likely 66 = .ok (.getfield 19, 3) := by decide +kernel
theorem dX6_likely_69 : decode cX6_likely 69 = .ok (.iload_n 1, 1) := by decide +kernel
theorem dX6_likely_70 : decode cX6_likely 70 = .ok (.invokevirtual 123, 3) := by decide +kernel
theorem dX6_likely_73 : decode cX6_likely 73 = .ok (.iload_n 2, 1) := by decide +kernel
theorem dX6_likely_74 : decode cX6_likely 74 = .ok (.invokevirtual 202, 3) := by decide +kernel
theorem dX6_likely_77 : decode cX6_likely 77 = .ok (.iload_n 3, 1) := by decide +kernel
theorem dX6_likely_78 : decode cX6_likely 78 = .ok (.aload_n 0, 1) := by decide +kernel
theorem dX6_likely_79 : decode cX6_likely 79 = .ok (.getfield 19, 3) := by decide +kernel
theorem dX6_likely_82 : decode cX6_likely 82 = .ok (.iload_n 1, 1) := by decide +kernel
theorem dX6_likely_83 : decode cX6_likely 83 = .ok (.invokevirtual 206, 3) := by decide +kernel
theorem dX6_likely_86 : decode cX6_likely 86 = .ok (.invokevirtual 209, 3) := by decide +kernel
theorem dX6_likely_89 : decode cX6_likely 89 = .ok (.iload 4, 2) := by decide +kernel
theorem dX6_likely_91 : decode cX6_likely 91 = .ok (.ifCond .ne 13, 3) := by decide +kernel
theorem dX6_likely_94 : decode cX6_likely 94 = .ok (.aload_n 0, 1) := by decide +kernel
theorem dX6_likely_95 : decode cX6_likely 95 = .ok (.getfield 55, 3) := by decide +kernel
theorem dX6_likely_98 : decode cX6_likely 98 = .ok (.getfield 213, 3) := by decide +kernel
theorem dX6_likely_101 : decode cX6_likely 101 = .ok (.goto 10, 3) := by decide +kernel
theorem dX6_likely_104 : decode cX6_likely 104 = .ok (.aload_n 0, 1) := by decide +kernel
theorem dX6_likely_105 : decode cX6_likely 105 = .ok (.getfield 55, 3) := by decide +kernel
theorem dX6_likely_108 : decode cX6_likely 108 = .ok (.getfield 216, 3) := by decide +kernel
theorem dX6_likely_111 : decode cX6_likely 111 = .ok (.ireturn, 1) := by decide +kernel
theorem dX6_decade_0 : decode cX6_decade 0 = .ok (.iload_n 1, 1) := by decide +kernel
theorem dX6_decade_1 : decode cX6_decade 1 = .ok (.iconst 0, 1) := by decide +kernel
theorem dX6_decade_2 : decode cX6_decade 2 = .ok (.sipush 9999, 3) := by decide +kernel
theorem dX6_decade_5 : decode cX6_decade 5 = .ok (.invokestatic 139, 3) := by decide +kernel
theorem dX6_decade_8 : decode cX6_decade 8 = .ok (.ifCond .eq 22, 3) := by decide +kernel
theorem dX6_decade_11 : decode cX6_decade 11 = .ok (.iload_n 2, 1) := by decide +kernel
theorem dX6_decade_12 : decode cX6_decade 12 = .ok (.iconst 1, 1) := by decide +kernel
theorem dX6_decade_13 : decode cX6_decade 13 = .ok (.bipush 60, 2) := by decide +kernel
theorem dX6_decade_15 : decode cX6_decade 15 = .ok (.invokestatic 139, 3) := by decide +kernel
theorem dX6_decade_18 : decode cX6_decade 18 = .ok (.ifCond .eq 12, 3) := by decide +kernel
theorem dX6_decade_21 : decode cX6_decade 21 = .ok (.iload_n 3, 1) := by decide +kernel
theorem dX6_decade_22 : decode cX6_decade 22 = .ok (.iconst 0, 1) := by decide +kernel
theorem dX6_decade_23 : decode cX6_decade 23 = .ok (.iconst 2, 1) := by decide +kernel
theorem dX6_decade_24 : decode cX6_decade 24 = .ok (.invokestatic 139, 3) := by decide +kernel
theorem dX6_decade_27 : decode cX6_decade 27 = .ok (.ifCond .ne 5, 3) := by decide +kernel
theorem dX6_decade_30 : decode cX6_decade 30 = .ok (.iconst (-1), 1) := by decide +kernel
theorem dX6_decade_31 : decode cX6_decade 31 = .ok (.ireturn, 1) := by decide +kernel
theorem dX6_decade_32 : decode cX6_decade 32 = .ok (.aload_n 0, 1) := by decide +kernel
theorem dX6_decade_33 : decode cX6_decade 33 = .ok (.getfield 23, 3) := by decide +kernel
theorem dX6_decade_36 : decode cX6_decade 36 = .ok (.aload_n 0, 1) := by decide +kernel
theorem dX6_decade_37 : decode cX6_decade 37 = .ok (.getfield 19, 3) := by decide +kernel
theorem dX6_decade_40 : decode cX6_decade 40 = .ok (.invokevirtual 91, 3) := by decide +kernel
theorem dX6_decade_43 : decode cX6_decade 43 = .ok (.aload_n 0, 1) := by decide +kernel
theorem dX6_decade_44 : decode cX6_decade 44 = .ok (.getfield 23, 3) := by decide +kernel
theorem dX6_decade_47 : decode cX6_decade 47 = .ok (.iconst 0, 1) := by decide +kernel
theorem dX6_decade_48 : decode cX6_decade 48 = .ok (.putfield 219, 3) := by decide +kernel
theorem dX6_decade_51 : decode cX6_decade 51 = .ok (.iconst 0, 1) := by decide +kernel
theorem dX6_decade_52 : decode cX6_decade 52 = .ok (.istore 4, 2) := by decide +kernel
theorem dX6_decade_54 : decode cX6_decade 54 = .ok (.iload 4, 2) := by decide +kernel
theorem dX6_decade_56 : decode cX6_decade 56 = .ok (.iload_n 2, 1) := by decide +kernel
theorem dX6_decade_57 : decode cX6_decade 57 = .ok (.if_icmp .ge 31, 3) := by decide +kernel
theorem dX6_decade_60 : decode cX6_decade 60 = .ok (.aload_n 0, 1) := by decide +kernel
theorem dX6_decade_61 : decode cX6_decade 61 = .ok (.getfield 23, 3) := by decide +kernel
theorem dX6_decade_64 : decode cX6_decade 64 = .ok (.iload_n 1, 1) := by decide +kernel
theorem dX6_decade_65 : decode cX6_decade 65 = .ok (.iload 4, 2) := by decide +kernel
theorem dX6_decade_67 : decode cX6_decade 67 = .ok (.invokestatic 222, 3) := by decide +kernel
theorem dX6_decade_70 : decode cX6_decade 70 = .ok (.invokevirtual 225, 3) := by decide +kernel
theorem dX6_decade_73 : decode cX6_decade 73 = .ok (.aload_n 0, 1) := by decide +kernel
theorem dX6_decade_74 : decode cX6_decade 74 = .ok (.getfield 23, 3) := by decide +kernel
theorem dX6_decade_77 : decode cX6_decade 77 = .ok (.iconst 1, 1) := by decide +kernel
theorem dX6_decade_78 : decode cX6_decade 78 = .ok (.invokevirtual 149, 3) := by decide +kernel
theorem dX6_decade_81 : decode cX6_decade 81 = .ok (.pop, 1) := by decide +kernel
theorem dX6_decade_82 : decode cX6_decade 82 = .ok (.iinc 4 1, 3) := by decide +kernel
theorem dX6_decade_85 : decode cX6_decade 85 = .ok (.goto (-31), 3) := by decide +kernel
theorem dX6_decade_88 : decode cX6_decade 88 = .ok (.iload_n 3, 1) := by decide +kernel
theorem dX6_decade_89 : decode cX6_decade 89 = .ok (.lookupswitch 43 #[(0, 27), (1, 35)], 27) := by decide +kernel
theorem dX6_decade_116 : decode cX6_decade 116 = .ok (.aload_n 0, 1) := by decide +kernel
theorem dX6_decade_117 : decode cX6_decade 117 = .ok (.getfield 23, 3) := by decide +kernel
theorem dX6_decade_120 : decode cX6_decade 120 = .ok (.invokevirtual 228, 3) := by decide +kernel
theorem dX6_decade_123 : decode cX6_decade 123 = .ok (.ireturn, 1) := by decide +kernel
theorem dX6_decade_124 : decode cX6_decade 124 = .ok (.aload_n 0, 1) := by decide +kernel
theorem dX6_decade_125 : decode cX6_decade 125 = .ok (.getfield 23, 3) := by decide +kernel
theorem dX6_decade_128 : decode cX6_decade 128 = .ok (.invokevirtual 231, 3) := by decide +kernel
theorem dX6_decade_131 : decode cX6_decade 131 = .ok (.ireturn, 1) := by decide +kernel
theorem dX6_decade_132 : decode cX6_decade 132 = .ok (.aload_n 0, 1) := by decide +kernel
theorem dX6_decade_133 : decode cX6_decade 133 = .ok (.getfield 23, 3) := by decide +kernel
theorem dX6_decade_136 : decode cX6_decade 136 = .ok (.getfield 219, 3) := by decide +kernel
theorem dX6_decade_139 : decode cX6_decade 139 = .ok (.ireturn, 1) := by decide +kernel
theorem dX6_keep_0 : decode cX6_keep 0 = .ok (.aload_n 0, 1) := by decide +kernel
theorem dX6_keep_1 : decode cX6_keep 1 = .ok (.getfield 35, 3) := by decide +kernel
theorem dX6_keep_4 : decode cX6_keep 4 = .ok (.invokevirtual 234, 3) := by decide +kernel
theorem dX6_keep_7 : decode cX6_keep 7 = .ok (.ifCond .eq 6, 3) := by decide +kernel
theorem dX6_keep_10 : decode cX6_keep 10 = .ok (.bipush (-3), 2) := by decide +kernel
theorem dX6_keep_12 : decode cX6_keep 12 = .ok (.ireturn, 1) := by decide +kernel
theorem dX6_keep_13 : decode cX6_keep 13 = .ok (.aload_n 0, 1) := by decide +kernel
theorem dX6_keep_14 : decode cX6_keep 14 = .ok (.getfield 35, 3) := by decide +kernel
theorem dX6_keep_17 : decode cX6_keep 17 = .ok (.aload_n 0, 1) := by decide +kernel
theorem dX6_keep_18 : decode cX6_keep 18 = .ok (.getfield 19, 3) := by decide +kernel
theorem dX6_keep_21 : decode cX6_keep 21 = .ok (.invokevirtual 146, 3) := by decide +kernel
theorem dX6_keep_24 : decode cX6_keep 24 = .ok (.aload_n 0, 1) := by decide +kernel
theorem dX6_keep_25 : decode cX6_keep 25 = .ok (.getfield 35, 3) := by decide +kernel
theorem dX6_keep_28 : decode cX6_keep 28 = .ok (.getfield 169, 3) := by decide +kernel
theorem dX6_keep_31 : decode cX6_keep 31 = .ok (.ireturn, 1) := by decide +kernel
theorem dX6_back_0 : decode cX6_back 0 = .ok (.aload_n 0, 1) := by decide +kernel
theorem dX6_back_1 : decode cX6_back 1 = .ok (.getfield 35, 3) := by decide +kernel
theorem dX6_back_4 : decode cX6_back 4 = .ok (.aload_n 0, 1) := by decide +kernel
theorem dX6_back_5 : decode cX6_back 5 = .ok (.getfield 19, 3) := by decide +kernel
theorem dX6_back_8 : decode cX6_back 8 = .ok (.invokevirtual 165, 3) := by decide +kernel
theorem dX6_back_11 : decode cX6_back 11 = .ok (.ifCond .ne 6, 3) := by decide +kernel
theorem dX6_back_14 : decode cX6_back 14 = .ok (.bipush (-2), 2) := by decide +kernel
theorem dX6_back_16 : decode cX6_back 16 = .ok (.ireturn, 1) := by decide +kernel
theorem dX6_back_17 : decode cX6_back 17 = .ok (.aload_n 0, 1) := by decide +kernel
theorem dX6_back_18 : decode cX6_back 18 = .ok (.getfield 31, 3) := by decide +kernel
theorem dX6_back_21 : decode cX6_back 21 = .ok (.invokevirtual 95, 3) := by decide +kernel
theorem dX6_back_24 : decode cX6_back 24 = .ok (.aload_n 0, 1) := by decide +kernel
theorem dX6_back_25 : decode cX6_back 25 = .ok (.getfield 35, 3) := by decide +kernel
theorem dX6_back_28 : decode cX6_back 28 = .ok (.getfield 169, 3) := by decide +kernel
theorem dX6_back_31 : decode cX6_back 31 = .ok (.ireturn, 1) := by decide +kernel
theorem dX6_count_0 : decode cX6_count 0 = .ok (.iload_n 1, 1) := by decide +kernel
theorem dX6_count_1 : decode cX6_count 1 = .ok (.tableswitch 155 0 10 #[59, 67, 75, 83, 91, 99, 115, 123, 131, 139, 147], 59) := by decide +kernel
theorem dX6_count_60 : decode cX6_count 60 = .ok (.aload_n 0, 1) := by decide +kernel
theorem dX6_count_61 : decode cX6_count 61 = .ok (.getfield 19, 3) := by decide +kernel
theorem dX6_count_64 : decode cX6_count 64 = .ok (.getfield 85, 3) := by decide +kernel
theorem dX6_count_67 : decode cX6_count 67 = .ok (.ireturn, 1) := by decide +kernel
theorem dX6_count_68 : decode cX6_count 68 = .ok (.aload_n 0, 1) := by decide +kernel
theorem dX6_count_69 : decode cX6_count 69 = .ok (.getfield 19, 3) := by decide +kernel
theorem dX6_count_72 : decode cX6_count 72 = .ok (.getfield 88, 3) := by decide +kernel
theorem dX6_count_75 : decode cX6_count 75 = .ok (.ireturn, 1) := by decide +kernel
theorem dX6_count_76 : decode cX6_count 76 = .ok (.aload_n 0, 1) := by decide +kernel
theorem dX6_count_77 : decode cX6_count 77 = .ok (.getfield 19, 3) := by decide +kernel
theorem dX6_count_80 : decode cX6_count 80 = .ok (.getfield 143, 3) := by decide +kernel
theorem dX6_count_83 : decode cX6_count 83 = .ok (.ireturn, 1) := by decide +kernel
theorem dX6_count_84 : decode cX6_count 84 = .ok (.aload_n 0, 1) := by decide +kernel
theorem dX6_count_85 : decode cX6_count 85 = .ok (.getfield 19, 3) := by decide +kernel
theorem dX6_count_88 : decode cX6_count 88 = .ok (.invokevirtual 228, 3) := by decide +kernel
theorem dX6_count_91 : decode cX6_count 91 = .ok (.ireturn, 1) := by decide +kernel
theorem dX6_count_92 : decode cX6_count 92 = .ok (.aload_n 0, 1) := by decide +kernel
theorem dX6_count_93 : decode cX6_count 93 = .ok (.getfield 19, 3) := by decide +kernel
theorem dX6_count_96 : decode cX6_count 96 = .ok (.invokevirtual 231, 3) := by decide +kernel
theorem dX6_count_99 : decode cX6_count 99 = .ok (.ireturn, 1) := by decide +kernel
theorem dX6_count_100 : decode cX6_count 100 = .ok (.aload_n 0, 1) := by decide +kernel
theorem dX6_count_101 : decode cX6_count 101 = .ok (.getfield 19, 3) := by decide +kernel
theorem dX6_count_104 : decode cX6_count 104 = .ok (.invokevirtual 238, 3) := by decide +kernel
theorem dX6_count_107 : decode cX6_count 107 = .ok (.ifCond .eq 7, 3) := by decide +kernel
theorem dX6_count_110 : decode cX6_count 110 = .ok (.iconst 1, 1) := by decide +kernel
theorem dX6_count_111 : decode cX6_count 111 = .ok (.goto 4, 3) := by decide +kernel
theorem dX6_count_114 : decode cX6_count 114 = .ok (.iconst 0, 1) := by decide +kernel
theorem dX6_count_115 : decode cX6_count 115 = .ok (.ireturn, 1) := by decide +kernel
theorem dX6_count_116 : decode cX6_count 116 = .ok (.aload_n 0, 1) := by decide +kernel
theorem dX6_count_117 : decode cX6_count 117 = .ok (.getfield 19, 3) := by decide +kernel
theorem dX6_count_120 : decode cX6_count 120 = .ok (.getfield 219, 3) := by decide +kernel
theorem dX6_count_123 : decode cX6_count 123 = .ok (.ireturn, 1) := by decide +kernel
theorem dX6_count_124 : decode cX6_count 124 = .ok (.aload_n 0, 1) := by decide +kernel
theorem dX6_count_125 : decode cX6_count 125 = .ok (.getfield 41, 3) := by decide +kernel
theorem dX6_count_128 : decode cX6_count 128 = .ok (.getfield 195, 3) := by decide +kernel
theorem dX6_count_131 : decode cX6_count 131 = .ok (.ireturn, 1) := by decide +kernel
theorem dX6_count_132 : decode cX6_count 132 = .ok (.aload_n 0, 1) := by decide +kernel
theorem dX6_count_133 : decode cX6_count 133 = .ok (.getfield 31, 3) := by decide +kernel
theorem dX6_count_136 : decode cX6_count 136 = .ok (.getfield 169, 3) := by decide +kernel
theorem dX6_count_139 : decode cX6_count 139 = .ok (.ireturn, 1) := by decide +kernel
theorem dX6_count_140 : decode cX6_count 140 = .ok (.aload_n 0, 1) := by decide +kernel
theorem dX6_count_141 : decode cX6_count 141 = .ok (.getfield 35, 3) := by decide +kernel
theorem dX6_count_144 : decode cX6_count 144 = .ok (.getfield 169, 3) := by decide +kernel
theorem dX6_count_147 : decode cX6_count 147 = .ok (.ireturn, 1) := by decide +kernel
theorem dX6_count_148 : decode cX6_count 148 = .ok (.aload_n 0, 1) := by decide +kernel
theorem dX6_count_149 : decode cX6_count 149 = .ok (.getfield 12, 3) := by decide +kernel
theorem dX6_count_152 : decode cX6_count 152 = .ok (.getfield 82, 3) := by decide +kernel
theorem dX6_count_155 : decode cX6_count 155 = .ok (.ireturn, 1) := by decide +kernel
theorem dX6_count_156 : decode cX6_count 156 = .ok (.iconst (-1), 1) := by decide +kernel
theorem dX6_count_157 : decode cX6_count 157 = .ok (.ireturn, 1) := by decide +kernel
theorem dX6_isWithin_0 : decode cX6_isWithin 0 = .ok (.iload_n 0, 1) := by decide +kernel
theorem dX6_isWithin_1 : decode cX6_isWithin 1 = .ok (.iload_n 1, 1) := by decide +kernel
theorem dX6_isWithin_2 : decode cX6_isWithin 2 = .ok (.if_icmp .lt 12, 3) := by decide +kernel
theorem dX6_isWithin_5 : decode cX6_isWithin 5 = .ok (.iload_n 0, 1) := by decide +kernel
theorem dX6_isWithin_6 : decode cX6_isWithin 6 = .ok (.iload_n 2, 1) := by decide +kernel
theorem dX6_isWithin_7 : decode cX6_isWithin 7 = .ok (.if_icmp .gt 7, 3) := by decide +kernel
theorem dX6_isWithin_10 : decode cX6_isWithin 10 = .ok (.iconst 1, 1) := by decide +kernel
theorem dX6_isWithin_11 : decode cX6_isWithin 11 = .ok (.goto 4, 3) := by decide +kernel
theorem dX6_isWithin_14 : decode cX6_isWithin 14 = .ok (.iconst 0, 1) := by decide +kernel
theorem dX6_isWithin_15 : decode cX6_isWithin 15 = .ok (.ireturn, 1) := by decide +kernel
theorem dX6_drawOf_0 : decode cX6_drawOf 0 = .ok (.ldc2_w 241, 3) := by decide +kernel
theorem dX6_drawOf_3 : decode cX6_drawOf 3 = .ok (.iload_n 0, 1) := by decide +kernel
theorem dX6_drawOf_4 : decode cX6_drawOf 4 = .ok (.i2l, 1) := by decide +kernel
theorem dX6_drawOf_5 : decode cX6_drawOf 5 = .ok (.lmul, 1) := by decide +kernel
theorem dX6_drawOf_6 : decode cX6_drawOf 6 = .ok (.ldc2_w 243, 3) := by decide +kernel
theorem dX6_drawOf_9 : decode cX6_drawOf 9 = .ok (.iload_n 1, 1) := by decide +kernel
theorem dX6_drawOf_10 : decode cX6_drawOf 10 = .ok (.i2l, 1) := by decide +kernel
theorem dX6_drawOf_11 : decode cX6_drawOf 11 = .ok (.lmul, 1) := by decide +kernel
theorem dX6_drawOf_12 : decode cX6_drawOf 12 = .ok (.ladd, 1) := by decide +kernel
theorem dX6_drawOf_13 : decode cX6_drawOf 13 = .ok (.lconst 1, 1) := by decide +kernel
theorem dX6_drawOf_14 : decode cX6_drawOf 14 = .ok (.ladd, 1) := by decide +kernel
theorem dX6_drawOf_15 : decode cX6_drawOf 15 = .ok (.lstore_n 2, 1) := by decide +kernel
theorem dX6_drawOf_16 : decode cX6_drawOf 16 = .ok (.lload_n 2, 1) := by decide +kernel
theorem dX6_drawOf_17 : decode cX6_drawOf 17 = .ok (.lload_n 2, 1) := by decide +kernel
theorem dX6_drawOf_18 : decode cX6_drawOf 18 = .ok (.lmul, 1) := by decide +kernel
theorem dX6_drawOf_19 : decode cX6_drawOf 19 = .ok (.ldc2_w 245, 3) := by decide +kernel
theorem dX6_drawOf_22 : decode cX6_drawOf 22 = .ok (.lrem, 1) := by decide +kernel
theorem dX6_drawOf_23 : decode cX6_drawOf 23 = .ok (.ldc2_w 247, 3) := by decide +kernel
theorem dX6_drawOf_26 : decode cX6_drawOf 26 = .ok (.ldiv, 1) := by decide +kernel
theorem dX6_drawOf_27 : decode cX6_drawOf 27 = .ok (.l2i, 1) := by decide +kernel
theorem dX6_drawOf_28 : decode cX6_drawOf 28 = .ok (.ireturn, 1) := by decide +kernel
theorem dX7_init_0 : decode cX7_init 0 = .ok (.aload_n 0, 1) := by decide +kernel
theorem dX7_init_1 : decode cX7_init 1 = .ok (.invokespecial 1, 3) := by decide +kernel
theorem dX7_init_4 : decode cX7_init 4 = .ok (.aload_n 0, 1) := by decide +kernel
theorem dX7_init_5 : decode cX7_init 5 = .ok (.sipush 200, 3) := by decide +kernel
theorem dX7_init_8 : decode cX7_init 8 = .ok (.newarray .int, 2) := by decide +kernel
theorem dX7_init_10 : decode cX7_init 10 = .ok (.putfield 7, 3) := by decide +kernel
theorem dX7_init_13 : decode cX7_init 13 = .ok (.aload_n 0, 1) := by decide +kernel
theorem dX7_init_14 : decode cX7_init 14 = .ok (.bipush 56, 2) := by decide +kernel
theorem dX7_init_16 : decode cX7_init 16 = .ok (.newarray .int, 2) := by decide +kernel
theorem dX7_init_18 : decode cX7_init 18 = .ok (.putfield 13, 3) := by decide +kernel
theorem dX7_init_21 : decode cX7_init 21 = .ok (.aload_n 0, 1) := by decide +kernel
theorem dX7_init_22 : decode cX7_init 22 = .ok (.bipush 56, 2) := by decide +kernel
theorem dX7_init_24 : decode cX7_init 24 = .ok (.newarray .int, 2) := by decide +kernel
theorem dX7_init_26 : decode cX7_init 26 = .ok (.putfield 16, 3) := by decide +kernel
theorem dX7_init_29 : decode cX7_init 29 = .ok (.aload_n 0, 1) := by decide +kernel
theorem dX7_init_30 : decode cX7_init 30 = .ok (.bipush 21, 2) := by decide +kernel
theorem dX7_init_32 : decode cX7_init 32 = .ok (.newarray .int, 2) := by decide +kernel
theorem dX7_init_34 : decode cX7_init 34 = .ok (.putfield 19, 3) := by decide +kernel
theorem dX7_init_37 : decode cX7_init 37 = .ok (.aload_n 0, 1) := by decide +kernel
theorem dX7_init_38 : decode cX7_init 38 = .ok (.sipush 168, 3) := by decide +kernel
theorem dX7_init_41 : decode cX7_init 41 = .ok (.newarray .int, 2) := by decide +kernel
theorem dX7_init_43 : decode cX7_init 43 = .ok (.putfield 22, 3) := by decide +kernel
theorem dX7_init_46 : decode cX7_init 46 = .ok (.aload_n 0, 1) := by decide +kernel
theorem dX7_init_47 : decode cX7_init 47 = .ok (.bipush 42, 2) := by decide +kernel
theorem dX7_init_49 : decode cX7_init 49 = .ok (.newarray .int, 2) := by decide +kernel
theorem dX7_init_51 : decode cX7_init 51 = .ok (.putfield 25, 3) := by decide +kernel
theorem dX7_init_54 : decode cX7_init 54 = .ok (.aload_n 0, 1) := by decide +kernel
theorem dX7_init_55 : decode cX7_init 55 = .ok (.bipush 18, 2) := by decide +kernel
theorem dX7_init_57 : decode cX7_init 57 = .ok (.newarray .int, 2) := by decide +kernel
theorem dX7_init_59 : decode cX7_init 59 = .ok (.putfield 28, 3) := by decide +kernel
theorem dX7_init_62 : decode cX7_init 62 = .ok (.aload_n 0, 1) := by decide +kernel
theorem dX7_init_63 : decode cX7_init 63 = .ok (.bipush 21, 2) := by decide +kernel
theorem dX7_init_65 : decode cX7_init 65 = .ok (.newarray .int, 2) := by decide +kernel
theorem dX7_init_67 : decode cX7_init 67 = .ok (.putfield 31, 3) := by decide +kernel
theorem dX7_init_70 : decode cX7_init 70 = .ok (.aload_n 0, 1) := by decide +kernel
theorem dX7_init_71 : decode cX7_init 71 = .ok (.bipush 7, 2) := by decide +kernel
theorem dX7_init_73 : decode cX7_init 73 = .ok (.newarray .int, 2) := by decide +kernel
theorem dX7_init_75 : decode cX7_init 75 = .ok (.putfield 34, 3) := by decide +kernel
theorem dX7_init_78 : decode cX7_init 78 = .ok (.aload_n 0, 1) := by decide +kernel
theorem dX7_init_79 : decode cX7_init 79 = .ok (.bipush 7, 2) := by decide +kernel
theorem dX7_init_81 : decode cX7_init 81 = .ok (.newarray .int, 2) := by decide +kernel
theorem dX7_init_83 : decode cX7_init 83 = .ok (.putfield 37, 3) := by decide +kernel
theorem dX7_init_86 : decode cX7_init 86 = .ok (.aload_n 0, 1) := by decide +kernel
theorem dX7_init_87 : decode cX7_init 87 = .ok (.bipush 8, 2) := by decide +kernel
theorem dX7_init_89 : decode cX7_init 89 = .ok (.newarray .int, 2) := by decide +kernel
theorem dX7_init_91 : decode cX7_init 91 = .ok (.putfield 40, 3) := by decide +kernel
theorem dX7_init_94 : decode cX7_init 94 = .ok (.aload_n 0, 1) := by decide +kernel
theorem dX7_init_95 : decode cX7_init 95 = .ok (.bipush 8, 2) := by decide +kernel
theorem dX7_init_97 : decode cX7_init 97 = .ok (.newarray .int, 2) := by decide +kernel
theorem dX7_init_99 : decode cX7_init 99 = .ok (.putfield 43, 3) := by decide +kernel
theorem dX7_init_102 : decode cX7_init 102 = .ok (.aload_n 0, 1) := by decide +kernel
theorem dX7_init_103 : decode cX7_init 103 = .ok (.bipush 21, 2) := by decide +kernel
theorem dX7_init_105 : decode cX7_init 105 = .ok (.newarray .int, 2) := by decide +kernel
theorem dX7_init_107 : decode cX7_init 107 = .ok (.putfield 46, 3) := by decide +kernel
theorem dX7_init_110 : decode cX7_init 110 = .ok (.aload_n 0, 1) := by decide +kernel
theorem dX7_init_111 : decode cX7_init 111 = .ok (.invokevirtual 49, 3) := by decide +kernel
theorem dX7_init_114 : decode cX7_init 114 = .ok (.aload_n 0, 1) := by decide +kernel
theorem dX7_init_115 : decode cX7_init 115 = .ok (.getfield 16, 3) := by decide +kernel
theorem dX7_init_118 : decode cX7_init 118 = .ok (.iconst 0, 1) := by decide +kernel
theorem dX7_init_119 : decode cX7_init 119 = .ok (.iconst 3, 1) := by decide +kernel
theorem dX7_init_120 : decode cX7_init 120 = .ok (.iastore, 1) := by decide +kernel
theorem dX7_init_121 : decode cX7_init 121 = .ok (.aload_n 0, 1) := by decide +kernel
theorem dX7_init_122 : decode cX7_init 122 = .ok (.getfield 19, 3) := by decide +kernel
theorem dX7_init_125 : decode cX7_init 125 = .ok (.iconst 2, 1) := by decide +kernel
theorem dX7_init_126 : decode cX7_init 126 = .ok (.iconst 4, 1) := by decide +kernel
theorem dX7_init_127 : decode cX7_init 127 = .ok (.iastore, 1) := by decide +kernel
theorem dX7_init_128 : decode cX7_init 128 = .ok (.aload_n 0, 1) := by decide +kernel
theorem dX7_init_129 : decode cX7_init 129 = .ok (.getfield 19, 3) := by decide +kernel
theorem dX7_init_132 : decode cX7_init 132 = .ok (.iconst 3, 1) := by decide +kernel
theorem dX7_init_133 : decode cX7_init 133 = .ok (.iconst 3, 1) := by decide +kernel
theorem dX7_init_134 : decode cX7_init 134 = .ok (.iastore, 1) := by decide +kernel
theorem dX7_init_135 : decode cX7_init 135 = .ok (.aload_n 0, 1) := by decide +kernel
theorem dX7_init_136 : decode cX7_init 136 = .ok (.getfield 19, 3) := by decide +kernel
theorem dX7_init_139 : decode cX7_init 139 = .ok (.iconst 4, 1) := by decide +kernel
theorem dX7_init_140 : decode cX7_init 140 = .ok (.iconst 5, 1) := by decide +kernel
theorem dX7_init_141 : decode cX7_init 141 = .ok (.iastore, 1) := by decide +kernel
theorem dX7_init_142 : decode cX7_init 142 = .ok (.aload_n 0, 1) := by decide +kernel
theorem dX7_init_143 : decode cX7_init 143 = .ok (.iconst 0, 1) := by decide +kernel
theorem dX7_init_144 : decode cX7_init 144 = .ok (.iconst 3, 1) := by decide +kernel
theorem dX7_init_145 : decode cX7_init 145 = .ok (.iconst 0, 1) := by decide +kernel
theorem dX7_init_146 : decode cX7_init 146 = .ok (.invokevirtual 52, 3) := by decide +kernel
theorem dX7_init_149 : decode cX7_init 149 = .ok (.aload_n 0, 1) := by decide +kernel
theorem dX7_init_150 : decode cX7_init 150 = .ok (.iconst 1, 1) := by decide +kernel
theorem dX7_init_151 : decode cX7_init 151 = .ok (.bipush 7, 2) := by decide +kernel
theorem dX7_init_153 : decode cX7_init 153 = .ok (.iconst 0, 1) := by decide +kernel
theorem dX7_init_154 : decode cX7_init 154 = .ok (.invokevirtual 52, 3) := by decide +kernel
theorem dX7_init_157 : decode cX7_init 157 = .ok (.aload_n 0, 1) := by decide +kernel
theorem dX7_init_158 : decode cX7_init 158 = .ok (.iconst 2, 1) := by decide +kernel
theorem dX7_init_159 : decode cX7_init 159 = .ok (.iconst 2, 1) := by decide +kernel
theorem dX7_init_160 : decode cX7_init 160 = .ok (.iconst 1, 1) := by decide +kernel
theorem dX7_init_161 : decode cX7_init 161 = .ok (.invokevirtual 52, 3) := by decide +kernel
theorem dX7_init_164 : decode cX7_init 164 = .ok (.aload_n 0, 1) := by decide +kernel
theorem dX7_init_165 : decode cX7_init 165 = .ok (.iconst 2, 1) := by decide +kernel
theorem dX7_init_166 : decode cX7_init 166 = .ok (.iconst 4, 1) := by decide +kernel
theorem dX7_init_167 : decode cX7_init 167 = .ok (.iconst 1, 1) := by decide +kernel
theorem dX7_init_168 : decode cX7_init 168 = .ok (.invokevirtual 52, 3) := by decide +kernel
theorem dX7_init_171 : decode cX7_init 171 = .ok (.aload_n 0, 1) := by decide +kernel
theorem dX7_init_172 : decode cX7_init 172 = .ok (.iconst 3, 1) := by decide +kernel
theorem dX7_init_173 : decode cX7_init 173 = .ok (.bipush 9, 2) := by decide +kernel
theorem dX7_init_175 : decode cX7_init 175 = .ok (.iconst 2, 1) := by decide +kernel
theorem dX7_init_176 : decode cX7_init 176 = .ok (.invokevirtual 52, 3) := by decide +kernel
theorem dX7_init_179 : decode cX7_init 179 = .ok (.aload_n 0, 1) := by decide +kernel
theorem dX7_init_180 : decode cX7_init 180 = .ok (.iconst 0, 1) := by decide +kernel
theorem dX7_init_181 : decode cX7_init 181 = .ok (.iconst 5, 1) := by decide +kernel
theorem dX7_init_182 : decode cX7_init 182 = .ok (.iconst (-1), 1) := by decide +kernel
theorem dX7_init_183 : decode cX7_init 183 = .ok (.invokevirtual 52, 3) := by decide +kernel
theorem dX7_init_186 : decode cX7_init 186 = .ok (.aload_n 0, 1) := by decide +kernel
theorem dX7_init_187 : decode cX7_init 187 = .ok (.iconst 1, 1) := by decide +kernel
theorem dX7_init_188 : decode cX7_init 188 = .ok (.bipush 6, 2) := by decide +kernel
theorem dX7_init_190 : decode cX7_init 190 = .ok (.iconst (-1), 1) := by decide +kernel
theorem dX7_init_191 : decode cX7_init 191 = .ok (.invokevirtual 52, 3) := by decide +kernel
theorem dX7_init_194 : decode cX7_init 194 = .ok (.aload_n 0, 1) := by decide +kernel
theorem dX7_init_195 : decode cX7_init 195 = .ok (.getfield 16, 3) := by decide +kernel
theorem dX7_init_198 : decode cX7_init 198 = .ok (.bipush 18, 2) := by decide +kernel
theorem dX7_init_200 : decode cX7_init 200 = .ok (.iconst 1, 1) := by decide +kernel
theorem dX7_init_201 : decode cX7_init 201 = .ok (.iastore, 1) := by decide +kernel
theorem dX7_init_202 : decode cX7_init 202 = .ok (.iconst 0, 1) := by decide +kernel
theorem dX7_init_203 : decode cX7_init 203 = .ok (.istore_n 1, 1) := by decide +kernel
theorem dX7_init_204 : decode cX7_init 204 = .ok (.iload_n 1, 1) := by decide +kernel
theorem dX7_init_205 : decode cX7_init 205 = .ok (.bipush 56, 2) := by decide +kernel
theorem dX7_init_207 : decode cX7_init 207 = .ok (.if_icmp .ge 21, 3) := by decide +kernel
theorem dX7_init_210 : decode cX7_init 210 = .ok (.aload_n 0, 1) := by decide +kernel
theorem dX7_init_211 : decode cX7_init 211 = .ok (.getfield 13, 3) := by decide +kernel
theorem dX7_init_214 : decode cX7_init 214 = .ok (.iload_n 1, 1) := by decide +kernel
theorem dX7_init_215 : decode cX7_init 215 = .ok (.aload_n 0, 1) := by decide +kernel
theorem dX7_init_216 : decode cX7_init 216 = .ok (.getfield 16, 3) := by decide +kernel
theorem dX7_init_219 : decode cX7_init 219 = .ok (.iload_n 1, 1) := by decide +kernel
theorem dX7_init_220 : decode cX7_init 220 = .ok (.iaload, 1) := by decide +kernel
theorem dX7_init_221 : decode cX7_init 221 = .ok (.iastore, 1) := by decide +kernel
theorem dX7_init_222 : decode cX7_init 222 = .ok (.iinc 1 1, 3) := by decide +kernel
theorem dX7_init_225 : decode cX7_init 225 = .ok (.goto (-21), 3) := by decide +kernel
theorem dX7_init_228 : decode cX7_init 228 = .ok (.return_, 1) := by decide +kernel
theorem dX7_in_0 : decode cX7_in 0 = .ok (.iload_n 0, 1) := by decide +kernel
theorem dX7_in_1 : decode cX7_in 1 = .ok (.iload_n 1, 1) := by decide +kernel
theorem dX7_in_2 : decode cX7_in 2 = .ok (.if_icmp .lt 12, 3) := by decide +kernel
theorem dX7_in_5 : decode cX7_in 5 = .ok (.iload_n 0, 1) := by decide +kernel
theorem dX7_in_6 : decode cX7_in 6 = .ok (.iload_n 2, 1) := by decide +kernel
theorem dX7_in_7 : decode cX7_in 7 = .ok (.if_icmp .gt 7, 3) := by decide +kernel
theorem dX7_in_10 : decode cX7_in 10 = .ok (.iconst 1, 1) := by decide +kernel
theorem dX7_in_11 : decode cX7_in 11 = .ok (.goto 4, 3) := by decide +kernel
theorem dX7_in_14 : decode cX7_in 14 = .ok (.iconst 0, 1) := by decide +kernel
theorem dX7_in_15 : decode cX7_in 15 = .ok (.ireturn, 1) := by decide +kernel
theorem dX7_has_0 : decode cX7_has 0 = .ok (.iload_n 0, 1) := by decide +kernel
theorem dX7_has_1 : decode cX7_has 1 = .ok (.iload_n 1, 1) := by decide +kernel
theorem dX7_has_2 : decode cX7_has 2 = .ok (.ishr, 1) := by decide +kernel
theorem dX7_has_3 : decode cX7_has 3 = .ok (.iconst 1, 1) := by decide +kernel
theorem dX7_has_4 : decode cX7_has 4 = .ok (.iand, 1) := by decide +kernel
theorem dX7_has_5 : decode cX7_has 5 = .ok (.iconst 1, 1) := by decide +kernel
theorem dX7_has_6 : decode cX7_has 6 = .ok (.if_icmp .ne 7, 3) := by decide +kernel
theorem dX7_has_9 : decode cX7_has 9 = .ok (.iconst 1, 1) := by decide +kernel
theorem dX7_has_10 : decode cX7_has 10 = .ok (.goto 4, 3) := by decide +kernel
theorem dX7_has_13 : decode cX7_has 13 = .ok (.iconst 0, 1) := by decide +kernel
theorem dX7_has_14 : decode cX7_has 14 = .ok (.ireturn, 1) := by decide +kernel
theorem dX7_ones_0 : decode cX7_ones 0 = .ok (.iconst 0, 1) := by decide +kernel
theorem dX7_ones_1 : decode cX7_ones 1 = .ok (.istore_n 1, 1) := by decide +kernel
theorem dX7_ones_2 : decode cX7_ones 2 = .ok (.iconst 0, 1) := by decide +kernel
theorem dX7_ones_3 : decode cX7_ones 3 = .ok (.istore_n 2, 1) := by decide +kernel
theorem dX7_ones_4 : decode cX7_ones 4 = .ok (.iload_n 2, 1) := by decide +kernel
theorem dX7_ones_5 : decode cX7_ones 5 = .ok (.bipush 7, 2) := by decide +kernel
theorem dX7_ones_7 : decode cX7_ones 7 = .ok (.if_icmp .ge 17, 3) := by decide +kernel
theorem dX7_ones_10 : decode cX7_ones 10 = .ok (.iload_n 1, 1) := by decide +kernel
theorem dX7_ones_11 : decode cX7_ones 11 = .ok (.iload_n 0, 1) := by decide +kernel
theorem dX7_ones_12 : decode cX7_ones 12 = .ok (.iload_n 2, 1) := by decide +kernel
theorem dX7_ones_13 : decode cX7_ones 13 = .ok (.ishr, 1) := by decide +kernel
theorem dX7_ones_14 : decode cX7_ones 14 = .ok (.iconst 1, 1) := by decide +kernel
theorem dX7_ones_15 : decode cX7_ones 15 = .ok (.iand, 1) := by decide +kernel
theorem dX7_ones_16 : decode cX7_ones 16 = .ok (.iadd, 1) := by decide +kernel
theorem dX7_ones_17 : decode cX7_ones 17 = .ok (.istore_n 1, 1) := by decide +kernel
theorem dX7_ones_18 : decode cX7_ones 18 = .ok (.iinc 2 1, 3) := by decide +kernel
theorem dX7_ones_21 : decode cX7_ones 21 = .ok (.goto (-17), 3) := by decide +kernel
theorem dX7_ones_24 : decode cX7_ones 24 = .ok (.iload_n 1, 1) := by decide +kernel
theorem dX7_ones_25 : decode cX7_ones 25 = .ok (.ireturn, 1) := by decide +kernel
theorem dX7_isPlot_0 : decode cX7_isPlot 0 = .ok (.iload_n 1, 1) := by decide +kernel
theorem dX7_isPlot_1 : decode cX7_isPlot 1 = .ok (.iconst 0, 1) := by decide +kernel
theorem dX7_isPlot_2 : decode cX7_isPlot 2 = .ok (.aload_n 0, 1) := by decide +kernel
theorem dX7_isPlot_3 : decode cX7_isPlot 3 = .ok (.getfield 13, 3) := by decide +kernel
theorem dX7_isPlot_6 : decode cX7_isPlot 6 = .ok (.iconst 0, 1) := by decide +kernel
theorem dX7_isPlot_7 : decode cX7_isPlot 7 = .ok (.iaload, 1) := by decide +kernel
theorem dX7_isPlot_8 : decode cX7_isPlot 8 = .ok (.iconst 1, 1) := by decide +kernel
theorem dX7_isPlot_9 : decode cX7_isPlot 9 = .ok (.isub, 1) := by decide +kernel
theorem dX7_isPlot_10 : decode cX7_isPlot 10 = .ok (.invokestatic 56, 3) := by decide +kernel
theorem dX7_isPlot_13 : decode cX7_isPlot 13 = .ok (.ireturn, 1) := by decide +kernel
theorem dX7_isHour_0 : decode cX7_isHour 0 = .ok (.iload_n 1, 1) := by decide +kernel
theorem dX7_isHour_1 : decode cX7_isHour 1 = .ok (.iconst 0, 1) := by decide +kernel
theorem dX7_isHour_2 : decode cX7_isHour 2 = .ok (.aload_n 0, 1) := by decide +kernel
theorem dX7_isHour_3 : decode cX7_isHour 3 = .ok (.getfield 13, 3) := by decide +kernel
theorem dX7_isHour_6 : decode cX7_isHour 6 = .ok (.iconst 1, 1) := by decide +kernel
theorem dX7_isHour_7 : decode cX7_isHour 7 = .ok (.iaload, 1) := by decide +kernel
theorem dX7_isHour_8 : decode cX7_isHour 8 = .ok (.iconst 1, 1) := by decide +kernel
theorem dX7_isHour_9 : decode cX7_isHour 9 = .ok (.isub, 1) := by decide +kernel
theorem dX7_isHour_10 : decode cX7_isHour 10 = .ok (.invokestatic 56, 3) := by decide +kernel
theorem dX7_isHour_13 : decode cX7_isHour 13 = .ok (.ireturn, 1) := by decide +kernel
theorem dX7_manyIn_0 : decode cX7_manyIn 0 = .ok (.iconst 0, 1) := by decide +kernel
theorem dX7_manyIn_1 : decode cX7_manyIn 1 = .ok (.istore_n 2, 1) := by decide +kernel
theorem dX7_manyIn_2 : decode cX7_manyIn 2 = .ok (.iconst 0, 1) := by decide +kernel
theorem dX7_manyIn_3 : decode cX7_manyIn 3 = .ok (.istore_n 3, 1) := by decide +kernel
theorem dX7_manyIn_4 : decode cX7_manyIn 4 = .ok (.iload_n 3, 1) := by decide +kernel
theorem dX7_manyIn_5 : decode cX7_manyIn 5 = .ok (.bipush 7, 2) := by decide +kernel
theorem dX7_manyIn_7 : decode cX7_manyIn 7 = .ok (.if_icmp .ge 30, 3) := by decide +kernel
theorem dX7_manyIn_10 : decode cX7_manyIn 10 = .ok (.iload_n 2, 1) := by decide +kernel
theorem dX7_manyIn_11 : decode cX7_manyIn 11 = .ok (.aload_n 0, 1) := by decide +kernel
theorem dX7_manyIn_12 : decode cX7_manyIn 12 = .ok (.getfield 19, 3) := by decide +kernel
theorem dX7_manyIn_15 : decode cX7_manyIn 15 = .ok (.bipush 7, 2) := by decide +kernel
theorem dX7_manyIn_17 : decode cX7_manyIn 17 = .ok (.iload_n 3, 1) := by decide +kernel
theorem dX7_manyIn_18 : decode cX7_manyIn 18 = .ok (.iadd, 1) := by decide +kernel
theorem dX7_manyIn_19 : decode cX7_manyIn 19 = .ok (.iaload, 1) := by decide +kernel
theorem dX7_manyIn_20 : decode cX7_manyIn 20 = .ok (.iload_n 1, 1) := by decide +kernel
theorem dX7_manyIn_21 : decode cX7_manyIn 21 = .ok (.if_icmp .ne 7, 3) := by decide +kernel
theorem dX7_manyIn_24 : decode cX7_manyIn 24 = .ok (.iconst 1, 1) := by decide +kernel
theorem dX7_manyIn_25 : decode cX7_manyIn 25 = .ok (.goto 4, 3) := by decide +kernel
theorem dX7_manyIn_28 : decode cX7_manyIn 28 = .ok (.iconst 0, 1) := by decide +kernel
theorem dX7_manyIn_29 : decode cX7_manyIn 29 = .ok (.iadd, 1) := by decide +kernel
theorem dX7_manyIn_30 : decode cX7_manyIn 30 = .ok (.istore_n 2, 1) := by decide +kernel
theorem dX7_manyIn_31 : decode cX7_manyIn 31 = .ok (.iinc 3 1, 3) := by decide +kernel
theorem dX7_manyIn_34 : decode cX7_manyIn 34 = .ok (.goto (-30), 3) := by decide +kernel
theorem dX7_manyIn_37 : decode cX7_manyIn 37 = .ok (.iload_n 2, 1) := by decide +kernel
theorem dX7_manyIn_38 : decode cX7_manyIn 38 = .ok (.ireturn, 1) := by decide +kernel
theorem dX7_lying_0 : decode cX7_lying 0 = .ok (.bipush (-4), 2) := by decide +kernel
theorem dX7_lying_2 : decode cX7_lying 2 = .ok (.istore_n 3, 1) := by decide +kernel
theorem dX7_lying_3 : decode cX7_lying 3 = .ok (.iconst 0, 1) := by decide +kernel
theorem dX7_lying_4 : decode cX7_lying 4 = .ok (.istore 4, 2) := by decide +kernel
theorem dX7_lying_6 : decode cX7_lying 6 = .ok (.iload 4, 2) := by decide +kernel
theorem dX7_lying_8 : decode cX7_lying 8 = .ok (.bipush 7, 2) := by decide +kernel
theorem dX7_lying_10 : decode cX7_lying 10 = .ok (.if_icmp .ge 44, 3) := by decide +kernel
theorem dX7_lying_13 : decode cX7_lying 13 = .ok (.aload_n 0, 1) := by decide +kernel
theorem dX7_lying_14 : decode cX7_lying 14 = .ok (.getfield 19, 3) := by decide +kernel
theorem dX7_lying_17 : decode cX7_lying 17 = .ok (.bipush 7, 2) := by decide +kernel
theorem dX7_lying_19 : decode cX7_lying 19 = .ok (.iload 4, 2) := by decide +kernel
theorem dX7_lying_21 : decode cX7_lying 21 = .ok (.iadd, 1) := by decide +kernel
theorem dX7_lying_22 : decode cX7_lying 22 = .ok (.iaload, 1) := by decide +kernel
theorem dX7_lying_23 : decode cX7_lying 23 = .ok (.iload_n 1, 1) := by decide +kernel
theorem dX7_lying_24 : decode cX7_lying 24 = .ok (.if_icmp .ne 22, 3) := by decide +kernel
theorem dX7_lying_27 : decode cX7_lying 27 = .ok (.aload_n 0, 1) := by decide +kernel
theorem dX7_lying_28 : decode cX7_lying 28 = .ok (.getfield 19, 3) := by decide +kernel
theorem dX7_lying_31 : decode cX7_lying 31 = .ok (.bipush 14, 2) := by decide +kernel
theorem dX7_lying_33 : decode cX7_lying 33 = .ok (.iload 4, 2) := by decide +kernel
theorem dX7_lying_35 : decode cX7_lying 35 = .ok (.iadd, 1) := by decide +kernel
theorem dX7_lying_36 : decode cX7_lying 36 = .ok (.iaload, 1) := by decide +kernel
theorem dX7_lying_37 : decode cX7_lying 37 = .ok (.iload_n 2, 1) := by decide +kernel
theorem dX7_lying_38 : decode cX7_lying 38 = .ok (.if_icmp .ne 8, 3) := by decide +kernel
theorem dX7_lying_41 : decode cX7_lying 41 = .ok (.iload 4, 2) := by decide +kernel
theorem dX7_lying_43 : decode cX7_lying 43 = .ok (.goto 4, 3) := by decide +kernel
theorem dX7_lying_46 : decode cX7_lying 46 = .ok (.iload_n 3, 1) := by decide +kernel
theorem dX7_lying_47 : decode cX7_lying 47 = .ok (.istore_n 3, 1) := by decide +kernel
theorem dX7_lying_48 : decode cX7_lying 48 = .ok (.iinc 4 1, 3) := by decide +kernel
theorem dX7_lying_51 : decode cX7_lying 51 = .ok (.goto (-45), 3) := by decide +kernel
theorem dX7_lying_54 : decode cX7_lying 54 = .ok (.iload_n 3, 1) := by decide +kernel
theorem dX7_lying_55 : decode cX7_lying 55 = .ok (.ireturn, 1) := by decide +kernel
theorem dX7_topOf_0 : decode cX7_topOf 0 = .ok (.aload_n 0, 1) := by decide +kernel
theorem dX7_topOf_1 : decode cX7_topOf 1 = .ok (.iload_n 1, 1) := by decide +kernel
theorem dX7_topOf_2 : decode cX7_topOf 2 = .ok (.aload_n 0, 1) := by decide +kernel
theorem dX7_topOf_3 : decode cX7_topOf 3 = .ok (.iload_n 1, 1) := by decide +kernel
theorem dX7_topOf_4 : decode cX7_topOf 4 = .ok (.invokevirtual 60, 3) := by decide +kernel
theorem dX7_topOf_7 : decode cX7_topOf 7 = .ok (.iconst 1, 1) := by decide +kernel
theorem dX7_topOf_8 : decode cX7_topOf 8 = .ok (.isub, 1) := by decide +kernel
theorem dX7_topOf_9 : decode cX7_topOf 9 = .ok (.invokevirtual 64, 3) := by decide +kernel
theorem dX7_topOf_12 : decode cX7_topOf 12 = .ok (.ireturn, 1) := by decide +kernel
theorem dX7_needs_0 : decode cX7_needs 0 = .ok (.iload_n 0, 1) := by decide +kernel
theorem dX7_needs_1 : decode cX7_needs 1 = .ok (.iconst 1, 1) := by decide +kernel
theorem dX7_needs_2 : decode cX7_needs 2 = .ok (.if_icmp .ne 7, 3) := by decide +kernel
theorem dX7_needs_5 : decode cX7_needs 5 = .ok (.iconst 2, 1) := by decide +kernel
theorem dX7_needs_6 : decode cX7_needs 6 = .ok (.goto 18, 3) := by decide +kernel
theorem dX7_needs_9 : decode cX7_needs 9 = .ok (.iload_n 0, 1) := by decide +kernel
theorem dX7_needs_10 : decode cX7_needs 10 = .ok (.iconst 2, 1) := by decide +kernel
theorem dX7_needs_11 : decode cX7_needs 11 = .ok (.if_icmp .ne 12, 3) := by decide +kernel
theorem dX7_needs_14 : decode cX7_needs 14 = .ok (.iload_n 1, 1) := by decide +kernel
theorem dX7_needs_15 : decode cX7_needs 15 = .ok (.iconst 2, 1) := by decide +kernel
theorem dX7_needs_16 : decode cX7_needs 16 = .ok (.if_icmp .ne 7, 3) := by decide +kernel
theorem dX7_needs_19 : decode cX7_needs 19 = .ok (.iconst 0, 1) := by decide +kernel
theorem dX7_needs_20 : decode cX7_needs 20 = .ok (.goto 4, 3) := by decide +kernel
theorem dX7_needs_23 : decode cX7_needs 23 = .ok (.iconst 1, 1) := by decide +kernel
theorem dX7_needs_24 : decode cX7_needs 24 = .ok (.ireturn, 1) := by decide +kernel
theorem dX7_kindOf_0 : decode cX7_kindOf 0 = .ok (.iload_n 1, 1) := by decide +kernel
theorem dX7_kindOf_1 : decode cX7_kindOf 1 = .ok (.bipush (-4), 2) := by decide +kernel
theorem dX7_kindOf_3 : decode cX7_kindOf 3 = .ok (.if_icmp .ne 8, 3) := by decide +kernel
theorem dX7_kindOf_6 : decode cX7_kindOf 6 = .ok (.bipush (-4), 2) := by decide +kernel
theorem dX7_kindOf_8 : decode cX7_kindOf 8 = .ok (.goto 26, 3) := by decide +kernel
theorem dX7_kindOf_11 : decode cX7_kindOf 11 = .ok (.iload_n 2, 1) := by decide +kernel
theorem dX7_kindOf_12 : decode cX7_kindOf 12 = .ok (.ifCond .eq 14, 3) := by decide +kernel
theorem dX7_kindOf_15 : decode cX7_kindOf 15 = .ok (.aload_n 0, 1) := by decide +kernel
theorem dX7_kindOf_16 : decode cX7_kindOf 16 = .ok (.getfield 16, 3) := by decide +kernel
theorem dX7_kindOf_19 : decode cX7_kindOf 19 = .ok (.iconst 2, 1) := by decide +kernel
theorem dX7_kindOf_20 : decode cX7_kindOf 20 = .ok (.iload_n 1, 1) := by decide +kernel
theorem dX7_kindOf_21 : decode cX7_kindOf 21 = .ok (.iadd, 1) := by decide +kernel
theorem dX7_kindOf_22 : decode cX7_kindOf 22 = .ok (.iaload, 1) := by decide +kernel
theorem dX7_kindOf_23 : decode cX7_kindOf 23 = .ok (.goto 11, 3) := by decide +kernel
theorem dX7_kindOf_26 : decode cX7_kindOf 26 = .ok (.aload_n 0, 1) := by decide +kernel
theorem dX7_kindOf_27 : decode cX7_kindOf 27 = .ok (.getfield 13, 3) := by decide +kernel
theorem dX7_kindOf_30 : decode cX7_kindOf 30 = .ok (.iconst 2, 1) := by decide +kernel
theorem dX7_kindOf_31 : decode cX7_kindOf 31 = .ok (.iload_n 1, 1) := by decide +kernel
theorem dX7_kindOf_32 : decode cX7_kindOf 32 = .ok (.iadd, 1) := by decide +kernel
theorem dX7_kindOf_33 : decode cX7_kindOf 33 = .ok (.iaload, 1) := by decide +kernel
theorem dX7_kindOf_34 : decode cX7_kindOf 34 = .ok (.ireturn, 1) := by decide +kernel
theorem dX7_allNeeds_0 : decode cX7_allNeeds 0 = .ok (.iconst 0, 1) := by decide +kernel
theorem dX7_allNeeds_1 : decode cX7_allNeeds 1 = .ok (.istore_n 3, 1) := by decide +kernel
theorem dX7_allNeeds_2 : decode cX7_allNeeds 2 = .ok (.bipush (-4), 2) := by decide +kernel
theorem dX7_allNeeds_4 : decode cX7_allNeeds 4 = .ok (.istore 4, 2) := by decide +kernel
theorem dX7_allNeeds_6 : decode cX7_allNeeds 6 = .ok (.iconst 0, 1) := by decide +kernel
theorem dX7_allNeeds_7 : decode cX7_allNeeds 7 = .ok (.istore 5, 2) := by decide +kernel
theorem dX7_allNeeds_9 : decode cX7_allNeeds 9 = .ok (.iload 5, 2) := by decide +kernel
theorem dX7_allNeeds_11 : decode cX7_allNeeds 11 = .ok (.aload_n 0, 1) := by decide +kernel
theorem dX7_allNeeds_12 : decode cX7_allNeeds 12 = .ok (.iload_n 1, 1) := by decide +kernel
theorem dX7_allNeeds_13 : decode cX7_allNeeds 13 = .ok (.invokevirtual 60, 3) := by decide +kernel
theorem dX7_allNeeds_16 : decode cX7_allNeeds 16 = .ok (.if_icmp .ge 37, 3) := by decide +kernel
theorem dX7_allNeeds_19 : decode cX7_allNeeds 19 = .ok (.aload_n 0, 1) := by decide +kernel
theorem dX7_allNeeds_20 : decode cX7_allNeeds 20 = .ok (.aload_n 0, 1) := by decide +kernel
theorem dX7_allNeeds_21 : decode cX7_allNeeds 21 = .ok (.iload_n 1, 1) := by decide +kernel
theorem dX7_allNeeds_22 : decode cX7_allNeeds 22 = .ok (.iload 5, 2) := by decide +kernel
theorem dX7_allNeeds_24 : decode cX7_allNeeds 24 = .ok (.invokevirtual 64, 3) := by decide +kernel
theorem dX7_allNeeds_27 : decode cX7_allNeeds 27 = .ok (.iload_n 2, 1) := by decide +kernel
theorem dX7_allNeeds_28 : decode cX7_allNeeds 28 = .ok (.invokevirtual 68, 3) := by decide +kernel
theorem dX7_allNeeds_31 : decode cX7_allNeeds 31 = .ok (.istore 6, 2) := by decide +kernel
theorem dX7_allNeeds_33 : decode cX7_allNeeds 33 = .ok (.iload_n 3, 1) := by decide +kernel
theorem dX7_allNeeds_34 : decode cX7_allNeeds 34 = .ok (.iload 6, 2) := by decide +kernel
theorem dX7_allNeeds_36 : decode cX7_allNeeds 36 = .ok (.iload 4, 2) := by decide +kernel
theorem dX7_allNeeds_38 : decode cX7_allNeeds 38 = .ok (.invokestatic 72, 3) := by decide +kernel
theorem dX7_allNeeds_41 : decode cX7_allNeeds 41 = .ok (.iadd, 1) := by decide +kernel
theorem dX7_allNeeds_42 : decode cX7_allNeeds 42 = .ok (.istore_n 3, 1) := by decide +kernel
theorem dX7_allNeeds_43 : decode cX7_allNeeds 43 = .ok (.iload 6, 2) := by decide +kernel
theorem dX7_allNeeds_45 : decode cX7_allNeeds 45 = .ok (.istore 4, 2) := by decide +kernel
theorem dX7_allNeeds_47 : decode cX7_allNeeds 47 = .ok (.iinc 5 1, 3) := by decide +kernel
theorem dX7_allNeeds_50 : decode cX7_allNeeds 50 = .ok (.goto (-41), 3) := by decide +kernel
theorem dX7_allNeeds_53 : decode cX7_allNeeds 53 = .ok (.iload_n 3, 1) := by decide +kernel
theorem dX7_allNeeds_54 : decode cX7_allNeeds 54 = .ok (.ireturn, 1) := by decide +kernel
theorem dX7_isFit_0 : decode cX7_isFit 0 = .ok (.aload_n 0, 1) := by decide +kernel
theorem dX7_isFit_1 : decode cX7_isFit 1 = .ok (.aload_n 0, 1) := by decide +kernel
theorem dX7_isFit_2 : decode cX7_isFit 2 = .ok (.iload_n 2, 1) := by decide +kernel
theorem dX7_isFit_3 : decode cX7_isFit 3 = .ok (.invokevirtual 75, 3) := by decide +kernel
theorem dX7_isFit_6 : decode cX7_isFit 6 = .ok (.iload_n 3, 1) := by decide +kernel
theorem dX7_isFit_7 : decode cX7_isFit 7 = .ok (.invokevirtual 68, 3) := by decide +kernel
theorem dX7_isFit_10 : decode cX7_isFit 10 = .ok (.istore 4, 2) := by decide +kernel
theorem dX7_isFit_12 : decode cX7_isFit 12 = .ok (.iload 4, 2) := by decide +kernel
theorem dX7_isFit_14 : decode cX7_isFit 14 = .ok (.iconst 3, 1) := by decide +kernel
theorem dX7_isFit_15 : decode cX7_isFit 15 = .ok (.if_icmp .eq 31, 3) := by decide +kernel
theorem dX7_isFit_18 : decode cX7_isFit 18 = .ok (.aload_n 0, 1) := by decide +kernel
theorem dX7_isFit_19 : decode cX7_isFit 19 = .ok (.iload_n 2, 1) := by decide +kernel
theorem dX7_isFit_20 : decode cX7_isFit 20 = .ok (.iload_n 3, 1) := by decide +kernel
theorem dX7_isFit_21 : decode cX7_isFit 21 = .ok (.invokevirtual 78, 3) := by decide +kernel
theorem dX7_isFit_24 : decode cX7_isFit 24 = .ok (.iload_n 1, 1) := by decide +kernel
theorem dX7_isFit_25 : decode cX7_isFit 25 = .ok (.iload 4, 2) := by decide +kernel
theorem dX7_isFit_27 : decode cX7_isFit 27 = .ok (.invokestatic 72, 3) := by decide +kernel
theorem dX7_isFit_30 : decode cX7_isFit 30 = .ok (.iadd, 1) := by decide +kernel
theorem dX7_isFit_31 : decode cX7_isFit 31 = .ok (.aload_n 0, 1) := by decide +kernel
theorem dX7_isFit_32 : decode cX7_isFit 32 = .ok (.getfield 19, 3) := by decide +kernel
theorem dX7_isFit_35 : decode cX7_isFit 35 = .ok (.iconst 2, 1) := by decide +kernel
theorem dX7_isFit_36 : decode cX7_isFit 36 = .ok (.iload_n 2, 1) := by decide +kernel
theorem dX7_isFit_37 : decode cX7_isFit 37 = .ok (.iadd, 1) := by decide +kernel
theorem dX7_isFit_38 : decode cX7_isFit 38 = .ok (.iaload, 1) := by decide +kernel
theorem dX7_isFit_39 : decode cX7_isFit 39 = .ok (.if_icmp .gt 7, 3) := by decide +kernel
theorem dX7_isFit_42 : decode cX7_isFit 42 = .ok (.iconst 1, 1) := by decide +kernel
theorem dX7_isFit_43 : decode cX7_isFit 43 = .ok (.goto 4, 3) := by decide +kernel
theorem dX7_isFit_46 : decode cX7_isFit 46 = .ok (.iconst 0, 1) := by decide +kernel
theorem dX7_isFit_47 : decode cX7_isFit 47 = .ok (.ireturn, 1) := by decide +kernel
theorem dX7_lays_0 : decode cX7_lays 0 = .ok (.iload_n 2, 1) := by decide +kernel
theorem dX7_lays_1 : decode cX7_lays 1 = .ok (.iconst (-1), 1) := by decide +kernel
theorem dX7_lays_2 : decode cX7_lays 2 = .ok (.if_icmp .ne 7, 3) := by decide +kernel
theorem dX7_lays_5 : decode cX7_lays 5 = .ok (.iconst 0, 1) := by decide +kernel
theorem dX7_lays_6 : decode cX7_lays 6 = .ok (.goto 8, 3) := by decide +kernel
theorem dX7_lays_9 : decode cX7_lays 9 = .ok (.aload_n 0, 1) := by decide +kernel
theorem dX7_lays_10 : decode cX7_lays 10 = .ok (.iload_n 2, 1) := by decide +kernel
theorem dX7_lays_11 : decode cX7_lays 11 = .ok (.invokevirtual 60, 3) := by decide +kernel
theorem dX7_lays_14 : decode cX7_lays 14 = .ok (.istore_n 3, 1) := by decide +kernel
theorem dX7_lays_15 : decode cX7_lays 15 = .ok (.aload_n 0, 1) := by decide +kernel
theorem dX7_lays_16 : decode cX7_lays 16 = .ok (.getfield 19, 3) := by decide +kernel
theorem dX7_lays_19 : decode cX7_lays 19 = .ok (.bipush 7, 2) := by decide +kernel
theorem dX7_lays_21 : decode cX7_lays 21 = .ok (.iload_n 1, 1) := by decide +kernel
theorem dX7_lays_22 : decode cX7_lays 22 = .ok (.iadd, 1) := by decide +kernel
theorem dX7_lays_23 : decode cX7_lays 23 = .ok (.iload_n 2, 1) := by decide +kernel
theorem dX7_lays_24 : decode cX7_lays 24 = .ok (.iastore, 1) := by decide +kernel
theorem dX7_lays_25 : decode cX7_lays 25 = .ok (.aload_n 0, 1) := by decide +kernel
theorem dX7_lays_26 : decode cX7_lays 26 = .ok (.getfield 19, 3) := by decide +kernel
theorem dX7_lays_29 : decode cX7_lays 29 = .ok (.bipush 14, 2) := by decide +kernel
theorem dX7_lays_31 : decode cX7_lays 31 = .ok (.iload_n 1, 1) := by decide +kernel
theorem dX7_lays_32 : decode cX7_lays 32 = .ok (.iadd, 1) := by decide +kernel
theorem dX7_lays_33 : decode cX7_lays 33 = .ok (.iload_n 3, 1) := by decide +kernel
theorem dX7_lays_34 : decode cX7_lays 34 = .ok (.iastore, 1) := by decide +kernel
theorem dX7_lays_35 : decode cX7_lays 35 = .ok (.return_, 1) := by decide +kernel
theorem dX7_takes_0 : decode cX7_takes 0 = .ok (.aload_n 0, 1) := by decide +kernel
theorem dX7_takes_1 : decode cX7_takes 1 = .ok (.getfield 19, 3) := by decide +kernel
theorem dX7_takes_4 : decode cX7_takes 4 = .ok (.bipush 7, 2) := by decide +kernel
theorem dX7_takes_6 : decode cX7_takes 6 = .ok (.iload_n 1, 1) := by decide +kernel
theorem dX7_takes_7 : decode cX7_takes 7 = .ok (.iadd, 1) := by decide +kernel
theorem dX7_takes_8 : decode cX7_takes 8 = .ok (.iaload, 1) := by decide +kernel
theorem dX7_takes_9 : decode cX7_takes 9 = .ok (.istore_n 2, 1) := by decide +kernel
theorem dX7_takes_10 : decode cX7_takes 10 = .ok (.iconst 0, 1) := by decide +kernel
theorem dX7_takes_11 : decode cX7_takes 11 = .ok (.istore_n 3, 1) := by decide +kernel
theorem dX7_takes_12 : decode cX7_takes 12 = .ok (.iconst 0, 1) := by decide +kernel
theorem dX7_takes_13 : decode cX7_takes 13 = .ok (.istore 4, 2) := by decide +kernel
theorem dX7_takes_15 : decode cX7_takes 15 = .ok (.iload 4, 2) := by decide +kernel
theorem dX7_takes_17 : decode cX7_takes 17 = .ok (.bipush 7, 2) := by decide +kernel
theorem dX7_takes_19 : decode cX7_takes 19 = .ok (.if_icmp .ge 93, 3) := by decide +kernel
theorem dX7_takes_22 : decode cX7_takes 22 = .ok (.iload_n 2, 1) := by decide +kernel
theorem dX7_takes_23 : decode cX7_takes 23 = .ok (.iconst (-1), 1) := by decide +kernel
theorem dX7_takes_24 : decode cX7_takes 24 = .ok (.if_icmp .eq 88, 3) := by decide +kernel
theorem dX7_takes_27 : decode cX7_takes 27 = .ok (.aload_n 0, 1) := by decide +kernel
theorem dX7_takes_28 : decode cX7_takes 28 = .ok (.getfield 19, 3) := by decide +kernel
theorem dX7_takes_31 : decode cX7_takes 31 = .ok (.bipush 7, 2) := by decide +kernel
theorem dX7_takes_33 : decode cX7_takes 33 = .ok (.iload 4, 2) := by decide +kernel
theorem dX7_takes_35 : decode cX7_takes 35 = .ok (.iadd, 1) := by decide +kernel
theorem dX7_takes_36 : decode cX7_takes 36 = .ok (.iaload, 1) := by decide +kernel
theorem dX7_takes_37 : decode cX7_takes 37 = .ok (.iload_n 2, 1) := by decide +kernel
theorem dX7_takes_38 : decode cX7_takes 38 = .ok (.if_icmp .ne 29, 3) := by decide +kernel
theorem dX7_takes_41 : decode cX7_takes 41 = .ok (.aload_n 0, 1) := by decide +kernel
theorem dX7_takes_42 : decode cX7_takes 42 = .ok (.getfield 19, 3) := by decide +kernel
theorem dX7_takes_45 : decode cX7_takes 45 = .ok (.bipush 14, 2) := by decide +kernel
theorem dX7_takes_47 : decode cX7_takes 47 = .ok (.iload 4, 2) := by decide +kernel
theorem dX7_takes_49 : decode cX7_takes 49 = .ok (.iadd, 1) := by decide +kernel
theorem dX7_takes_50 : decode cX7_takes 50 = .ok (.iaload, 1) := by decide +kernel
theorem dX7_takes_51 : decode cX7_takes 51 = .ok (.aload_n 0, 1) := by decide +kernel
theorem dX7_takes_52 : decode cX7_takes 52 = .ok (.getfield 19, 3) := by decide +kernel
theorem dX7_takes_55 : decode cX7_takes 55 = .ok (.bipush 14, 2) := by decide +kernel
theorem dX7_takes_57 : decode cX7_takes 57 = .ok (.iload_n 1, 1) := by decide +kernel
theorem dX7_takes_58 : decode cX7_takes 58 = .ok (.iadd, 1) := by decide +kernel
theorem dX7_takes_59 : decode cX7_takes 59 = .ok (.iaload, 1) := by decide +kernel
theorem dX7_takes_60 : decode cX7_takes 60 = .ok (.if_icmp .le 7, 3) := by decide +kernel
theorem dX7_takes_63 : decode cX7_takes 63 = .ok (.iconst 1, 1) := by decide +kernel
theorem dX7_takes_64 : decode cX7_takes 64 = .ok (.goto 4, 3) := by decide +kernel
theorem dX7_takes_67 : decode cX7_takes 67 = .ok (.iconst 0, 1) := by decide +kernel
theorem dX7_takes_68 : decode cX7_takes 68 = .ok (.istore 5, 2) := by decide +kernel
theorem dX7_takes_70 : decode cX7_takes 70 = .ok (.aload_n 0, 1) := by decide +kernel
theorem dX7_takes_71 : decode cX7_takes 71 = .ok (.getfield 19, 3) := by decide +kernel
theorem dX7_takes_74 : decode cX7_takes 74 = .ok (.bipush 14, 2) := by decide +kernel
theorem dX7_takes_76 : decode cX7_takes 76 = .ok (.iload 4, 2) := by decide +kernel
theorem dX7_takes_78 : decode cX7_takes 78 = .ok (.iadd, 1) := by decide +kernel
theorem dX7_takes_79 : decode cX7_takes 79 = .ok (.dup2, 1) := by decide +kernel
theorem dX7_takes_80 : decode cX7_takes 80 = .ok (.iaload, 1) := by decide +kernel
theorem dX7_takes_81 : decode cX7_takes 81 = .ok (.iload 5, 2) := by decide +kernel
theorem dX7_takes_83 : decode cX7_takes 83 = .ok (.ifCond .eq 7, 3) := by decide +kernel
theorem dX7_takes_86 : decode cX7_takes 86 = .ok (.iconst 1, 1) := by decide +kernel
theorem dX7_takes_87 : decode cX7_takes 87 = .ok (.goto 4, 3) := by decide +kernel
theorem dX7_takes_90 : decode cX7_takes 90 = .ok (.iconst 0, 1) := by decide +kernel
theorem dX7_takes_91 : decode cX7_takes 91 = .ok (.isub, 1) := by decide +kernel
theorem dX7_takes_92 : decode cX7_takes 92 = .ok (.iastore, 1) := by decide +kernel
theorem dX7_takes_93 : decode cX7_takes 93 = .ok (.iload_n 3, 1) := by decide +kernel
theorem dX7_takes_94 : decode cX7_takes 94 = .ok (.iload 5, 2) := by decide +kernel
theorem dX7_takes_96 : decode cX7_takes 96 = .ok (.ifCond .eq 7, 3) := by decide +kernel
theorem dX7_takes_99 : decode cX7_takes 99 = .ok (.iconst 1, 1) := by decide +kernel
theorem dX7_takes_100 : decode cX7_takes 100 = .ok (.goto 4, 3) := by decide +kernel
theorem dX7_takes_103 : decode cX7_takes 103 = .ok (.iconst 0, 1) := by decide +kernel
theorem dX7_takes_104 : decode cX7_takes 104 = .ok (.iadd, 1) := by decide +kernel
theorem dX7_takes_105 : decode cX7_takes 105 = .ok (.istore_n 3, 1) := by decide +kernel
theorem dX7_takes_106 : decode cX7_takes 106 = .ok (.iinc 4 1, 3) := by decide +kernel
theorem dX7_takes_109 : decode cX7_takes 109 = .ok (.goto (-94), 3) := by decide +kernel
theorem dX7_takes_112 : decode cX7_takes 112 = .ok (.aload_n 0, 1) := by decide +kernel
theorem dX7_takes_113 : decode cX7_takes 113 = .ok (.getfield 19, 3) := by decide +kernel
theorem dX7_takes_116 : decode cX7_takes 116 = .ok (.bipush 7, 2) := by decide +kernel
theorem dX7_takes_118 : decode cX7_takes 118 = .ok (.iload_n 1, 1) := by decide +kernel
theorem dX7_takes_119 : decode cX7_takes 119 = .ok (.iadd, 1) := by decide +kernel
theorem dX7_takes_120 : decode cX7_takes 120 = .ok (.iconst (-1), 1) := by decide +kernel
theorem dX7_takes_121 : decode cX7_takes 121 = .ok (.iastore, 1) := by decide +kernel
theorem dX7_takes_122 : decode cX7_takes 122 = .ok (.aload_n 0, 1) := by decide +kernel
theorem dX7_takes_123 : decode cX7_takes 123 = .ok (.getfield 19, 3) := by decide +kernel
theorem dX7_takes_126 : decode cX7_takes 126 = .ok (.bipush 14, 2) := by decide +kernel
theorem dX7_takes_128 : decode cX7_takes 128 = .ok (.iload_n 1, 1) := by decide +kernel
theorem dX7_takes_129 : decode cX7_takes 129 = .ok (.iadd, 1) := by decide +kernel
theorem dX7_takes_130 : decode cX7_takes 130 = .ok (.iconst 0, 1) := by decide +kernel
theorem dX7_takes_131 : decode cX7_takes 131 = .ok (.iastore, 1) := by decide +kernel
theorem dX7_takes_132 : decode cX7_takes 132 = .ok (.iload_n 3, 1) := by decide +kernel
theorem dX7_takes_133 : decode cX7_takes 133 = .ok (.ireturn, 1) := by decide +kernel
theorem dX7_write_0 : decode cX7_write 0 = .ok (.iload_n 1, 1) := by decide +kernel
theorem dX7_write_1 : decode cX7_write 1 = .ok (.bipush 32, 2) := by decide +kernel
theorem dX7_write_3 : decode cX7_write 3 = .ok (.bipush 126, 2) := by decide +kernel
theorem dX7_write_5 : decode cX7_write 5 = .ok (.invokestatic 56, 3) := by decide +kernel
theorem dX7_write_8 : decode cX7_write 8 = .ok (.ifCond .ne 5, 3) := by decide +kernel
theorem dX7_write_11 : decode cX7_write 11 = .ok (.iconst (-1), 1) := by decide +kernel
theorem dX7_write_12 : decode cX7_write 12 = .ok (.ireturn, 1) := by decide +kernel
theorem dX7_write_13 : decode cX7_write 13 = .ok (.aload_n 0, 1) := by decide +kernel
theorem dX7_write_14 : decode cX7_write 14 = .ok (.getfield 81, 3) := by decide +kernel
theorem dX7_write_17 : decode cX7_write 17 = .ok (.sipush 200, 3) := by decide +kernel
theorem dX7_write_20 : decode cX7_write 20 = .ok (.if_icmp .ne 6, 3) := by decide +kernel
theorem dX7_write_23 : decode cX7_write 23 = .ok (.bipush (-3), 2) := by decide +kernel
theorem dX7_write_25 : decode cX7_write 25 = .ok (.ireturn, 1) := by decide +kernel
theorem dX7_write_26 : decode cX7_write 26 = .ok (.aload_n 0, 1) := by decide +kernel
theorem dX7_write_27 : decode cX7_write 27 = .ok (.getfield 7, 3) := by decide +kernel
theorem dX7_write_30 : decode cX7_write 30 = .ok (.aload_n 0, 1) := by decide +kernel
theorem dX7_write_31 : decode cX7_write 31 = .ok (.getfield 81, 3) := by decide +kernel
theorem dX7_write_34 : decode cX7_write 34 = .ok (.iload_n 1, 1) := by decide +kernel
theorem dX7_write_35 : decode cX7_write 35 = .ok (.iastore, 1) := by decide +kernel
theorem dX7_write_36 : decode cX7_write 36 = .ok (.aload_n 0, 1) := by decide +kernel
theorem dX7_write_37 : decode cX7_write 37 = .ok (.dup, 1) := by decide +kernel
theorem dX7_write_38 : decode cX7_write 38 = .ok (.getfield 81, 3) := by decide +kernel
theorem dX7_write_41 : decode cX7_write 41 = .ok (.iconst 1, 1) := by decide +kernel
theorem dX7_write_42 : decode cX7_write 42 = .ok (.iadd, 1) := by decide +kernel
theorem dX7_write_43 : decode cX7_write 43 = .ok (.putfield 81, 3) := by decide +kernel
theorem dX7_write_46 : decode cX7_write 46 = .ok (.aload_n 0, 1) := by decide +kernel
theorem dX7_write_47 : decode cX7_write 47 = .ok (.getfield 81, 3) := by decide +kernel
theorem dX7_write_50 : decode cX7_write 50 = .ok (.ireturn, 1) := by decide +kernel
theorem dX7_wipe_0 : decode cX7_wipe 0 = .ok (.aload_n 0, 1) := by decide +kernel
theorem dX7_wipe_1 : decode cX7_wipe 1 = .ok (.getfield 81, 3) := by decide +kernel
theorem dX7_wipe_4 : decode cX7_wipe 4 = .ok (.istore_n 1, 1) := by decide +kernel
theorem dX7_wipe_5 : decode cX7_wipe 5 = .ok (.aload_n 0, 1) := by decide +kernel
theorem dX7_wipe_6 : decode cX7_wipe 6 = .ok (.iconst 0, 1) := by decide +kernel
theorem dX7_wipe_7 : decode cX7_wipe 7 = .ok (.putfield 81, 3) := by decide +kernel
theorem dX7_wipe_10 : decode cX7_wipe 10 = .ok (.iload_n 1, 1) := by decide +kernel
theorem dX7_wipe_11 : decode cX7_wipe 11 = .ok (.ireturn, 1) := by decide +kernel
theorem dX7_letterAt_0 : decode cX7_letterAt 0 = .ok (.iload_n 1, 1) := by decide +kernel
theorem dX7_letterAt_1 : decode cX7_letterAt 1 = .ok (.aload_n 0, 1) := by decide +kernel
theorem dX7_letterAt_2 : decode cX7_letterAt 2 = .ok (.getfield 81, 3) := by decide +kernel
theorem dX7_letterAt_5 : decode cX7_letterAt 5 = .ok (.if_icmp .ge 12, 3) := by decide +kernel
theorem dX7_letterAt_8 : decode cX7_letterAt 8 = .ok (.aload_n 0, 1) := by decide +kernel
theorem dX7_letterAt_9 : decode cX7_letterAt 9 = .ok (.getfield 7, 3) := by decide +kernel
theorem dX7_letterAt_12 : decode cX7_letterAt 12 = .ok (.iload_n 1, 1) := by decide +kernel
theorem dX7_letterAt_13 : decode cX7_letterAt 13 = .ok (.iaload, 1) := by decide +kernel
theorem dX7_letterAt_14 : decode cX7_letterAt 14 = .ok (.goto 4, 3) := by decide +kernel
theorem dX7_letterAt_17 : decode cX7_letterAt 17 = .ok (.iconst (-1), 1) := by decide +kernel
theorem dX7_letterAt_18 : decode cX7_letterAt 18 = .ok (.ireturn, 1) := by decide +kernel
theorem dX7_isFigure_0 : decode cX7_isFigure 0 = .ok (.iload_n 0, 1) := by decide +kernel
theorem dX7_isFigure_1 : decode cX7_isFigure 1 = .ok (.bipush 48, 2) := by decide +kernel
theorem dX7_isFigure_3 : decode cX7_isFigure 3 = .ok (.bipush 57, 2) := by decide +kernel
theorem dX7_isFigure_5 : decode cX7_isFigure 5 = .ok (.invokestatic 56, 3) := by decide +kernel
theorem dX7_isFigure_8 : decode cX7_isFigure 8 = .ok (.ireturn, 1) := by decide +kernel
theorem dX7_number_0 : decode cX7_number 0 = .ok (.aload_n 0, 1) := by decide +kernel
theorem dX7_number_1 : decode cX7_number 1 = .ok (.aload_n 0, 1) := by decide +kernel
theorem dX7_number_2 : decode cX7_number 2 = .ok (.getfield 85, 3) := by decide +kernel
theorem dX7_number_5 : decode cX7_number 5 = .ok (.invokevirtual 88, 3) := by decide +kernel
theorem dX7_number_8 : decode cX7_number 8 = .ok (.invokestatic 91, 3) := by decide +kernel
theorem dX7_number_11 : decode cX7_number 11 = .ok (.ifCond .ne 5, 3) := by decide +kernel
theorem dX7_number_14 : decode cX7_number 14 = .ok (.iconst (-1), 1) := by decide +kernel
theorem dX7_number_15 : decode cX7_number 15 = .ok (.ireturn, 1) := by decide +kernel
theorem dX7_number_16 : decode cX7_number 16 = .ok (.aload_n 0, 1) := by decide +kernel
theorem dX7_number_17 : decode cX7_number 17 = .ok (.aload_n 0, 1) := by decide +kernel
theorem dX7_number_18 : decode cX7_number 18 = .ok (.getfield 85, 3) := by decide +kernel
theorem dX7_number_21 : decode cX7_number 21 = .ok (.invokevirtual 88, 3) := by decide +kernel
theorem dX7_number_24 : decode cX7_number 24 = .ok (.bipush 48, 2) := by decide +kernel
theorem dX7_number_26 : decode cX7_number 26 = .ok (.isub, 1) := by decide +kernel
theorem dX7_number_27 : decode cX7_number 27 = .ok (.istore 4, 2) := by decide +kernel
theorem dX7_number_29 : decode cX7_number 29 = .ok (.aload_n 0, 1) := by decide +kernel
theorem dX7_number_30 : decode cX7_number 30 = .ok (.dup, 1) := by decide +kernel
theorem dX7_number_31 : decode cX7_number 31 = .ok (.getfield 85, 3) := by decide +kernel
theorem dX7_number_34 : decode cX7_number 34 = .ok (.iconst 1, 1) := by decide +kernel
theorem dX7_number_35 : decode cX7_number 35 = .ok (.iadd, 1) := by decide +kernel
theorem dX7_number_36 : decode cX7_number 36 = .ok (.putfield 85, 3) := by decide +kernel
theorem dX7_number_39 : decode cX7_number 39 = .ok (.aload_n 0, 1) := by decide +kernel
theorem dX7_number_40 : decode cX7_number 40 = .ok (.aload_n 0, 1) := by decide +kernel
theorem dX7_number_41 : decode cX7_number 41 = .ok (.getfield 85, 3) := by decide +kernel
theorem dX7_number_44 : decode cX7_number 44 = .ok (.invokevirtual 88, 3) := by decide +kernel
theorem dX7_number_47 : decode cX7_number 47 = .ok (.invokestatic 91, 3) := by decide +kernel
theorem dX7_number_50 : decode cX7_number 50 = .ok (.ifCond .eq 32, 3) := by decide +kernel
theorem dX7_number_53 : decode cX7_number 53 = .ok (.bipush 10, 2) := by decide +kernel
theorem dX7_number_55 : decode cX7_number 55 = .ok (.iload 4, 2) := by decide +kernel
theorem dX7_number_57 : decode cX7_number 57 = .ok (.imul, 1) := by decide +kernel
theorem dX7_number_58 : decode cX7_number 58 = .ok (.aload_n 0, 1) := by decide +kernel
theorem dX7_number_59 : decode cX7_number 59 = .ok (.aload_n 0, 1) := by decide +kernel
theorem dX7_number_60 : decode cX7_number 60 = .ok (.getfield 85, 3) := by decide +kernel
theorem dX7_number_63 : decode cX7_number 63 = .ok (.invokevirtual 88, 3) := by decide +kernel
theorem dX7_number_66 : decode cX7_number 66 = .ok (.iadd, 1) := by decide +kernel
theorem dX7_number_67 : decode cX7_number 67 = .ok (.bipush 48, 2) := by decide +kernel
theorem dX7_number_69 : decode cX7_number 69 = .ok (.isub, 1) := by decide +kernel
theorem dX7_number_70 : decode cX7_number 70 = .ok (.istore 4, 2) := by decide +kernel
theorem dX7_number_72 : decode cX7_number 72 = .ok (.aload_n 0, 1) := by decide +kernel
theorem dX7_number_73 : decode cX7_number 73 = .ok (.dup, 1) := by decide +kernel
theorem dX7_number_74 : decode cX7_number 74 = .ok (.getfield 85, 3) := by decide +kernel
theorem dX7_number_77 : decode cX7_number 77 = .ok (.iconst 1, 1) := by decide +kernel
theorem dX7_number_78 : decode cX7_number 78 = .ok (.iadd, 1) := by decide +kernel
theorem dX7_number_79 : decode cX7_number 79 = .ok (.putfield 85, 3) := by decide +kernel
theorem dX7_number_82 : decode cX7_number 82 = .ok (.iload 4, 2) := by decide +kernel
theorem dX7_number_84 : decode cX7_number 84 = .ok (.iload_n 1, 1) := by decide +kernel
theorem dX7_number_85 : decode cX7_number 85 = .ok (.iload_n 2, 1) := by decide +kernel
theorem dX7_number_86 : decode cX7_number 86 = .ok (.invokestatic 56, 3) := by decide +kernel
theorem dX7_number_89 : decode cX7_number 89 = .ok (.ifCond .eq 19, 3) := by decide +kernel
theorem dX7_number_92 : decode cX7_number 92 = .ok (.aload_n 0, 1) := by decide +kernel
theorem dX7_number_93 : decode cX7_number 93 = .ok (.aload_n 0, 1) := by decide +kernel
theorem dX7_number_94 : decode cX7_number 94 = .ok (.getfield 85, 3) := by decide +kernel
theorem dX7_number_97 : decode cX7_number 97 = .ok (.invokevirtual 88, 3) := by decide +kernel
theorem dX7_number_100 : decode cX7_number 100 = .ok (.iload_n 3, 1) := by decide +kernel
theorem dX7_number_101 : decode cX7_number 101 = .ok (.if_icmp .ne 7, 3) := by decide +kernel
theorem dX7_number_104 : decode cX7_number 104 = .ok (.iconst 1, 1) := by decide +kernel
theorem dX7_number_105 : decode cX7_number 105 = .ok (.goto 4, 3) := by decide +kernel
theorem dX7_number_108 : decode cX7_number 108 = .ok (.iconst 0, 1) := by decide +kernel
theorem dX7_number_109 : decode cX7_number 109 = .ok (.istore 5, 2) := by decide +kernel
theorem dX7_number_111 : decode cX7_number 111 = .ok (.aload_n 0, 1) := by decide +kernel
theorem dX7_number_112 : decode cX7_number 112 = .ok (.dup, 1) := by decide +kernel
theorem dX7_number_113 : decode cX7_number 113 = .ok (.getfield 85, 3) := by decide +kernel
theorem dX7_number_116 : decode cX7_number 116 = .ok (.iconst 1, 1) := by decide +kernel
theorem dX7_number_117 : decode cX7_number 117 = .ok (.iadd, 1) := by decide +kernel
theorem dX7_number_118 : decode cX7_number 118 = .ok (.putfield 85, 3) := by decide +kernel
theorem dX7_number_121 : decode cX7_number 121 = .ok (.iload 5, 2) := by decide +kernel
theorem dX7_number_123 : decode cX7_number 123 = .ok (.ifCond .eq 8, 3) := by decide +kernel
theorem dX7_number_126 : decode cX7_number 126 = .ok (.iload 4, 2) := by decide +kernel
theorem dX7_number_128 : decode cX7_number 128 = .ok (.goto 4, 3) := by decide +kernel
theorem dX7_number_131 : decode cX7_number 131 = .ok (.iconst (-1), 1) := by decide +kernel
theorem dX7_number_132 : decode cX7_number 132 = .ok (.ireturn, 1) := by decide +kernel
theorem dX7_holds_0 : decode cX7_holds 0 = .ok (.iconst 0, 1) := by decide +kernel
theorem dX7_holds_1 : decode cX7_holds 1 = .ok (.istore_n 1, 1) := by decide +kernel
theorem dX7_holds_2 : decode cX7_holds 2 = .ok (.iload_n 1, 1) := by decide +kernel
theorem dX7_holds_3 : decode cX7_holds 3 = .ok (.bipush 56, 2) := by decide +kernel
theorem dX7_holds_5 : decode cX7_holds 5 = .ok (.if_icmp .ge 16, 3) := by decide +kernel
theorem dX7_holds_8 : decode cX7_holds 8 = .ok (.aload_n 0, 1) := by decide +kernel
theorem dX7_holds_9 : decode cX7_holds 9 = .ok (.getfield 16, 3) := by decide +kernel
theorem dX7_holds_12 : decode cX7_holds 12 = .ok (.iload_n 1, 1) := by decide +kernel
theorem dX7_holds_13 : decode cX7_holds 13 = .ok (.iconst 0, 1) := by decide +kernel
theorem dX7_holds_14 : decode cX7_holds 14 = .ok (.iastore, 1) := by decide +kernel
theorem dX7_holds_15 : decode cX7_holds 15 = .ok (.iinc 1 1, 3) := by decide +kernel
theorem dX7_holds_18 : decode cX7_holds 18 = .ok (.goto (-16), 3) := by decide +kernel
theorem dX7_holds_21 : decode cX7_holds 21 = .ok (.iconst 0, 1) := by decide +kernel
theorem dX7_holds_22 : decode cX7_holds 22 = .ok (.istore_n 1, 1) := by decide +kernel
theorem dX7_holds_23 : decode cX7_holds 23 = .ok (.iload_n 1, 1) := by decide +kernel
theorem dX7_holds_24 : decode cX7_holds 24 = .ok (.bipush 21, 2) := by decide +kernel
theorem dX7_holds_26 : decode cX7_holds 26 = .ok (.if_icmp .ge 43, 3) := by decide +kernel
theorem dX7_holds_29 : decode cX7_holds 29 = .ok (.aload_n 0, 1) := by decide +kernel
theorem dX7_holds_30 : decode cX7_holds 30 = .ok (.getfield 31, 3) := by decide +kernel
theorem dX7_holds_33 : decode cX7_holds 33 = .ok (.iload_n 1, 1) := by decide +kernel
theorem dX7_holds_34 : decode cX7_holds 34 = .ok (.aload_n 0, 1) := by decide +kernel
theorem dX7_holds_35 : decode cX7_holds 35 = .ok (.getfield 19, 3) := by decide +kernel
theorem dX7_holds_38 : decode cX7_holds 38 = .ok (.iload_n 1, 1) := by decide +kernel
theorem dX7_holds_39 : decode cX7_holds 39 = .ok (.iaload, 1) := by decide +kernel
theorem dX7_holds_40 : decode cX7_holds 40 = .ok (.iastore, 1) := by decide +kernel
theorem dX7_holds_41 : decode cX7_holds 41 = .ok (.aload_n 0, 1) := by decide +kernel
theorem dX7_holds_42 : decode cX7_holds 42 = .ok (.getfield 19, 3) := by decide +kernel
theorem dX7_holds_45 : decode cX7_holds 45 = .ok (.iload_n 1, 1) := by decide +kernel
theorem dX7_holds_46 : decode cX7_holds 46 = .ok (.iload_n 1, 1) := by decide +kernel
theorem dX7_holds_47 : decode cX7_holds 47 = .ok (.bipush 7, 2) := by decide +kernel
theorem dX7_holds_49 : decode cX7_holds 49 = .ok (.bipush 13, 2) := by decide +kernel
theorem dX7_holds_51 : decode cX7_holds 51 = .ok (.invokestatic 56, 3) := by decide +kernel
theorem dX7_holds_54 : decode cX7_holds 54 = .ok (.ifCond .eq 7, 3) := by decide +kernel
theorem dX7_holds_57 : decode cX7_holds 57 = .ok (.iconst (-1), 1) := by decide +kernel
theorem dX7_holds_58 : decode cX7_holds 58 = .ok (.goto 4, 3) := by decide +kernel
theorem dX7_holds_61 : decode cX7_holds 61 = .ok (.iconst 0, 1) := by decide +kernel
theorem dX7_holds_62 : decode cX7_holds 62 = .ok (.iastore, 1) := by decide +kernel
theorem dX7_holds_63 : decode cX7_holds 63 = .ok (.iinc 1 1, 3) := by decide +kernel
theorem dX7_holds_66 : decode cX7_holds 66 = .ok (.goto (-43), 3) := by decide +kernel
theorem dX7_holds_69 : decode cX7_holds 69 = .ok (.return_, 1) := by decide +kernel
theorem dX7_newHour_0 : decode cX7_newHour 0 = .ok (.aload_n 0, 1) := by decide +kernel
theorem dX7_newHour_1 : decode cX7_newHour 1 = .ok (.getfield 16, 3) := by decide +kernel
theorem dX7_newHour_4 : decode cX7_newHour 4 = .ok (.iconst 1, 1) := by decide +kernel
theorem dX7_newHour_5 : decode cX7_newHour 5 = .ok (.iaload, 1) := by decide +kernel
theorem dX7_newHour_6 : decode cX7_newHour 6 = .ok (.istore 4, 2) := by decide +kernel
theorem dX7_newHour_8 : decode cX7_newHour 8 = .ok (.aload_n 0, 1) := by decide +kernel
theorem dX7_newHour_9 : decode cX7_newHour 9 = .ok (.getfield 16, 3) := by decide +kernel
theorem dX7_newHour_12 : decode cX7_newHour 12 = .ok (.iconst 2, 1) := by decide +kernel
theorem dX7_newHour_13 : decode cX7_newHour 13 = .ok (.iload 4, 2) := by decide +kernel
theorem dX7_newHour_15 : decode cX7_newHour 15 = .ok (.iadd, 1) := by decide +kernel
theorem dX7_newHour_16 : decode cX7_newHour 16 = .ok (.iload_n 1, 1) := by decide +kernel
theorem dX7_newHour_17 : decode cX7_newHour 17 = .ok (.iastore, 1) := by decide +kernel
theorem dX7_newHour_18 : decode cX7_newHour 18 = .ok (.aload_n 0, 1) := by decide +kernel
theorem dX7_newHour_19 : decode cX7_newHour 19 = .ok (.getfield 16, 3) := by decide +kernel
theorem dX7_newHour_22 : decode cX7_newHour 22 = .ok (.bipush 9, 2) := by decide +kernel
theorem dX7_newHour_24 : decode cX7_newHour 24 = .ok (.iload 4, 2) := by decide +kernel
theorem dX7_newHour_26 : decode cX7_newHour 26 = .ok (.iadd, 1) := by decide +kernel
theorem dX7_newHour_27 : decode cX7_newHour 27 = .ok (.iload_n 2, 1) := by decide +kernel
theorem dX7_newHour_28 : decode cX7_newHour 28 = .ok (.iastore, 1) := by decide +kernel
theorem dX7_newHour_29 : decode cX7_newHour 29 = .ok (.aload_n 0, 1) := by decide +kernel
theorem dX7_newHour_30 : decode cX7_newHour 30 = .ok (.getfield 16, 3) := by decide +kernel
theorem dX7_newHour_33 : decode cX7_newHour 33 = .ok (.iconst 1, 1) := by decide +kernel
theorem dX7_newHour_34 : decode cX7_newHour 34 = .ok (.dup2, 1) := by decide +kernel
theorem dX7_newHour_35 : decode cX7_newHour 35 = .ok (.iaload, 1) := by decide +kernel
theorem dX7_newHour_36 : decode cX7_newHour 36 = .ok (.iconst 1, 1) := by decide +kernel
theorem dX7_newHour_37 : decode cX7_newHour 37 = .ok (.iadd, 1) := by decide +kernel
theorem dX7_newHour_38 : decode cX7_newHour 38 = .ok (.iastore, 1) := by decide +kernel
theorem dX7_newHour_39 : decode cX7_newHour 39 = .ok (.aload_n 0, 1) := by decide +kernel
theorem dX7_newHour_40 : decode cX7_newHour 40 = .ok (.iload 4, 2) := by decide +kernel
theorem dX7_newHour_42 : decode cX7_newHour 42 = .ok (.iload_n 3, 1) := by decide +kernel
theorem dX7_newHour_43 : decode cX7_newHour 43 = .ok (.invokevirtual 95, 3) := by decide +kernel
theorem dX7_newHour_46 : decode cX7_newHour 46 = .ok (.return_, 1) := by decide +kernel
theorem dX7_readsHour_0 : decode cX7_readsHour 0 = .ok (.aload_n 0, 1) := by decide +kernel
theorem dX7_readsHour_1 : decode cX7_readsHour 1 = .ok (.iconst 0, 1) := by decide +kernel
theorem dX7_readsHour_2 : decode cX7_readsHour 2 = .ok (.iconst 3, 1) := by decide +kernel
theorem dX7_readsHour_3 : decode cX7_readsHour 3 = .ok (.bipush 44, 2) := by decide +kernel
theorem dX7_readsHour_5 : decode cX7_readsHour 5 = .ok (.invokevirtual 99, 3) := by decide +kernel
theorem dX7_readsHour_8 : decode cX7_readsHour 8 = .ok (.istore_n 2, 1) := by decide +kernel
theorem dX7_readsHour_9 : decode cX7_readsHour 9 = .ok (.iload_n 2, 1) := by decide +kernel
theorem dX7_readsHour_10 : decode cX7_readsHour 10 = .ok (.ifCond .ge 7, 3) := by decide +kernel
theorem dX7_readsHour_13 : decode cX7_readsHour 13 = .ok (.iconst (-1), 1) := by decide +kernel
theorem dX7_readsHour_14 : decode cX7_readsHour 14 = .ok (.goto 21, 3) := by decide +kernel
theorem dX7_readsHour_17 : decode cX7_readsHour 17 = .ok (.aload_n 0, 1) := by decide +kernel
theorem dX7_readsHour_18 : decode cX7_readsHour 18 = .ok (.iconst 1, 1) := by decide +kernel
theorem dX7_readsHour_19 : decode cX7_readsHour 19 = .ok (.bipush 20, 2) := by decide +kernel
theorem dX7_readsHour_21 : decode cX7_readsHour 21 = .ok (.iload_n 1, 1) := by decide +kernel
theorem dX7_readsHour_22 : decode cX7_readsHour 22 = .ok (.ifCond .eq 8, 3) := by decide +kernel
theorem dX7_readsHour_25 : decode cX7_readsHour 25 = .ok (.bipush 44, 2) := by decide +kernel
theorem dX7_readsHour_27 : decode cX7_readsHour 27 = .ok (.goto 5, 3) := by decide +kernel
theorem dX7_readsHour_30 : decode cX7_readsHour 30 = .ok (.bipush 59, 2) := by decide +kernel
theorem dX7_readsHour_32 : decode cX7_readsHour 32 = .ok (.invokevirtual 99, 3) := by decide +kernel
theorem dX7_readsHour_35 : decode cX7_readsHour 35 = .ok (.istore_n 3, 1) := by decide +kernel
theorem dX7_readsHour_36 : decode cX7_readsHour 36 = .ok (.iload_n 3, 1) := by decide +kernel
theorem dX7_readsHour_37 : decode cX7_readsHour 37 = .ok (.ifCond .lt 7, 3) := by decide +kernel
theorem dX7_readsHour_40 : decode cX7_readsHour 40 = .ok (.iload_n 1, 1) := by decide +kernel
theorem dX7_readsHour_41 : decode cX7_readsHour 41 = .ok (.ifCond .ne 7, 3) := by decide +kernel
theorem dX7_readsHour_44 : decode cX7_readsHour 44 = .ok (.iconst (-1), 1) := by decide +kernel
theorem dX7_readsHour_45 : decode cX7_readsHour 45 = .ok (.goto 18, 3) := by decide +kernel
theorem dX7_readsHour_48 : decode cX7_readsHour 48 = .ok (.aload_n 0, 1) := by decide +kernel
theorem dX7_readsHour_49 : decode cX7_readsHour 49 = .ok (.iconst 0, 1) := by decide +kernel
theorem dX7_readsHour_50 : decode cX7_readsHour 50 = .ok (.aload_n 0, 1) := by decide +kernel
theorem dX7_readsHour_51 : decode cX7_readsHour 51 = .ok (.getfield 16, 3) := by decide +kernel
theorem dX7_readsHour_54 : decode cX7_readsHour 54 = .ok (.iconst 0, 1) := by decide +kernel
theorem dX7_readsHour_55 : decode cX7_readsHour 55 = .ok (.iaload, 1) := by decide +kernel
theorem dX7_readsHour_56 : decode cX7_readsHour 56 = .ok (.iconst 1, 1) := by decide +kernel
theorem dX7_readsHour_57 : decode cX7_readsHour 57 = .ok (.isub, 1) := by decide +kernel
theorem dX7_readsHour_58 : decode cX7_readsHour 58 = .ok (.bipush 59, 2) := by decide +kernel
theorem dX7_readsHour_60 : decode cX7_readsHour 60 = .ok (.invokevirtual 99, 3) := by decide +kernel
theorem dX7_readsHour_63 : decode cX7_readsHour 63 = .ok (.istore 4, 2) := by decide +kernel
theorem dX7_readsHour_65 : decode cX7_readsHour 65 = .ok (.iload_n 3, 1) := by decide +kernel
theorem dX7_readsHour_66 : decode cX7_readsHour 66 = .ok (.ifCond .lt 38, 3) := by decide +kernel
theorem dX7_readsHour_69 : decode cX7_readsHour 69 = .ok (.iload_n 1, 1) := by decide +kernel
theorem dX7_readsHour_70 : decode cX7_readsHour 70 = .ok (.ifCond .eq 8, 3) := by decide +kernel
theorem dX7_readsHour_73 : decode cX7_readsHour 73 = .ok (.iload 4, 2) := by decide +kernel
theorem dX7_readsHour_75 : decode cX7_readsHour 75 = .ok (.ifCond .lt 29, 3) := by decide +kernel
theorem dX7_readsHour_78 : decode cX7_readsHour 78 = .ok (.aload_n 0, 1) := by decide +kernel
theorem dX7_readsHour_79 : decode cX7_readsHour 79 = .ok (.getfield 16, 3) := by decide +kernel
theorem dX7_readsHour_82 : decode cX7_readsHour 82 = .ok (.iconst 1, 1) := by decide +kernel
theorem dX7_readsHour_83 : decode cX7_readsHour 83 = .ok (.iaload, 1) := by decide +kernel
theorem dX7_readsHour_84 : decode cX7_readsHour 84 = .ok (.bipush 7, 2) := by decide +kernel
theorem dX7_readsHour_86 : decode cX7_readsHour 86 = .ok (.if_icmp .eq 18, 3) := by decide +kernel
theorem dX7_readsHour_89 : decode cX7_readsHour 89 = .ok (.iload_n 1, 1) := by decide +kernel
theorem dX7_readsHour_90 : decode cX7_readsHour 90 = .ok (.ifCond .eq 16, 3) := by decide +kernel
theorem dX7_readsHour_93 : decode cX7_readsHour 93 = .ok (.aload_n 0, 1) := by decide +kernel
theorem dX7_readsHour_94 : decode cX7_readsHour 94 = .ok (.iload_n 2, 1) := by decide +kernel
theorem dX7_readsHour_95 : decode cX7_readsHour 95 = .ok (.iload 4, 2) := by decide +kernel
theorem dX7_readsHour_97 : decode cX7_readsHour 97 = .ok (.iconst 1, 1) := by decide +kernel
theorem dX7_readsHour_98 : decode cX7_readsHour 98 = .ok (.invokevirtual 103, 3) := by decide +kernel
theorem dX7_readsHour_101 : decode cX7_readsHour 101 = .ok (.ifCond .ne 5, 3) := by decide +kernel
theorem dX7_readsHour_104 : decode cX7_readsHour 104 = .ok (.iconst 0, 1) := by decide +kernel
theorem dX7_readsHour_105 : decode cX7_readsHour 105 = .ok (.ireturn, 1) := by decide +kernel
theorem dX7_readsHour_106 : decode cX7_readsHour 106 = .ok (.aload_n 0, 1) := by decide +kernel
theorem dX7_readsHour_107 : decode cX7_readsHour 107 = .ok (.iload_n 2, 1) := by decide +kernel
theorem dX7_readsHour_108 : decode cX7_readsHour 108 = .ok (.iload_n 3, 1) := by decide +kernel
theorem dX7_readsHour_109 : decode cX7_readsHour 109 = .ok (.iload_n 1, 1) := by decide +kernel
theorem dX7_readsHour_110 : decode cX7_readsHour 110 = .ok (.ifCond .eq 8, 3) := by decide +kernel
theorem dX7_readsHour_113 : decode cX7_readsHour 113 = .ok (.iload 4, 2) := by decide +kernel
theorem dX7_readsHour_115 : decode cX7_readsHour 115 = .ok (.goto 4, 3) := by decide +kernel
theorem dX7_readsHour_118 : decode cX7_readsHour 118 = .ok (.iconst (-1), 1) := by decide +kernel
theorem dX7_readsHour_119 : decode cX7_readsHour 119 = .ok (.invokevirtual 52, 3) := by decide +kernel
theorem dX7_readsHour_122 : decode cX7_readsHour 122 = .ok (.iconst 1, 1) := by decide +kernel
theorem dX7_readsHour_123 : decode cX7_readsHour 123 = .ok (.ireturn, 1) := by decide +kernel
theorem dX7_readsItem_0 : decode cX7_readsItem 0 = .ok (.iload_n 1, 1) := by decide +kernel
theorem dX7_readsItem_1 : decode cX7_readsItem 1 = .ok (.lookupswitch 141 #[(102, 107), (103, 43), (104, 95), (119, 101)], 43) := by decide +kernel
theorem dX7_readsItem_44 : decode cX7_readsItem 44 = .ok (.aload_n 0, 1) := by decide +kernel
theorem dX7_readsItem_45 : decode cX7_readsItem 45 = .ok (.iconst 1, 1) := by decide +kernel
theorem dX7_readsItem_46 : decode cX7_readsItem 46 = .ok (.bipush 9, 2) := by decide +kernel
theorem dX7_readsItem_48 : decode cX7_readsItem 48 = .ok (.bipush 59, 2) := by decide +kernel
theorem dX7_readsItem_50 : decode cX7_readsItem 50 = .ok (.invokevirtual 99, 3) := by decide +kernel
theorem dX7_readsItem_53 : decode cX7_readsItem 53 = .ok (.istore_n 2, 1) := by decide +kernel
theorem dX7_readsItem_54 : decode cX7_readsItem 54 = .ok (.iload_n 2, 1) := by decide +kernel
theorem dX7_readsItem_55 : decode cX7_readsItem 55 = .ok (.ifCond .lt 13, 3) := by decide +kernel
theorem dX7_readsItem_58 : decode cX7_readsItem 58 = .ok (.aload_n 0, 1) := by decide +kernel
theorem dX7_readsItem_59 : decode cX7_readsItem 59 = .ok (.getfield 16, 3) := by decide +kernel
theorem dX7_readsItem_62 : decode cX7_readsItem 62 = .ok (.iconst 0, 1) := by decide +kernel
theorem dX7_readsItem_63 : decode cX7_readsItem 63 = .ok (.iaload, 1) := by decide +kernel
theorem dX7_readsItem_64 : decode cX7_readsItem 64 = .ok (.iconst 5, 1) := by decide +kernel
theorem dX7_readsItem_65 : decode cX7_readsItem 65 = .ok (.if_icmp .ne 5, 3) := by decide +kernel
theorem dX7_readsItem_68 : decode cX7_readsItem 68 = .ok (.iconst 0, 1) := by decide +kernel
theorem dX7_readsItem_69 : decode cX7_readsItem 69 = .ok (.ireturn, 1) := by decide +kernel
theorem dX7_readsItem_70 : decode cX7_readsItem 70 = .ok (.aload_n 0, 1) := by decide +kernel
theorem dX7_readsItem_71 : decode cX7_readsItem 71 = .ok (.getfield 19, 3) := by decide +kernel
theorem dX7_readsItem_74 : decode cX7_readsItem 74 = .ok (.iconst 2, 1) := by decide +kernel
theorem dX7_readsItem_75 : decode cX7_readsItem 75 = .ok (.aload_n 0, 1) := by decide +kernel
theorem dX7_readsItem_76 : decode cX7_readsItem 76 = .ok (.getfield 16, 3) := by decide +kernel
theorem dX7_readsItem_79 : decode cX7_readsItem 79 = .ok (.iconst 0, 1) := by decide +kernel
theorem dX7_readsItem_80 : decode cX7_readsItem 80 = .ok (.iaload, 1) := by decide +kernel
theorem dX7_readsItem_81 : decode cX7_readsItem 81 = .ok (.iadd, 1) := by decide +kernel
theorem dX7_readsItem_82 : decode cX7_readsItem 82 = .ok (.iload_n 2, 1) := by decide +kernel
theorem dX7_readsItem_83 : decode cX7_readsItem 83 = .ok (.iastore, 1) := by decide +kernel
theorem dX7_readsItem_84 : decode cX7_readsItem 84 = .ok (.aload_n 0, 1) := by decide +kernel
theorem dX7_readsItem_85 : decode cX7_readsItem 85 = .ok (.getfield 16, 3) := by decide +kernel
theorem dX7_readsItem_88 : decode cX7_readsItem 88 = .ok (.iconst 0, 1) := by decide +kernel
theorem dX7_readsItem_89 : decode cX7_readsItem 89 = .ok (.dup2, 1) := by decide +kernel
theorem dX7_readsItem_90 : decode cX7_readsItem 90 = .ok (.iaload, 1) := by decide +kernel
theorem dX7_readsItem_91 : decode cX7_readsItem 91 = .ok (.iconst 1, 1) := by decide +kernel
theorem dX7_readsItem_92 : decode cX7_readsItem 92 = .ok (.iadd, 1) := by decide +kernel
theorem dX7_readsItem_93 : decode cX7_readsItem 93 = .ok (.iastore, 1) := by decide +kernel
theorem dX7_readsItem_94 : decode cX7_readsItem 94 = .ok (.iconst 1, 1) := by decide +kernel
theorem dX7_readsItem_95 : decode cX7_readsItem 95 = .ok (.ireturn, 1) := by decide +kernel
theorem dX7_readsItem_96 : decode cX7_readsItem 96 = .ok (.aload_n 0, 1) := by decide +kernel
theorem dX7_readsItem_97 : decode cX7_readsItem 97 = .ok (.iconst 1, 1) := by decide +kernel
theorem dX7_readsItem_98 : decode cX7_readsItem 98 = .ok (.invokevirtual 107, 3) := by decide +kernel
theorem dX7_readsItem_101 : decode cX7_readsItem 101 = .ok (.ireturn, 1) := by decide +kernel
theorem dX7_readsItem_102 : decode cX7_readsItem 102 = .ok (.aload_n 0, 1) := by decide +kernel
theorem dX7_readsItem_103 : decode cX7_readsItem 103 = .ok (.iconst 0, 1) := by decide +kernel
theorem dX7_readsItem_104 : decode cX7_readsItem 104 = .ok (.invokevirtual 107, 3) := by decide +kernel
theorem dX7_readsItem_107 : decode cX7_readsItem 107 = .ok (.ireturn, 1) := by decide +kernel
theorem dX7_readsItem_108 : decode cX7_readsItem 108 = .ok (.aload_n 0, 1) := by decide +kernel
theorem dX7_readsItem_109 : decode cX7_readsItem 109 = .ok (.iconst 0, 1) := by decide +kernel
theorem dX7_readsItem_110 : decode cX7_readsItem 110 = .ok (.bipush 39, 2) := by decide +kernel
theorem dX7_readsItem_112 : decode cX7_readsItem 112 = .ok (.bipush 59, 2) := by decide +kernel
theorem dX7_readsItem_114 : decode cX7_readsItem 114 = .ok (.invokevirtual 99, 3) := by decide +kernel
theorem dX7_readsItem_117 : decode cX7_readsItem 117 = .ok (.istore_n 2, 1) := by decide +kernel
theorem dX7_readsItem_118 : decode cX7_readsItem 118 = .ok (.iload_n 2, 1) := by decide +kernel
theorem dX7_readsItem_119 : decode cX7_readsItem 119 = .ok (.ifCond .lt 13, 3) := by decide +kernel
theorem dX7_readsItem_122 : decode cX7_readsItem 122 = .ok (.aload_n 0, 1) := by decide +kernel
theorem dX7_readsItem_123 : decode cX7_readsItem 123 = .ok (.getfield 16, 3) := by decide +kernel
theorem dX7_readsItem_126 : decode cX7_readsItem 126 = .ok (.bipush 16, 2) := by decide +kernel
theorem dX7_readsItem_128 : decode cX7_readsItem 128 = .ok (.iload_n 2, 1) := by decide +kernel
theorem dX7_readsItem_129 : decode cX7_readsItem 129 = .ok (.iadd, 1) := by decide +kernel
theorem dX7_readsItem_130 : decode cX7_readsItem 130 = .ok (.iconst 1, 1) := by decide +kernel
theorem dX7_readsItem_131 : decode cX7_readsItem 131 = .ok (.iastore, 1) := by decide +kernel
theorem dX7_readsItem_132 : decode cX7_readsItem 132 = .ok (.iload_n 2, 1) := by decide +kernel
theorem dX7_readsItem_133 : decode cX7_readsItem 133 = .ok (.ifCond .lt 7, 3) := by decide +kernel
theorem dX7_readsItem_136 : decode cX7_readsItem 136 = .ok (.iconst 1, 1) := by decide +kernel
theorem dX7_readsItem_137 : decode cX7_readsItem 137 = .ok (.goto 4, 3) := by decide +kernel
theorem dX7_readsItem_140 : decode cX7_readsItem 140 = .ok (.iconst 0, 1) := by decide +kernel
theorem dX7_readsItem_141 : decode cX7_readsItem 141 = .ok (.ireturn, 1) := by decide +kernel
theorem dX7_readsItem_142 : decode cX7_readsItem 142 = .ok (.iconst 0, 1) := by decide +kernel
theorem dX7_readsItem_143 : decode cX7_readsItem 143 = .ok (.ireturn, 1) := by decide +kernel
theorem dX7_readsAll_0 : decode cX7_readsAll 0 = .ok (.aload_n 0, 1) := by decide +kernel
theorem dX7_readsAll_1 : decode cX7_readsAll 1 = .ok (.invokevirtual 49, 3) := by decide +kernel
theorem dX7_readsAll_4 : decode cX7_readsAll 4 = .ok (.aload_n 0, 1) := by decide +kernel
theorem dX7_readsAll_5 : decode cX7_readsAll 5 = .ok (.iconst 0, 1) := by decide +kernel
theorem dX7_readsAll_6 : decode cX7_readsAll 6 = .ok (.putfield 85, 3) := by decide +kernel
theorem dX7_readsAll_9 : decode cX7_readsAll 9 = .ok (.aload_n 0, 1) := by decide +kernel
theorem dX7_readsAll_10 : decode cX7_readsAll 10 = .ok (.getfield 85, 3) := by decide +kernel
theorem dX7_readsAll_13 : decode cX7_readsAll 13 = .ok (.aload_n 0, 1) := by decide +kernel
theorem dX7_readsAll_14 : decode cX7_readsAll 14 = .ok (.getfield 81, 3) := by decide +kernel
theorem dX7_readsAll_17 : decode cX7_readsAll 17 = .ok (.if_icmp .ge 36, 3) := by decide +kernel
theorem dX7_readsAll_20 : decode cX7_readsAll 20 = .ok (.aload_n 0, 1) := by decide +kernel
theorem dX7_readsAll_21 : decode cX7_readsAll 21 = .ok (.getfield 85, 3) := by decide +kernel
theorem dX7_readsAll_24 : decode cX7_readsAll 24 = .ok (.istore_n 1, 1) := by decide +kernel
theorem dX7_readsAll_25 : decode cX7_readsAll 25 = .ok (.aload_n 0, 1) := by decide +kernel
theorem dX7_readsAll_26 : decode cX7_readsAll 26 = .ok (.dup, 1) := by decide +kernel
theorem dX7_readsAll_27 : decode cX7_readsAll 27 = .ok (.getfield 85, 3) := by decide +kernel
theorem dX7_readsAll_30 : decode cX7_readsAll 30 = .ok (.iconst 1, 1) := by decide +kernel
theorem dX7_readsAll_31 : decode cX7_readsAll 31 = .ok (.iadd, 1) := by decide +kernel
theorem dX7_readsAll_32 : decode cX7_readsAll 32 = .ok (.putfield 85, 3) := by decide +kernel
theorem dX7_readsAll_35 : decode cX7_readsAll 35 = .ok (.aload_n 0, 1) := by decide +kernel
theorem dX7_readsAll_36 : decode cX7_readsAll 36 = .ok (.aload_n 0, 1) := by decide +kernel
theorem dX7_readsAll_37 : decode cX7_readsAll 37 = .ok (.getfield 7, 3) := by decide +kernel
theorem dX7_readsAll_40 : decode cX7_readsAll 40 = .ok (.iload_n 1, 1) := by decide +kernel
theorem dX7_readsAll_41 : decode cX7_readsAll 41 = .ok (.iaload, 1) := by decide +kernel
theorem dX7_readsAll_42 : decode cX7_readsAll 42 = .ok (.invokevirtual 111, 3) := by decide +kernel
theorem dX7_readsAll_45 : decode cX7_readsAll 45 = .ok (.ifCond .ne 5, 3) := by decide +kernel
theorem dX7_readsAll_48 : decode cX7_readsAll 48 = .ok (.iload_n 1, 1) := by decide +kernel
theorem dX7_readsAll_49 : decode cX7_readsAll 49 = .ok (.ireturn, 1) := by decide +kernel
theorem dX7_readsAll_50 : decode cX7_readsAll 50 = .ok (.goto (-41), 3) := by decide +kernel
theorem dX7_readsAll_53 : decode cX7_readsAll 53 = .ok (.bipush (-4), 2) := by decide +kernel
theorem dX7_readsAll_55 : decode cX7_readsAll 55 = .ok (.ireturn, 1) := by decide +kernel
theorem dX7_fault_0 : decode cX7_fault 0 = .ok (.aload_n 0, 1) := by decide +kernel
theorem dX7_fault_1 : decode cX7_fault 1 = .ok (.invokevirtual 114, 3) := by decide +kernel
theorem dX7_fault_4 : decode cX7_fault 4 = .ok (.istore_n 1, 1) := by decide +kernel
theorem dX7_fault_5 : decode cX7_fault 5 = .ok (.aload_n 0, 1) := by decide +kernel
theorem dX7_fault_6 : decode cX7_fault 6 = .ok (.invokevirtual 118, 3) := by decide +kernel
theorem dX7_fault_9 : decode cX7_fault 9 = .ok (.iload_n 1, 1) := by decide +kernel
theorem dX7_fault_10 : decode cX7_fault 10 = .ok (.ireturn, 1) := by decide +kernel
theorem dX7_lay_0 : decode cX7_lay 0 = .ok (.aload_n 0, 1) := by decide +kernel
theorem dX7_lay_1 : decode cX7_lay 1 = .ok (.invokevirtual 114, 3) := by decide +kernel
theorem dX7_lay_4 : decode cX7_lay 4 = .ok (.bipush (-4), 2) := by decide +kernel
theorem dX7_lay_6 : decode cX7_lay 6 = .ok (.if_icmp .ne 21, 3) := by decide +kernel
theorem dX7_lay_9 : decode cX7_lay 9 = .ok (.aload_n 0, 1) := by decide +kernel
theorem dX7_lay_10 : decode cX7_lay 10 = .ok (.getfield 16, 3) := by decide +kernel
theorem dX7_lay_13 : decode cX7_lay 13 = .ok (.iconst 0, 1) := by decide +kernel
theorem dX7_lay_14 : decode cX7_lay 14 = .ok (.iaload, 1) := by decide +kernel
theorem dX7_lay_15 : decode cX7_lay 15 = .ok (.ifCond .eq 12, 3) := by decide +kernel
theorem dX7_lay_18 : decode cX7_lay 18 = .ok (.aload_n 0, 1) := by decide +kernel
theorem dX7_lay_19 : decode cX7_lay 19 = .ok (.getfield 16, 3) := by decide +kernel
theorem dX7_lay_22 : decode cX7_lay 22 = .ok (.iconst 1, 1) := by decide +kernel
theorem dX7_lay_23 : decode cX7_lay 23 = .ok (.iaload, 1) := by decide +kernel
theorem dX7_lay_24 : decode cX7_lay 24 = .ok (.ifCond .ne 10, 3) := by decide +kernel
theorem dX7_lay_27 : decode cX7_lay 27 = .ok (.aload_n 0, 1) := by decide +kernel
theorem dX7_lay_28 : decode cX7_lay 28 = .ok (.invokevirtual 118, 3) := by decide +kernel
theorem dX7_lay_31 : decode cX7_lay 31 = .ok (.bipush (-2), 2) := by decide +kernel
theorem dX7_lay_33 : decode cX7_lay 33 = .ok (.ireturn, 1) := by decide +kernel
theorem dX7_lay_34 : decode cX7_lay 34 = .ok (.iconst 0, 1) := by decide +kernel
theorem dX7_lay_35 : decode cX7_lay 35 = .ok (.istore_n 1, 1) := by decide +kernel
theorem dX7_lay_36 : decode cX7_lay 36 = .ok (.iload_n 1, 1) := by decide +kernel
theorem dX7_lay_37 : decode cX7_lay 37 = .ok (.bipush 56, 2) := by decide +kernel
theorem dX7_lay_39 : decode cX7_lay 39 = .ok (.if_icmp .ge 21, 3) := by decide +kernel
theorem dX7_lay_42 : decode cX7_lay 42 = .ok (.aload_n 0, 1) := by decide +kernel
theorem dX7_lay_43 : decode cX7_lay 43 = .ok (.getfield 13, 3) := by decide +kernel
theorem dX7_lay_46 : decode cX7_lay 46 = .ok (.iload_n 1, 1) := by decide +kernel
theorem dX7_lay_47 : decode cX7_lay 47 = .ok (.aload_n 0, 1) := by decide +kernel
theorem dX7_lay_48 : decode cX7_lay 48 = .ok (.getfield 16, 3) := by decide +kernel
theorem dX7_lay_51 : decode cX7_lay 51 = .ok (.iload_n 1, 1) := by decide +kernel
theorem dX7_lay_52 : decode cX7_lay 52 = .ok (.iaload, 1) := by decide +kernel
theorem dX7_lay_53 : decode cX7_lay 53 = .ok (.iastore, 1) := by decide +kernel
theorem dX7_lay_54 : decode cX7_lay 54 = .ok (.iinc 1 1, 3) := by decide +kernel
theorem dX7_lay_57 : decode cX7_lay 57 = .ok (.goto (-21), 3) := by decide +kernel
theorem dX7_lay_60 : decode cX7_lay 60 = .ok (.aload_n 0, 1) := by decide +kernel
theorem dX7_lay_61 : decode cX7_lay 61 = .ok (.iconst 0, 1) := by decide +kernel
theorem dX7_lay_62 : decode cX7_lay 62 = .ok (.putfield 121, 3) := by decide +kernel
theorem dX7_lay_65 : decode cX7_lay 65 = .ok (.aload_n 0, 1) := by decide +kernel
theorem dX7_lay_66 : decode cX7_lay 66 = .ok (.iconst 0, 1) := by decide +kernel
theorem dX7_lay_67 : decode cX7_lay 67 = .ok (.putfield 124, 3) := by decide +kernel
theorem dX7_lay_70 : decode cX7_lay 70 = .ok (.aload_n 0, 1) := by decide +kernel
theorem dX7_lay_71 : decode cX7_lay 71 = .ok (.iconst 0, 1) := by decide +kernel
theorem dX7_lay_72 : decode cX7_lay 72 = .ok (.putfield 127, 3) := by decide +kernel
theorem dX7_lay_75 : decode cX7_lay 75 = .ok (.aload_n 0, 1) := by decide +kernel
theorem dX7_lay_76 : decode cX7_lay 76 = .ok (.getfield 13, 3) := by decide +kernel
theorem dX7_lay_79 : decode cX7_lay 79 = .ok (.iconst 1, 1) := by decide +kernel
theorem dX7_lay_80 : decode cX7_lay 80 = .ok (.iaload, 1) := by decide +kernel
theorem dX7_lay_81 : decode cX7_lay 81 = .ok (.ireturn, 1) := by decide +kernel
theorem dX7_plot_0 : decode cX7_plot 0 = .ok (.aload_n 0, 1) := by decide +kernel
theorem dX7_plot_1 : decode cX7_plot 1 = .ok (.iload_n 1, 1) := by decide +kernel
theorem dX7_plot_2 : decode cX7_plot 2 = .ok (.invokevirtual 130, 3) := by decide +kernel
theorem dX7_plot_5 : decode cX7_plot 5 = .ok (.ifCond .ne 5, 3) := by decide +kernel
theorem dX7_plot_8 : decode cX7_plot 8 = .ok (.iconst (-1), 1) := by decide +kernel
theorem dX7_plot_9 : decode cX7_plot 9 = .ok (.ireturn, 1) := by decide +kernel
theorem dX7_plot_10 : decode cX7_plot 10 = .ok (.iload_n 2, 1) := by decide +kernel
theorem dX7_plot_11 : decode cX7_plot 11 = .ok (.tableswitch 66 0 3 #[29, 38, 54, 60], 29) := by decide +kernel
theorem dX7_plot_40 : decode cX7_plot 40 = .ok (.aload_n 0, 1) := by decide +kernel
theorem dX7_plot_41 : decode cX7_plot 41 = .ok (.getfield 19, 3) := by decide +kernel
theorem dX7_plot_44 : decode cX7_plot 44 = .ok (.iconst 2, 1) := by decide +kernel
theorem dX7_plot_45 : decode cX7_plot 45 = .ok (.iload_n 1, 1) := by decide +kernel
theorem dX7_plot_46 : decode cX7_plot 46 = .ok (.iadd, 1) := by decide +kernel
theorem dX7_plot_47 : decode cX7_plot 47 = .ok (.iaload, 1) := by decide +kernel
theorem dX7_plot_48 : decode cX7_plot 48 = .ok (.ireturn, 1) := by decide +kernel
theorem dX7_plot_49 : decode cX7_plot 49 = .ok (.aload_n 0, 1) := by decide +kernel
theorem dX7_plot_50 : decode cX7_plot 50 = .ok (.getfield 19, 3) := by decide +kernel
theorem dX7_plot_53 : decode cX7_plot 53 = .ok (.iconst 2, 1) := by decide +kernel
theorem dX7_plot_54 : decode cX7_plot 54 = .ok (.iload_n 1, 1) := by decide +kernel
theorem dX7_plot_55 : decode cX7_plot 55 = .ok (.iadd, 1) := by decide +kernel
theorem dX7_plot_56 : decode cX7_plot 56 = .ok (.iaload, 1) := by decide +kernel
theorem dX7_plot_57 : decode cX7_plot 57 = .ok (.aload_n 0, 1) := by decide +kernel
theorem dX7_plot_58 : decode cX7_plot 58 = .ok (.iload_n 1, 1) := by decide +kernel
theorem dX7_plot_59 : decode cX7_plot 59 = .ok (.iconst 0, 1) := by decide +kernel
theorem dX7_plot_60 : decode cX7_plot 60 = .ok (.invokevirtual 78, 3) := by decide +kernel
theorem dX7_plot_63 : decode cX7_plot 63 = .ok (.isub, 1) := by decide +kernel
theorem dX7_plot_64 : decode cX7_plot 64 = .ok (.ireturn, 1) := by decide +kernel
theorem dX7_plot_65 : decode cX7_plot 65 = .ok (.aload_n 0, 1) := by decide +kernel
theorem dX7_plot_66 : decode cX7_plot 66 = .ok (.iload_n 1, 1) := by decide +kernel
theorem dX7_plot_67 : decode cX7_plot 67 = .ok (.invokevirtual 60, 3) := by decide +kernel
theorem dX7_plot_70 : decode cX7_plot 70 = .ok (.ireturn, 1) := by decide +kernel
theorem dX7_plot_71 : decode cX7_plot 71 = .ok (.aload_n 0, 1) := by decide +kernel
theorem dX7_plot_72 : decode cX7_plot 72 = .ok (.iload_n 1, 1) := by decide +kernel
theorem dX7_plot_73 : decode cX7_plot 73 = .ok (.invokevirtual 75, 3) := by decide +kernel
theorem dX7_plot_76 : decode cX7_plot 76 = .ok (.ireturn, 1) := by decide +kernel
theorem dX7_plot_77 : decode cX7_plot 77 = .ok (.iconst (-1), 1) := by decide +kernel
theorem dX7_plot_78 : decode cX7_plot 78 = .ok (.ireturn, 1) := by decide +kernel
theorem dX7_hour_0 : decode cX7_hour 0 = .ok (.aload_n 0, 1) := by decide +kernel
theorem dX7_hour_1 : decode cX7_hour 1 = .ok (.iload_n 1, 1) := by decide +kernel
theorem dX7_hour_2 : decode cX7_hour 2 = .ok (.invokevirtual 133, 3) := by decide +kernel
theorem dX7_hour_5 : decode cX7_hour 5 = .ok (.ifCond .eq 12, 3) := by decide +kernel
theorem dX7_hour_8 : decode cX7_hour 8 = .ok (.iload_n 2, 1) := by decide +kernel
theorem dX7_hour_9 : decode cX7_hour 9 = .ok (.iconst 0, 1) := by decide +kernel
theorem dX7_hour_10 : decode cX7_hour 10 = .ok (.iconst 4, 1) := by decide +kernel
theorem dX7_hour_11 : decode cX7_hour 11 = .ok (.invokestatic 56, 3) := by decide +kernel
theorem dX7_hour_14 : decode cX7_hour 14 = .ok (.ifCond .ne 5, 3) := by decide +kernel
theorem dX7_hour_17 : decode cX7_hour 17 = .ok (.iconst (-1), 1) := by decide +kernel
theorem dX7_hour_18 : decode cX7_hour 18 = .ok (.ireturn, 1) := by decide +kernel
theorem dX7_hour_19 : decode cX7_hour 19 = .ok (.aload_n 0, 1) := by decide +kernel
theorem dX7_hour_20 : decode cX7_hour 20 = .ok (.getfield 19, 3) := by decide +kernel
theorem dX7_hour_23 : decode cX7_hour 23 = .ok (.bipush 7, 2) := by decide +kernel
theorem dX7_hour_25 : decode cX7_hour 25 = .ok (.iload_n 1, 1) := by decide +kernel
theorem dX7_hour_26 : decode cX7_hour 26 = .ok (.iadd, 1) := by decide +kernel
theorem dX7_hour_27 : decode cX7_hour 27 = .ok (.iaload, 1) := by decide +kernel
theorem dX7_hour_28 : decode cX7_hour 28 = .ok (.istore_n 3, 1) := by decide +kernel
theorem dX7_hour_29 : decode cX7_hour 29 = .ok (.iload_n 2, 1) := by decide +kernel
theorem dX7_hour_30 : decode cX7_hour 30 = .ok (.tableswitch 81 0 3 #[30, 39, 49, 61], 30) := by decide +kernel
theorem dX7_hour_60 : decode cX7_hour 60 = .ok (.aload_n 0, 1) := by decide +kernel
theorem dX7_hour_61 : decode cX7_hour 61 = .ok (.getfield 13, 3) := by decide +kernel
theorem dX7_hour_64 : decode cX7_hour 64 = .ok (.iconst 2, 1) := by decide +kernel
theorem dX7_hour_65 : decode cX7_hour 65 = .ok (.iload_n 1, 1) := by decide +kernel
theorem dX7_hour_66 : decode cX7_hour 66 = .ok (.iadd, 1) := by decide +kernel
