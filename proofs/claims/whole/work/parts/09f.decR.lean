theorem d_R_turn_30 : decode M_R_turn.2.1 30 = .ok (.invokestatic 153, 3) := by decide +kernel
theorem d_R_turn_33 : decode M_R_turn.2.1 33 = .ok (.ifCond .eq 15, 3) := by decide +kernel
theorem d_R_turn_36 : decode M_R_turn.2.1 36 = .ok (.iload 5, 2) := by decide +kernel
theorem d_R_turn_38 : decode M_R_turn.2.1 38 = .ok (.iload 4, 2) := by decide +kernel
theorem d_R_turn_40 : decode M_R_turn.2.1 40 = .ok (.bipush 26, 2) := by decide +kernel
theorem d_R_turn_42 : decode M_R_turn.2.1 42 = .ok (.invokestatic 153, 3) := by decide +kernel
theorem d_R_turn_45 : decode M_R_turn.2.1 45 = .ok (.ifCond .ne 5, 3) := by decide +kernel
theorem d_R_turn_48 : decode M_R_turn.2.1 48 = .ok (.iconst (-1), 1) := by decide +kernel
theorem d_R_turn_49 : decode M_R_turn.2.1 49 = .ok (.ireturn, 1) := by decide +kernel
theorem d_R_turn_50 : decode M_R_turn.2.1 50 = .ok (.aload_n 0, 1) := by decide +kernel
theorem d_R_turn_51 : decode M_R_turn.2.1 51 = .ok (.getfield 29, 3) := by decide +kernel
theorem d_R_turn_54 : decode M_R_turn.2.1 54 = .ok (.iload_n 1, 1) := by decide +kernel
theorem d_R_turn_55 : decode M_R_turn.2.1 55 = .ok (.iaload, 1) := by decide +kernel
theorem d_R_turn_56 : decode M_R_turn.2.1 56 = .ok (.iconst 5, 1) := by decide +kernel
theorem d_R_turn_57 : decode M_R_turn.2.1 57 = .ok (.if_icmp .ne 6, 3) := by decide +kernel
theorem d_R_turn_60 : decode M_R_turn.2.1 60 = .ok (.bipush (-2), 2) := by decide +kernel
theorem d_R_turn_62 : decode M_R_turn.2.1 62 = .ok (.ireturn, 1) := by decide +kernel
theorem d_R_turn_63 : decode M_R_turn.2.1 63 = .ok (.iconst 5, 1) := by decide +kernel
theorem d_R_turn_64 : decode M_R_turn.2.1 64 = .ok (.iload_n 1, 1) := by decide +kernel
theorem d_R_turn_65 : decode M_R_turn.2.1 65 = .ok (.imul, 1) := by decide +kernel
theorem d_R_turn_66 : decode M_R_turn.2.1 66 = .ok (.aload_n 0, 1) := by decide +kernel
theorem d_R_turn_67 : decode M_R_turn.2.1 67 = .ok (.getfield 29, 3) := by decide +kernel
theorem d_R_turn_70 : decode M_R_turn.2.1 70 = .ok (.iload_n 1, 1) := by decide +kernel
theorem d_R_turn_71 : decode M_R_turn.2.1 71 = .ok (.iaload, 1) := by decide +kernel
theorem d_R_turn_72 : decode M_R_turn.2.1 72 = .ok (.iadd, 1) := by decide +kernel
theorem d_R_turn_73 : decode M_R_turn.2.1 73 = .ok (.istore 6, 2) := by decide +kernel
theorem d_R_turn_75 : decode M_R_turn.2.1 75 = .ok (.aload_n 0, 1) := by decide +kernel
theorem d_R_turn_76 : decode M_R_turn.2.1 76 = .ok (.getfield 32, 3) := by decide +kernel
theorem d_R_turn_79 : decode M_R_turn.2.1 79 = .ok (.iload 6, 2) := by decide +kernel
theorem d_R_turn_81 : decode M_R_turn.2.1 81 = .ok (.iload_n 2, 1) := by decide +kernel
theorem d_R_turn_82 : decode M_R_turn.2.1 82 = .ok (.iastore, 1) := by decide +kernel
theorem d_R_turn_83 : decode M_R_turn.2.1 83 = .ok (.aload_n 0, 1) := by decide +kernel
theorem d_R_turn_84 : decode M_R_turn.2.1 84 = .ok (.getfield 35, 3) := by decide +kernel
theorem d_R_turn_87 : decode M_R_turn.2.1 87 = .ok (.iload 6, 2) := by decide +kernel
theorem d_R_turn_89 : decode M_R_turn.2.1 89 = .ok (.iload_n 3, 1) := by decide +kernel
theorem d_R_turn_90 : decode M_R_turn.2.1 90 = .ok (.iastore, 1) := by decide +kernel
theorem d_R_turn_91 : decode M_R_turn.2.1 91 = .ok (.aload_n 0, 1) := by decide +kernel
theorem d_R_turn_92 : decode M_R_turn.2.1 92 = .ok (.getfield 38, 3) := by decide +kernel
theorem d_R_turn_95 : decode M_R_turn.2.1 95 = .ok (.iload 6, 2) := by decide +kernel
theorem d_R_turn_97 : decode M_R_turn.2.1 97 = .ok (.iload 4, 2) := by decide +kernel
theorem d_R_turn_99 : decode M_R_turn.2.1 99 = .ok (.iastore, 1) := by decide +kernel
theorem d_R_turn_100 : decode M_R_turn.2.1 100 = .ok (.aload_n 0, 1) := by decide +kernel
theorem d_R_turn_101 : decode M_R_turn.2.1 101 = .ok (.getfield 41, 3) := by decide +kernel
theorem d_R_turn_104 : decode M_R_turn.2.1 104 = .ok (.iload 6, 2) := by decide +kernel
theorem d_R_turn_106 : decode M_R_turn.2.1 106 = .ok (.iload 5, 2) := by decide +kernel
theorem d_R_turn_108 : decode M_R_turn.2.1 108 = .ok (.iastore, 1) := by decide +kernel
theorem d_R_turn_109 : decode M_R_turn.2.1 109 = .ok (.aload_n 0, 1) := by decide +kernel
theorem d_R_turn_110 : decode M_R_turn.2.1 110 = .ok (.getfield 29, 3) := by decide +kernel
theorem d_R_turn_113 : decode M_R_turn.2.1 113 = .ok (.iload_n 1, 1) := by decide +kernel
theorem d_R_turn_114 : decode M_R_turn.2.1 114 = .ok (.dup2, 1) := by decide +kernel
theorem d_R_turn_115 : decode M_R_turn.2.1 115 = .ok (.iaload, 1) := by decide +kernel
theorem d_R_turn_116 : decode M_R_turn.2.1 116 = .ok (.iconst 1, 1) := by decide +kernel
theorem d_R_turn_117 : decode M_R_turn.2.1 117 = .ok (.iadd, 1) := by decide +kernel
theorem d_R_turn_118 : decode M_R_turn.2.1 118 = .ok (.iastore, 1) := by decide +kernel
theorem d_R_turn_119 : decode M_R_turn.2.1 119 = .ok (.aload_n 0, 1) := by decide +kernel
theorem d_R_turn_120 : decode M_R_turn.2.1 120 = .ok (.getfield 29, 3) := by decide +kernel
theorem d_R_turn_123 : decode M_R_turn.2.1 123 = .ok (.iload_n 1, 1) := by decide +kernel
theorem d_R_turn_124 : decode M_R_turn.2.1 124 = .ok (.iaload, 1) := by decide +kernel
theorem d_R_turn_125 : decode M_R_turn.2.1 125 = .ok (.ireturn, 1) := by decide +kernel
theorem d_R_unturn_0 : decode M_R_unturn.2.1 0 = .ok (.iload_n 1, 1) := by decide +kernel
theorem d_R_unturn_1 : decode M_R_unturn.2.1 1 = .ok (.invokestatic 264, 3) := by decide +kernel
theorem d_R_unturn_4 : decode M_R_unturn.2.1 4 = .ok (.ifCond .ne 5, 3) := by decide +kernel
theorem d_R_unturn_7 : decode M_R_unturn.2.1 7 = .ok (.iconst (-1), 1) := by decide +kernel
theorem d_R_unturn_8 : decode M_R_unturn.2.1 8 = .ok (.ireturn, 1) := by decide +kernel
theorem d_R_unturn_9 : decode M_R_unturn.2.1 9 = .ok (.aload_n 0, 1) := by decide +kernel
theorem d_R_unturn_10 : decode M_R_unturn.2.1 10 = .ok (.getfield 29, 3) := by decide +kernel
theorem d_R_unturn_13 : decode M_R_unturn.2.1 13 = .ok (.iload_n 1, 1) := by decide +kernel
theorem d_R_unturn_14 : decode M_R_unturn.2.1 14 = .ok (.iaload, 1) := by decide +kernel
theorem d_R_unturn_15 : decode M_R_unturn.2.1 15 = .ok (.istore_n 2, 1) := by decide +kernel
theorem d_R_unturn_16 : decode M_R_unturn.2.1 16 = .ok (.aload_n 0, 1) := by decide +kernel
theorem d_R_unturn_17 : decode M_R_unturn.2.1 17 = .ok (.getfield 29, 3) := by decide +kernel
theorem d_R_unturn_20 : decode M_R_unturn.2.1 20 = .ok (.iload_n 1, 1) := by decide +kernel
theorem d_R_unturn_21 : decode M_R_unturn.2.1 21 = .ok (.iconst 0, 1) := by decide +kernel
theorem d_R_unturn_22 : decode M_R_unturn.2.1 22 = .ok (.iastore, 1) := by decide +kernel
theorem d_R_unturn_23 : decode M_R_unturn.2.1 23 = .ok (.iload_n 2, 1) := by decide +kernel
theorem d_R_unturn_24 : decode M_R_unturn.2.1 24 = .ok (.ireturn, 1) := by decide +kernel
theorem d_R_gap_0 : decode M_R_gap.2.1 0 = .ok (.iload_n 1, 1) := by decide +kernel
theorem d_R_gap_1 : decode M_R_gap.2.1 1 = .ok (.invokestatic 264, 3) := by decide +kernel
theorem d_R_gap_4 : decode M_R_gap.2.1 4 = .ok (.ifCond .eq 23, 3) := by decide +kernel
theorem d_R_gap_7 : decode M_R_gap.2.1 7 = .ok (.iload_n 2, 1) := by decide +kernel
theorem d_R_gap_8 : decode M_R_gap.2.1 8 = .ok (.iconst 1, 1) := by decide +kernel
theorem d_R_gap_9 : decode M_R_gap.2.1 9 = .ok (.bipush 6, 2) := by decide +kernel
theorem d_R_gap_11 : decode M_R_gap.2.1 11 = .ok (.invokestatic 153, 3) := by decide +kernel
theorem d_R_gap_14 : decode M_R_gap.2.1 14 = .ok (.ifCond .eq 13, 3) := by decide +kernel
theorem d_R_gap_17 : decode M_R_gap.2.1 17 = .ok (.iload_n 3, 1) := by decide +kernel
theorem d_R_gap_18 : decode M_R_gap.2.1 18 = .ok (.iload_n 2, 1) := by decide +kernel
theorem d_R_gap_19 : decode M_R_gap.2.1 19 = .ok (.bipush 6, 2) := by decide +kernel
theorem d_R_gap_21 : decode M_R_gap.2.1 21 = .ok (.invokestatic 153, 3) := by decide +kernel
theorem d_R_gap_24 : decode M_R_gap.2.1 24 = .ok (.ifCond .ne 5, 3) := by decide +kernel
theorem d_R_gap_27 : decode M_R_gap.2.1 27 = .ok (.iconst (-1), 1) := by decide +kernel
theorem d_R_gap_28 : decode M_R_gap.2.1 28 = .ok (.ireturn, 1) := by decide +kernel
theorem d_R_gap_29 : decode M_R_gap.2.1 29 = .ok (.aload_n 0, 1) := by decide +kernel
theorem d_R_gap_30 : decode M_R_gap.2.1 30 = .ok (.getfield 44, 3) := by decide +kernel
theorem d_R_gap_33 : decode M_R_gap.2.1 33 = .ok (.iload_n 1, 1) := by decide +kernel
theorem d_R_gap_34 : decode M_R_gap.2.1 34 = .ok (.iload_n 2, 1) := by decide +kernel
theorem d_R_gap_35 : decode M_R_gap.2.1 35 = .ok (.iastore, 1) := by decide +kernel
theorem d_R_gap_36 : decode M_R_gap.2.1 36 = .ok (.aload_n 0, 1) := by decide +kernel
theorem d_R_gap_37 : decode M_R_gap.2.1 37 = .ok (.getfield 47, 3) := by decide +kernel
theorem d_R_gap_40 : decode M_R_gap.2.1 40 = .ok (.iload_n 1, 1) := by decide +kernel
theorem d_R_gap_41 : decode M_R_gap.2.1 41 = .ok (.iload_n 3, 1) := by decide +kernel
theorem d_R_gap_42 : decode M_R_gap.2.1 42 = .ok (.iastore, 1) := by decide +kernel
theorem d_R_gap_43 : decode M_R_gap.2.1 43 = .ok (.iconst 0, 1) := by decide +kernel
theorem d_R_gap_44 : decode M_R_gap.2.1 44 = .ok (.ireturn, 1) := by decide +kernel
theorem d_R_away_0 : decode M_R_away.2.1 0 = .ok (.aload_n 0, 1) := by decide +kernel
theorem d_R_away_1 : decode M_R_away.2.1 1 = .ok (.iload_n 1, 1) := by decide +kernel
theorem d_R_away_2 : decode M_R_away.2.1 2 = .ok (.invokevirtual 184, 3) := by decide +kernel
theorem d_R_away_5 : decode M_R_away.2.1 5 = .ok (.ifCond .eq 13, 3) := by decide +kernel
theorem d_R_away_8 : decode M_R_away.2.1 8 = .ok (.iload_n 2, 1) := by decide +kernel
theorem d_R_away_9 : decode M_R_away.2.1 9 = .ok (.iconst 1, 1) := by decide +kernel
theorem d_R_away_10 : decode M_R_away.2.1 10 = .ok (.bipush 26, 2) := by decide +kernel
theorem d_R_away_12 : decode M_R_away.2.1 12 = .ok (.invokestatic 153, 3) := by decide +kernel
theorem d_R_away_15 : decode M_R_away.2.1 15 = .ok (.ifCond .ne 5, 3) := by decide +kernel
theorem d_R_away_18 : decode M_R_away.2.1 18 = .ok (.iconst (-1), 1) := by decide +kernel
theorem d_R_away_19 : decode M_R_away.2.1 19 = .ok (.ireturn, 1) := by decide +kernel
theorem d_R_away_20 : decode M_R_away.2.1 20 = .ok (.aload_n 0, 1) := by decide +kernel
theorem d_R_away_21 : decode M_R_away.2.1 21 = .ok (.getfield 50, 3) := by decide +kernel
theorem d_R_away_24 : decode M_R_away.2.1 24 = .ok (.iload_n 2, 1) := by decide +kernel
theorem d_R_away_25 : decode M_R_away.2.1 25 = .ok (.dup2, 1) := by decide +kernel
theorem d_R_away_26 : decode M_R_away.2.1 26 = .ok (.iaload, 1) := by decide +kernel
theorem d_R_away_27 : decode M_R_away.2.1 27 = .ok (.iconst 1, 1) := by decide +kernel
theorem d_R_away_28 : decode M_R_away.2.1 28 = .ok (.iload_n 1, 1) := by decide +kernel
theorem d_R_away_29 : decode M_R_away.2.1 29 = .ok (.ishl, 1) := by decide +kernel
theorem d_R_away_30 : decode M_R_away.2.1 30 = .ok (.ixor, 1) := by decide +kernel
theorem d_R_away_31 : decode M_R_away.2.1 31 = .ok (.iastore, 1) := by decide +kernel
theorem d_R_away_32 : decode M_R_away.2.1 32 = .ok (.aload_n 0, 1) := by decide +kernel
theorem d_R_away_33 : decode M_R_away.2.1 33 = .ok (.getfield 50, 3) := by decide +kernel
theorem d_R_away_36 : decode M_R_away.2.1 36 = .ok (.iload_n 2, 1) := by decide +kernel
theorem d_R_away_37 : decode M_R_away.2.1 37 = .ok (.iaload, 1) := by decide +kernel
theorem d_R_away_38 : decode M_R_away.2.1 38 = .ok (.iload_n 1, 1) := by decide +kernel
theorem d_R_away_39 : decode M_R_away.2.1 39 = .ok (.ishr, 1) := by decide +kernel
theorem d_R_away_40 : decode M_R_away.2.1 40 = .ok (.iconst 1, 1) := by decide +kernel
theorem d_R_away_41 : decode M_R_away.2.1 41 = .ok (.iand, 1) := by decide +kernel
theorem d_R_away_42 : decode M_R_away.2.1 42 = .ok (.ireturn, 1) := by decide +kernel
theorem d_R_weeks_0 : decode M_R_weeks.2.1 0 = .ok (.iload_n 1, 1) := by decide +kernel
theorem d_R_weeks_1 : decode M_R_weeks.2.1 1 = .ok (.iconst 1, 1) := by decide +kernel
theorem d_R_weeks_2 : decode M_R_weeks.2.1 2 = .ok (.bipush 26, 2) := by decide +kernel
theorem d_R_weeks_4 : decode M_R_weeks.2.1 4 = .ok (.invokestatic 153, 3) := by decide +kernel
theorem d_R_weeks_7 : decode M_R_weeks.2.1 7 = .ok (.ifCond .ne 5, 3) := by decide +kernel
theorem d_R_weeks_10 : decode M_R_weeks.2.1 10 = .ok (.iconst (-1), 1) := by decide +kernel
theorem d_R_weeks_11 : decode M_R_weeks.2.1 11 = .ok (.ireturn, 1) := by decide +kernel
theorem d_R_weeks_12 : decode M_R_weeks.2.1 12 = .ok (.aload_n 0, 1) := by decide +kernel
theorem d_R_weeks_13 : decode M_R_weeks.2.1 13 = .ok (.getfield 157, 3) := by decide +kernel
theorem d_R_weeks_16 : decode M_R_weeks.2.1 16 = .ok (.istore_n 2, 1) := by decide +kernel
theorem d_R_weeks_17 : decode M_R_weeks.2.1 17 = .ok (.aload_n 0, 1) := by decide +kernel
theorem d_R_weeks_18 : decode M_R_weeks.2.1 18 = .ok (.iload_n 1, 1) := by decide +kernel
theorem d_R_weeks_19 : decode M_R_weeks.2.1 19 = .ok (.putfield 157, 3) := by decide +kernel
theorem d_R_weeks_22 : decode M_R_weeks.2.1 22 = .ok (.iload_n 2, 1) := by decide +kernel
theorem d_R_weeks_23 : decode M_R_weeks.2.1 23 = .ok (.ireturn, 1) := by decide +kernel
theorem d_R_lay_0 : decode M_R_lay.2.1 0 = .ok (.iconst 0, 1) := by decide +kernel
theorem d_R_lay_1 : decode M_R_lay.2.1 1 = .ok (.istore_n 1, 1) := by decide +kernel
theorem d_R_lay_2 : decode M_R_lay.2.1 2 = .ok (.iload_n 1, 1) := by decide +kernel
theorem d_R_lay_3 : decode M_R_lay.2.1 3 = .ok (.ldc 117, 2) := by decide +kernel
theorem d_R_lay_5 : decode M_R_lay.2.1 5 = .ok (.if_icmp .ge 16, 3) := by decide +kernel
theorem d_R_lay_8 : decode M_R_lay.2.1 8 = .ok (.aload_n 0, 1) := by decide +kernel
theorem d_R_lay_9 : decode M_R_lay.2.1 9 = .ok (.getfield 118, 3) := by decide +kernel
theorem d_R_lay_12 : decode M_R_lay.2.1 12 = .ok (.iload_n 1, 1) := by decide +kernel
theorem d_R_lay_13 : decode M_R_lay.2.1 13 = .ok (.iconst (-1), 1) := by decide +kernel
theorem d_R_lay_14 : decode M_R_lay.2.1 14 = .ok (.iastore, 1) := by decide +kernel
theorem d_R_lay_15 : decode M_R_lay.2.1 15 = .ok (.iinc 1 1, 3) := by decide +kernel
theorem d_R_lay_18 : decode M_R_lay.2.1 18 = .ok (.goto (-16), 3) := by decide +kernel
theorem d_R_lay_21 : decode M_R_lay.2.1 21 = .ok (.iconst 1, 1) := by decide +kernel
theorem d_R_lay_22 : decode M_R_lay.2.1 22 = .ok (.istore_n 1, 1) := by decide +kernel
theorem d_R_lay_23 : decode M_R_lay.2.1 23 = .ok (.iload_n 1, 1) := by decide +kernel
theorem d_R_lay_24 : decode M_R_lay.2.1 24 = .ok (.aload_n 0, 1) := by decide +kernel
theorem d_R_lay_25 : decode M_R_lay.2.1 25 = .ok (.getfield 157, 3) := by decide +kernel
theorem d_R_lay_28 : decode M_R_lay.2.1 28 = .ok (.if_icmp .gt 20, 3) := by decide +kernel
theorem d_R_lay_31 : decode M_R_lay.2.1 31 = .ok (.aload_n 0, 1) := by decide +kernel
theorem d_R_lay_32 : decode M_R_lay.2.1 32 = .ok (.getfield 121, 3) := by decide +kernel
theorem d_R_lay_35 : decode M_R_lay.2.1 35 = .ok (.iload_n 1, 1) := by decide +kernel
theorem d_R_lay_36 : decode M_R_lay.2.1 36 = .ok (.aload_n 0, 1) := by decide +kernel
theorem d_R_lay_37 : decode M_R_lay.2.1 37 = .ok (.iload_n 1, 1) := by decide +kernel
theorem d_R_lay_38 : decode M_R_lay.2.1 38 = .ok (.invokevirtual 295, 3) := by decide +kernel
theorem d_R_lay_41 : decode M_R_lay.2.1 41 = .ok (.iastore, 1) := by decide +kernel
theorem d_R_lay_42 : decode M_R_lay.2.1 42 = .ok (.iinc 1 1, 3) := by decide +kernel
theorem d_R_lay_45 : decode M_R_lay.2.1 45 = .ok (.goto (-22), 3) := by decide +kernel
theorem d_R_lay_48 : decode M_R_lay.2.1 48 = .ok (.aload_n 0, 1) := by decide +kernel
theorem d_R_lay_49 : decode M_R_lay.2.1 49 = .ok (.iconst 1, 1) := by decide +kernel
theorem d_R_lay_50 : decode M_R_lay.2.1 50 = .ok (.aload_n 0, 1) := by decide +kernel
theorem d_R_lay_51 : decode M_R_lay.2.1 51 = .ok (.iconst 0, 1) := by decide +kernel
theorem d_R_lay_52 : decode M_R_lay.2.1 52 = .ok (.invokevirtual 298, 3) := by decide +kernel
theorem d_R_lay_55 : decode M_R_lay.2.1 55 = .ok (.aload_n 0, 1) := by decide +kernel
theorem d_R_lay_56 : decode M_R_lay.2.1 56 = .ok (.iconst 1, 1) := by decide +kernel
theorem d_R_lay_57 : decode M_R_lay.2.1 57 = .ok (.invokevirtual 298, 3) := by decide +kernel
theorem d_R_lay_60 : decode M_R_lay.2.1 60 = .ok (.aload_n 0, 1) := by decide +kernel
theorem d_R_lay_61 : decode M_R_lay.2.1 61 = .ok (.iconst 2, 1) := by decide +kernel
theorem d_R_lay_62 : decode M_R_lay.2.1 62 = .ok (.invokevirtual 298, 3) := by decide +kernel
theorem d_R_lay_65 : decode M_R_lay.2.1 65 = .ok (.invokevirtual 284, 3) := by decide +kernel
theorem d_R_lay_68 : decode M_R_lay.2.1 68 = .ok (.istore_n 1, 1) := by decide +kernel
theorem d_R_lay_69 : decode M_R_lay.2.1 69 = .ok (.aload_n 0, 1) := by decide +kernel
theorem d_R_lay_70 : decode M_R_lay.2.1 70 = .ok (.iload_n 1, 1) := by decide +kernel
theorem d_R_lay_71 : decode M_R_lay.2.1 71 = .ok (.ldc_w 280, 3) := by decide +kernel
theorem d_R_lay_74 : decode M_R_lay.2.1 74 = .ok (.if_icmp .ge 7, 3) := by decide +kernel
theorem d_R_lay_77 : decode M_R_lay.2.1 77 = .ok (.iconst 1, 1) := by decide +kernel
theorem d_R_lay_78 : decode M_R_lay.2.1 78 = .ok (.goto 4, 3) := by decide +kernel
theorem d_R_lay_81 : decode M_R_lay.2.1 81 = .ok (.iconst 0, 1) := by decide +kernel
theorem d_R_lay_82 : decode M_R_lay.2.1 82 = .ok (.putfield 167, 3) := by decide +kernel
theorem d_R_lay_85 : decode M_R_lay.2.1 85 = .ok (.aload_n 0, 1) := by decide +kernel
theorem d_R_lay_86 : decode M_R_lay.2.1 86 = .ok (.getfield 167, 3) := by decide +kernel
theorem d_R_lay_89 : decode M_R_lay.2.1 89 = .ok (.ifCond .ne 6, 3) := by decide +kernel
theorem d_R_lay_92 : decode M_R_lay.2.1 92 = .ok (.bipush (-3), 2) := by decide +kernel
theorem d_R_lay_94 : decode M_R_lay.2.1 94 = .ok (.ireturn, 1) := by decide +kernel
theorem d_R_lay_95 : decode M_R_lay.2.1 95 = .ok (.aload_n 0, 1) := by decide +kernel
theorem d_R_lay_96 : decode M_R_lay.2.1 96 = .ok (.iconst 0, 1) := by decide +kernel
theorem d_R_lay_97 : decode M_R_lay.2.1 97 = .ok (.invokevirtual 298, 3) := by decide +kernel
theorem d_R_lay_100 : decode M_R_lay.2.1 100 = .ok (.istore_n 2, 1) := by decide +kernel
theorem d_R_lay_101 : decode M_R_lay.2.1 101 = .ok (.aload_n 0, 1) := by decide +kernel
theorem d_R_lay_102 : decode M_R_lay.2.1 102 = .ok (.iconst 1, 1) := by decide +kernel
theorem d_R_lay_103 : decode M_R_lay.2.1 103 = .ok (.invokevirtual 298, 3) := by decide +kernel
theorem d_R_lay_106 : decode M_R_lay.2.1 106 = .ok (.istore_n 3, 1) := by decide +kernel
theorem d_R_lay_107 : decode M_R_lay.2.1 107 = .ok (.aload_n 0, 1) := by decide +kernel
theorem d_R_lay_108 : decode M_R_lay.2.1 108 = .ok (.iconst 2, 1) := by decide +kernel
theorem d_R_lay_109 : decode M_R_lay.2.1 109 = .ok (.invokevirtual 298, 3) := by decide +kernel
theorem d_R_lay_112 : decode M_R_lay.2.1 112 = .ok (.istore 4, 2) := by decide +kernel
theorem d_R_lay_114 : decode M_R_lay.2.1 114 = .ok (.iconst 0, 1) := by decide +kernel
theorem d_R_lay_115 : decode M_R_lay.2.1 115 = .ok (.istore 5, 2) := by decide +kernel
theorem d_R_lay_117 : decode M_R_lay.2.1 117 = .ok (.iload 5, 2) := by decide +kernel
theorem d_R_lay_119 : decode M_R_lay.2.1 119 = .ok (.iconst 3, 1) := by decide +kernel
theorem d_R_lay_120 : decode M_R_lay.2.1 120 = .ok (.if_icmp .ge 17, 3) := by decide +kernel
theorem d_R_lay_123 : decode M_R_lay.2.1 123 = .ok (.aload_n 0, 1) := by decide +kernel
theorem d_R_lay_124 : decode M_R_lay.2.1 124 = .ok (.getfield 59, 3) := by decide +kernel
theorem d_R_lay_127 : decode M_R_lay.2.1 127 = .ok (.iload 5, 2) := by decide +kernel
theorem d_R_lay_129 : decode M_R_lay.2.1 129 = .ok (.iconst 0, 1) := by decide +kernel
theorem d_R_lay_130 : decode M_R_lay.2.1 130 = .ok (.iastore, 1) := by decide +kernel
theorem d_R_lay_131 : decode M_R_lay.2.1 131 = .ok (.iinc 5 1, 3) := by decide +kernel
theorem d_R_lay_134 : decode M_R_lay.2.1 134 = .ok (.goto (-17), 3) := by decide +kernel
theorem d_R_lay_137 : decode M_R_lay.2.1 137 = .ok (.iconst 1, 1) := by decide +kernel
theorem d_R_lay_138 : decode M_R_lay.2.1 138 = .ok (.istore 5, 2) := by decide +kernel
theorem d_R_lay_140 : decode M_R_lay.2.1 140 = .ok (.iload 5, 2) := by decide +kernel
theorem d_R_lay_142 : decode M_R_lay.2.1 142 = .ok (.aload_n 0, 1) := by decide +kernel
theorem d_R_lay_143 : decode M_R_lay.2.1 143 = .ok (.getfield 157, 3) := by decide +kernel
theorem d_R_lay_146 : decode M_R_lay.2.1 146 = .ok (.if_icmp .gt 160, 3) := by decide +kernel
theorem d_R_lay_149 : decode M_R_lay.2.1 149 = .ok (.iconst 0, 1) := by decide +kernel
theorem d_R_lay_150 : decode M_R_lay.2.1 150 = .ok (.istore 6, 2) := by decide +kernel
theorem d_R_lay_152 : decode M_R_lay.2.1 152 = .ok (.aload_n 0, 1) := by decide +kernel
theorem d_R_lay_153 : decode M_R_lay.2.1 153 = .ok (.iload 5, 2) := by decide +kernel
theorem d_R_lay_155 : decode M_R_lay.2.1 155 = .ok (.iload_n 2, 1) := by decide +kernel
theorem d_R_lay_156 : decode M_R_lay.2.1 156 = .ok (.iload_n 3, 1) := by decide +kernel
theorem d_R_lay_157 : decode M_R_lay.2.1 157 = .ok (.iload 4, 2) := by decide +kernel
theorem d_R_lay_159 : decode M_R_lay.2.1 159 = .ok (.iload 6, 2) := by decide +kernel
theorem d_R_lay_161 : decode M_R_lay.2.1 161 = .ok (.invokevirtual 291, 3) := by decide +kernel
theorem d_R_lay_164 : decode M_R_lay.2.1 164 = .ok (.iload_n 1, 1) := by decide +kernel
theorem d_R_lay_165 : decode M_R_lay.2.1 165 = .ok (.if_icmp .le 9, 3) := by decide +kernel
theorem d_R_lay_168 : decode M_R_lay.2.1 168 = .ok (.iinc 6 1, 3) := by decide +kernel
theorem d_R_lay_171 : decode M_R_lay.2.1 171 = .ok (.goto (-19), 3) := by decide +kernel
theorem d_R_lay_174 : decode M_R_lay.2.1 174 = .ok (.iconst 0, 1) := by decide +kernel
theorem d_R_lay_175 : decode M_R_lay.2.1 175 = .ok (.istore 7, 2) := by decide +kernel
theorem d_R_lay_177 : decode M_R_lay.2.1 177 = .ok (.iload 7, 2) := by decide +kernel
theorem d_R_lay_179 : decode M_R_lay.2.1 179 = .ok (.iconst 3, 1) := by decide +kernel
theorem d_R_lay_180 : decode M_R_lay.2.1 180 = .ok (.if_icmp .ge 52, 3) := by decide +kernel
theorem d_R_lay_183 : decode M_R_lay.2.1 183 = .ok (.iload 6, 2) := by decide +kernel
theorem d_R_lay_185 : decode M_R_lay.2.1 185 = .ok (.iload 7, 2) := by decide +kernel
theorem d_R_lay_187 : decode M_R_lay.2.1 187 = .ok (.ishr, 1) := by decide +kernel
theorem d_R_lay_188 : decode M_R_lay.2.1 188 = .ok (.iconst 1, 1) := by decide +kernel
theorem d_R_lay_189 : decode M_R_lay.2.1 189 = .ok (.iand, 1) := by decide +kernel
theorem d_R_lay_190 : decode M_R_lay.2.1 190 = .ok (.ifCond .ne 6, 3) := by decide +kernel
theorem d_R_lay_193 : decode M_R_lay.2.1 193 = .ok (.goto 33, 3) := by decide +kernel
theorem d_R_lay_196 : decode M_R_lay.2.1 196 = .ok (.aload_n 0, 1) := by decide +kernel
theorem d_R_lay_197 : decode M_R_lay.2.1 197 = .ok (.getfield 56, 3) := by decide +kernel
theorem d_R_lay_200 : decode M_R_lay.2.1 200 = .ok (.iconst 5, 1) := by decide +kernel
theorem d_R_lay_201 : decode M_R_lay.2.1 201 = .ok (.iload 7, 2) := by decide +kernel
theorem d_R_lay_203 : decode M_R_lay.2.1 203 = .ok (.imul, 1) := by decide +kernel
theorem d_R_lay_204 : decode M_R_lay.2.1 204 = .ok (.aload_n 0, 1) := by decide +kernel
theorem d_R_lay_205 : decode M_R_lay.2.1 205 = .ok (.getfield 59, 3) := by decide +kernel
theorem d_R_lay_208 : decode M_R_lay.2.1 208 = .ok (.iload 7, 2) := by decide +kernel
theorem d_R_lay_210 : decode M_R_lay.2.1 210 = .ok (.iaload, 1) := by decide +kernel
theorem d_R_lay_211 : decode M_R_lay.2.1 211 = .ok (.iadd, 1) := by decide +kernel
theorem d_R_lay_212 : decode M_R_lay.2.1 212 = .ok (.iload 5, 2) := by decide +kernel
theorem d_R_lay_214 : decode M_R_lay.2.1 214 = .ok (.iastore, 1) := by decide +kernel
theorem d_R_lay_215 : decode M_R_lay.2.1 215 = .ok (.aload_n 0, 1) := by decide +kernel
theorem d_R_lay_216 : decode M_R_lay.2.1 216 = .ok (.getfield 59, 3) := by decide +kernel
theorem d_R_lay_219 : decode M_R_lay.2.1 219 = .ok (.iload 7, 2) := by decide +kernel
theorem d_R_lay_221 : decode M_R_lay.2.1 221 = .ok (.dup2, 1) := by decide +kernel
theorem d_R_lay_222 : decode M_R_lay.2.1 222 = .ok (.iaload, 1) := by decide +kernel
theorem d_R_lay_223 : decode M_R_lay.2.1 223 = .ok (.iconst 1, 1) := by decide +kernel
theorem d_R_lay_224 : decode M_R_lay.2.1 224 = .ok (.iadd, 1) := by decide +kernel
theorem d_R_lay_225 : decode M_R_lay.2.1 225 = .ok (.iastore, 1) := by decide +kernel
theorem d_R_lay_226 : decode M_R_lay.2.1 226 = .ok (.iinc 7 1, 3) := by decide +kernel
theorem d_R_lay_229 : decode M_R_lay.2.1 229 = .ok (.goto (-52), 3) := by decide +kernel
theorem d_R_lay_232 : decode M_R_lay.2.1 232 = .ok (.aload_n 0, 1) := by decide +kernel
theorem d_R_lay_233 : decode M_R_lay.2.1 233 = .ok (.iconst 0, 1) := by decide +kernel
theorem d_R_lay_234 : decode M_R_lay.2.1 234 = .ok (.iload_n 2, 1) := by decide +kernel
theorem d_R_lay_235 : decode M_R_lay.2.1 235 = .ok (.iload 5, 2) := by decide +kernel
theorem d_R_lay_237 : decode M_R_lay.2.1 237 = .ok (.iload 6, 2) := by decide +kernel
theorem d_R_lay_239 : decode M_R_lay.2.1 239 = .ok (.iconst 1, 1) := by decide +kernel
theorem d_R_lay_240 : decode M_R_lay.2.1 240 = .ok (.iand, 1) := by decide +kernel
theorem d_R_lay_241 : decode M_R_lay.2.1 241 = .ok (.iconst 1, 1) := by decide +kernel
theorem d_R_lay_242 : decode M_R_lay.2.1 242 = .ok (.if_icmp .ne 7, 3) := by decide +kernel
theorem d_R_lay_245 : decode M_R_lay.2.1 245 = .ok (.iconst 1, 1) := by decide +kernel
theorem d_R_lay_246 : decode M_R_lay.2.1 246 = .ok (.goto 4, 3) := by decide +kernel
theorem d_R_lay_249 : decode M_R_lay.2.1 249 = .ok (.iconst 0, 1) := by decide +kernel
theorem d_R_lay_250 : decode M_R_lay.2.1 250 = .ok (.invokevirtual 276, 3) := by decide +kernel
theorem d_R_lay_253 : decode M_R_lay.2.1 253 = .ok (.istore_n 2, 1) := by decide +kernel
theorem d_R_lay_254 : decode M_R_lay.2.1 254 = .ok (.aload_n 0, 1) := by decide +kernel
theorem d_R_lay_255 : decode M_R_lay.2.1 255 = .ok (.iconst 1, 1) := by decide +kernel
theorem d_R_lay_256 : decode M_R_lay.2.1 256 = .ok (.iload_n 3, 1) := by decide +kernel
theorem d_R_lay_257 : decode M_R_lay.2.1 257 = .ok (.iload 5, 2) := by decide +kernel
theorem d_R_lay_259 : decode M_R_lay.2.1 259 = .ok (.iload 6, 2) := by decide +kernel
theorem d_R_lay_261 : decode M_R_lay.2.1 261 = .ok (.iconst 2, 1) := by decide +kernel
theorem d_R_lay_262 : decode M_R_lay.2.1 262 = .ok (.iand, 1) := by decide +kernel
theorem d_R_lay_263 : decode M_R_lay.2.1 263 = .ok (.iconst 2, 1) := by decide +kernel
theorem d_R_lay_264 : decode M_R_lay.2.1 264 = .ok (.if_icmp .ne 7, 3) := by decide +kernel
theorem d_R_lay_267 : decode M_R_lay.2.1 267 = .ok (.iconst 1, 1) := by decide +kernel
theorem d_R_lay_268 : decode M_R_lay.2.1 268 = .ok (.goto 4, 3) := by decide +kernel
theorem d_R_lay_271 : decode M_R_lay.2.1 271 = .ok (.iconst 0, 1) := by decide +kernel
theorem d_R_lay_272 : decode M_R_lay.2.1 272 = .ok (.invokevirtual 276, 3) := by decide +kernel
theorem d_R_lay_275 : decode M_R_lay.2.1 275 = .ok (.istore_n 3, 1) := by decide +kernel
theorem d_R_lay_276 : decode M_R_lay.2.1 276 = .ok (.aload_n 0, 1) := by decide +kernel
theorem d_R_lay_277 : decode M_R_lay.2.1 277 = .ok (.iconst 2, 1) := by decide +kernel
theorem d_R_lay_278 : decode M_R_lay.2.1 278 = .ok (.iload 4, 2) := by decide +kernel
theorem d_R_lay_280 : decode M_R_lay.2.1 280 = .ok (.iload 5, 2) := by decide +kernel
theorem d_R_lay_282 : decode M_R_lay.2.1 282 = .ok (.iload 6, 2) := by decide +kernel
theorem d_R_lay_284 : decode M_R_lay.2.1 284 = .ok (.iconst 4, 1) := by decide +kernel
theorem d_R_lay_285 : decode M_R_lay.2.1 285 = .ok (.iand, 1) := by decide +kernel
theorem d_R_lay_286 : decode M_R_lay.2.1 286 = .ok (.iconst 4, 1) := by decide +kernel
theorem d_R_lay_287 : decode M_R_lay.2.1 287 = .ok (.if_icmp .ne 7, 3) := by decide +kernel
theorem d_R_lay_290 : decode M_R_lay.2.1 290 = .ok (.iconst 1, 1) := by decide +kernel
theorem d_R_lay_291 : decode M_R_lay.2.1 291 = .ok (.goto 4, 3) := by decide +kernel
theorem d_R_lay_294 : decode M_R_lay.2.1 294 = .ok (.iconst 0, 1) := by decide +kernel
theorem d_R_lay_295 : decode M_R_lay.2.1 295 = .ok (.invokevirtual 276, 3) := by decide +kernel
theorem d_R_lay_298 : decode M_R_lay.2.1 298 = .ok (.istore 4, 2) := by decide +kernel
theorem d_R_lay_300 : decode M_R_lay.2.1 300 = .ok (.iinc 5 1, 3) := by decide +kernel
theorem d_R_lay_303 : decode M_R_lay.2.1 303 = .ok (.goto (-163), 3) := by decide +kernel
theorem d_R_lay_306 : decode M_R_lay.2.1 306 = .ok (.iload_n 1, 1) := by decide +kernel
theorem d_R_lay_307 : decode M_R_lay.2.1 307 = .ok (.ireturn, 1) := by decide +kernel
theorem d_R_load_0 : decode M_R_load.2.1 0 = .ok (.iconst 0, 1) := by decide +kernel
theorem d_R_load_1 : decode M_R_load.2.1 1 = .ok (.istore_n 2, 1) := by decide +kernel
theorem d_R_load_2 : decode M_R_load.2.1 2 = .ok (.iconst 0, 1) := by decide +kernel
theorem d_R_load_3 : decode M_R_load.2.1 3 = .ok (.istore_n 3, 1) := by decide +kernel
theorem d_R_load_4 : decode M_R_load.2.1 4 = .ok (.iload_n 3, 1) := by decide +kernel
theorem d_R_load_5 : decode M_R_load.2.1 5 = .ok (.aload_n 0, 1) := by decide +kernel
theorem d_R_load_6 : decode M_R_load.2.1 6 = .ok (.getfield 9, 3) := by decide +kernel
theorem d_R_load_9 : decode M_R_load.2.1 9 = .ok (.iconst 3, 1) := by decide +kernel
theorem d_R_load_10 : decode M_R_load.2.1 10 = .ok (.iaload, 1) := by decide +kernel
theorem d_R_load_11 : decode M_R_load.2.1 11 = .ok (.if_icmp .ge 53, 3) := by decide +kernel
theorem d_R_load_14 : decode M_R_load.2.1 14 = .ok (.iload_n 2, 1) := by decide +kernel
theorem d_R_load_15 : decode M_R_load.2.1 15 = .ok (.aload_n 0, 1) := by decide +kernel
theorem d_R_load_16 : decode M_R_load.2.1 16 = .ok (.getfield 9, 3) := by decide +kernel
theorem d_R_load_19 : decode M_R_load.2.1 19 = .ok (.iload_n 3, 1) := by decide +kernel
theorem d_R_load_20 : decode M_R_load.2.1 20 = .ok (.iconst 5, 1) := by decide +kernel
theorem d_R_load_21 : decode M_R_load.2.1 21 = .ok (.invokestatic 180, 3) := by decide +kernel
theorem d_R_load_24 : decode M_R_load.2.1 24 = .ok (.iaload, 1) := by decide +kernel
theorem d_R_load_25 : decode M_R_load.2.1 25 = .ok (.ifCond .ne 30, 3) := by decide +kernel
theorem d_R_load_28 : decode M_R_load.2.1 28 = .ok (.aload_n 0, 1) := by decide +kernel
theorem d_R_load_29 : decode M_R_load.2.1 29 = .ok (.getfield 9, 3) := by decide +kernel
theorem d_R_load_32 : decode M_R_load.2.1 32 = .ok (.iload_n 3, 1) := by decide +kernel
theorem d_R_load_33 : decode M_R_load.2.1 33 = .ok (.iconst 0, 1) := by decide +kernel
theorem d_R_load_34 : decode M_R_load.2.1 34 = .ok (.invokestatic 180, 3) := by decide +kernel
theorem d_R_load_37 : decode M_R_load.2.1 37 = .ok (.iaload, 1) := by decide +kernel
theorem d_R_load_38 : decode M_R_load.2.1 38 = .ok (.iload_n 1, 1) := by decide +kernel
theorem d_R_load_39 : decode M_R_load.2.1 39 = .ok (.if_icmp .ne 16, 3) := by decide +kernel
theorem d_R_load_42 : decode M_R_load.2.1 42 = .ok (.aload_n 0, 1) := by decide +kernel
theorem d_R_load_43 : decode M_R_load.2.1 43 = .ok (.getfield 9, 3) := by decide +kernel
theorem d_R_load_46 : decode M_R_load.2.1 46 = .ok (.iload_n 3, 1) := by decide +kernel
theorem d_R_load_47 : decode M_R_load.2.1 47 = .ok (.iconst 2, 1) := by decide +kernel
theorem d_R_load_48 : decode M_R_load.2.1 48 = .ok (.invokestatic 180, 3) := by decide +kernel
theorem d_R_load_51 : decode M_R_load.2.1 51 = .ok (.iaload, 1) := by decide +kernel
theorem d_R_load_52 : decode M_R_load.2.1 52 = .ok (.goto 4, 3) := by decide +kernel
theorem d_R_load_55 : decode M_R_load.2.1 55 = .ok (.iconst 0, 1) := by decide +kernel
theorem d_R_load_56 : decode M_R_load.2.1 56 = .ok (.iadd, 1) := by decide +kernel
theorem d_R_load_57 : decode M_R_load.2.1 57 = .ok (.istore_n 2, 1) := by decide +kernel
theorem d_R_load_58 : decode M_R_load.2.1 58 = .ok (.iinc 3 1, 3) := by decide +kernel
theorem d_R_load_61 : decode M_R_load.2.1 61 = .ok (.goto (-57), 3) := by decide +kernel
theorem d_R_load_64 : decode M_R_load.2.1 64 = .ok (.iload_n 2, 1) := by decide +kernel
theorem d_R_load_65 : decode M_R_load.2.1 65 = .ok (.ireturn, 1) := by decide +kernel
theorem d_R_start_0 : decode M_R_start.2.1 0 = .ok (.aload_n 0, 1) := by decide +kernel
theorem d_R_start_1 : decode M_R_start.2.1 1 = .ok (.getfield 29, 3) := by decide +kernel
theorem d_R_start_4 : decode M_R_start.2.1 4 = .ok (.iload_n 1, 1) := by decide +kernel
theorem d_R_start_5 : decode M_R_start.2.1 5 = .ok (.iaload, 1) := by decide +kernel
theorem d_R_start_6 : decode M_R_start.2.1 6 = .ok (.ifCond .ne 8, 3) := by decide +kernel
theorem d_R_start_9 : decode M_R_start.2.1 9 = .ok (.bipush 25, 2) := by decide +kernel
theorem d_R_start_11 : decode M_R_start.2.1 11 = .ok (.goto 4, 3) := by decide +kernel
theorem d_R_start_14 : decode M_R_start.2.1 14 = .ok (.iconst 0, 1) := by decide +kernel
theorem d_R_start_15 : decode M_R_start.2.1 15 = .ok (.ireturn, 1) := by decide +kernel
theorem d_R_leastFrom_0 : decode M_R_leastFrom.2.1 0 = .ok (.iload_n 1, 1) := by decide +kernel
theorem d_R_leastFrom_1 : decode M_R_leastFrom.2.1 1 = .ok (.aload_n 0, 1) := by decide +kernel
theorem d_R_leastFrom_2 : decode M_R_leastFrom.2.1 2 = .ok (.getfield 157, 3) := by decide +kernel
theorem d_R_leastFrom_5 : decode M_R_leastFrom.2.1 5 = .ok (.if_icmp .le 30, 3) := by decide +kernel
theorem d_R_leastFrom_8 : decode M_R_leastFrom.2.1 8 = .ok (.iload_n 2, 1) := by decide +kernel
theorem d_R_leastFrom_9 : decode M_R_leastFrom.2.1 9 = .ok (.bipush 25, 2) := by decide +kernel
theorem d_R_leastFrom_11 : decode M_R_leastFrom.2.1 11 = .ok (.if_icmp .ne 20, 3) := by decide +kernel
theorem d_R_leastFrom_14 : decode M_R_leastFrom.2.1 14 = .ok (.iload_n 3, 1) := by decide +kernel
theorem d_R_leastFrom_15 : decode M_R_leastFrom.2.1 15 = .ok (.bipush 25, 2) := by decide +kernel
theorem d_R_leastFrom_17 : decode M_R_leastFrom.2.1 17 = .ok (.if_icmp .ne 14, 3) := by decide +kernel
theorem d_R_leastFrom_20 : decode M_R_leastFrom.2.1 20 = .ok (.iload 4, 2) := by decide +kernel
theorem d_R_leastFrom_22 : decode M_R_leastFrom.2.1 22 = .ok (.bipush 25, 2) := by decide +kernel
theorem d_R_leastFrom_24 : decode M_R_leastFrom.2.1 24 = .ok (.if_icmp .ne 7, 3) := by decide +kernel
theorem d_R_leastFrom_27 : decode M_R_leastFrom.2.1 27 = .ok (.iconst 0, 1) := by decide +kernel
theorem d_R_leastFrom_28 : decode M_R_leastFrom.2.1 28 = .ok (.goto 6, 3) := by decide +kernel
theorem d_R_leastFrom_31 : decode M_R_leastFrom.2.1 31 = .ok (.ldc_w 280, 3) := by decide +kernel
theorem d_R_leastFrom_34 : decode M_R_leastFrom.2.1 34 = .ok (.ireturn, 1) := by decide +kernel
theorem d_R_leastFrom_35 : decode M_R_leastFrom.2.1 35 = .ok (.iload_n 1, 1) := by decide +kernel
theorem d_R_leastFrom_36 : decode M_R_leastFrom.2.1 36 = .ok (.iload_n 2, 1) := by decide +kernel
theorem d_R_leastFrom_37 : decode M_R_leastFrom.2.1 37 = .ok (.iload_n 3, 1) := by decide +kernel
theorem d_R_leastFrom_38 : decode M_R_leastFrom.2.1 38 = .ok (.iload 4, 2) := by decide +kernel
theorem d_R_leastFrom_40 : decode M_R_leastFrom.2.1 40 = .ok (.invokestatic 288, 3) := by decide +kernel
theorem d_R_leastFrom_43 : decode M_R_leastFrom.2.1 43 = .ok (.istore 5, 2) := by decide +kernel
theorem d_R_leastFrom_45 : decode M_R_leastFrom.2.1 45 = .ok (.aload_n 0, 1) := by decide +kernel
theorem d_R_leastFrom_46 : decode M_R_leastFrom.2.1 46 = .ok (.getfield 118, 3) := by decide +kernel
theorem d_R_leastFrom_49 : decode M_R_leastFrom.2.1 49 = .ok (.iload 5, 2) := by decide +kernel
theorem d_R_leastFrom_51 : decode M_R_leastFrom.2.1 51 = .ok (.iaload, 1) := by decide +kernel
theorem d_R_leastFrom_52 : decode M_R_leastFrom.2.1 52 = .ok (.ifCond .lt 11, 3) := by decide +kernel
theorem d_R_leastFrom_55 : decode M_R_leastFrom.2.1 55 = .ok (.aload_n 0, 1) := by decide +kernel
theorem d_R_leastFrom_56 : decode M_R_leastFrom.2.1 56 = .ok (.getfield 118, 3) := by decide +kernel
theorem d_R_leastFrom_59 : decode M_R_leastFrom.2.1 59 = .ok (.iload 5, 2) := by decide +kernel
theorem d_R_leastFrom_61 : decode M_R_leastFrom.2.1 61 = .ok (.iaload, 1) := by decide +kernel
theorem d_R_leastFrom_62 : decode M_R_leastFrom.2.1 62 = .ok (.ireturn, 1) := by decide +kernel
theorem d_R_leastFrom_63 : decode M_R_leastFrom.2.1 63 = .ok (.ldc_w 280, 3) := by decide +kernel
theorem d_R_leastFrom_66 : decode M_R_leastFrom.2.1 66 = .ok (.istore 6, 2) := by decide +kernel
theorem d_R_leastFrom_68 : decode M_R_leastFrom.2.1 68 = .ok (.iconst 0, 1) := by decide +kernel
theorem d_R_leastFrom_69 : decode M_R_leastFrom.2.1 69 = .ok (.istore 7, 2) := by decide +kernel
theorem d_R_leastFrom_71 : decode M_R_leastFrom.2.1 71 = .ok (.iload 7, 2) := by decide +kernel
theorem d_R_leastFrom_73 : decode M_R_leastFrom.2.1 73 = .ok (.bipush 8, 2) := by decide +kernel
theorem d_R_leastFrom_75 : decode M_R_leastFrom.2.1 75 = .ok (.if_icmp .ge 38, 3) := by decide +kernel
theorem d_R_leastFrom_78 : decode M_R_leastFrom.2.1 78 = .ok (.aload_n 0, 1) := by decide +kernel
theorem d_R_leastFrom_79 : decode M_R_leastFrom.2.1 79 = .ok (.iload_n 1, 1) := by decide +kernel
theorem d_R_leastFrom_80 : decode M_R_leastFrom.2.1 80 = .ok (.iload_n 2, 1) := by decide +kernel
theorem d_R_leastFrom_81 : decode M_R_leastFrom.2.1 81 = .ok (.iload_n 3, 1) := by decide +kernel
theorem d_R_leastFrom_82 : decode M_R_leastFrom.2.1 82 = .ok (.iload 4, 2) := by decide +kernel
theorem d_R_leastFrom_84 : decode M_R_leastFrom.2.1 84 = .ok (.iload 7, 2) := by decide +kernel
theorem d_R_leastFrom_86 : decode M_R_leastFrom.2.1 86 = .ok (.invokevirtual 291, 3) := by decide +kernel
theorem d_R_leastFrom_89 : decode M_R_leastFrom.2.1 89 = .ok (.istore 8, 2) := by decide +kernel
theorem d_R_leastFrom_91 : decode M_R_leastFrom.2.1 91 = .ok (.iload 8, 2) := by decide +kernel
theorem d_R_leastFrom_93 : decode M_R_leastFrom.2.1 93 = .ok (.iload 6, 2) := by decide +kernel
theorem d_R_leastFrom_95 : decode M_R_leastFrom.2.1 95 = .ok (.if_icmp .ge 8, 3) := by decide +kernel
theorem d_R_leastFrom_98 : decode M_R_leastFrom.2.1 98 = .ok (.iload 8, 2) := by decide +kernel
theorem d_R_leastFrom_100 : decode M_R_leastFrom.2.1 100 = .ok (.goto 5, 3) := by decide +kernel
theorem d_R_leastFrom_103 : decode M_R_leastFrom.2.1 103 = .ok (.iload 6, 2) := by decide +kernel
theorem d_R_leastFrom_105 : decode M_R_leastFrom.2.1 105 = .ok (.istore 6, 2) := by decide +kernel
theorem d_R_leastFrom_107 : decode M_R_leastFrom.2.1 107 = .ok (.iinc 7 1, 3) := by decide +kernel
theorem d_R_leastFrom_110 : decode M_R_leastFrom.2.1 110 = .ok (.goto (-39), 3) := by decide +kernel
theorem d_R_leastFrom_113 : decode M_R_leastFrom.2.1 113 = .ok (.aload_n 0, 1) := by decide +kernel
theorem d_R_leastFrom_114 : decode M_R_leastFrom.2.1 114 = .ok (.getfield 118, 3) := by decide +kernel
theorem d_R_leastFrom_117 : decode M_R_leastFrom.2.1 117 = .ok (.iload 5, 2) := by decide +kernel
theorem d_R_leastFrom_119 : decode M_R_leastFrom.2.1 119 = .ok (.iload 6, 2) := by decide +kernel
theorem d_R_leastFrom_121 : decode M_R_leastFrom.2.1 121 = .ok (.iastore, 1) := by decide +kernel
theorem d_R_leastFrom_122 : decode M_R_leastFrom.2.1 122 = .ok (.iload 6, 2) := by decide +kernel
theorem d_R_leastFrom_124 : decode M_R_leastFrom.2.1 124 = .ok (.ireturn, 1) := by decide +kernel
theorem d_R_placeOf_0 : decode M_R_placeOf.2.1 0 = .ok (.iload_n 0, 1) := by decide +kernel
theorem d_R_placeOf_1 : decode M_R_placeOf.2.1 1 = .ok (.bipush 26, 2) := by decide +kernel
theorem d_R_placeOf_3 : decode M_R_placeOf.2.1 3 = .ok (.imul, 1) := by decide +kernel
theorem d_R_placeOf_4 : decode M_R_placeOf.2.1 4 = .ok (.iload_n 1, 1) := by decide +kernel
theorem d_R_placeOf_5 : decode M_R_placeOf.2.1 5 = .ok (.iadd, 1) := by decide +kernel
theorem d_R_placeOf_6 : decode M_R_placeOf.2.1 6 = .ok (.bipush 26, 2) := by decide +kernel
theorem d_R_placeOf_8 : decode M_R_placeOf.2.1 8 = .ok (.imul, 1) := by decide +kernel
theorem d_R_placeOf_9 : decode M_R_placeOf.2.1 9 = .ok (.iload_n 2, 1) := by decide +kernel
theorem d_R_placeOf_10 : decode M_R_placeOf.2.1 10 = .ok (.iadd, 1) := by decide +kernel
theorem d_R_placeOf_11 : decode M_R_placeOf.2.1 11 = .ok (.bipush 26, 2) := by decide +kernel
theorem d_R_placeOf_13 : decode M_R_placeOf.2.1 13 = .ok (.imul, 1) := by decide +kernel
theorem d_R_placeOf_14 : decode M_R_placeOf.2.1 14 = .ok (.iload_n 3, 1) := by decide +kernel
theorem d_R_placeOf_15 : decode M_R_placeOf.2.1 15 = .ok (.iadd, 1) := by decide +kernel
theorem d_R_placeOf_16 : decode M_R_placeOf.2.1 16 = .ok (.ireturn, 1) := by decide +kernel
theorem d_R_loadWith_0 : decode M_R_loadWith.2.1 0 = .ok (.aload_n 0, 1) := by decide +kernel
theorem d_R_loadWith_1 : decode M_R_loadWith.2.1 1 = .ok (.iconst 0, 1) := by decide +kernel
theorem d_R_loadWith_2 : decode M_R_loadWith.2.1 2 = .ok (.iload_n 2, 1) := by decide +kernel
theorem d_R_loadWith_3 : decode M_R_loadWith.2.1 3 = .ok (.iload_n 1, 1) := by decide +kernel
theorem d_R_loadWith_4 : decode M_R_loadWith.2.1 4 = .ok (.iload 5, 2) := by decide +kernel
theorem d_R_loadWith_6 : decode M_R_loadWith.2.1 6 = .ok (.iconst 1, 1) := by decide +kernel
theorem d_R_loadWith_7 : decode M_R_loadWith.2.1 7 = .ok (.iand, 1) := by decide +kernel
theorem d_R_loadWith_8 : decode M_R_loadWith.2.1 8 = .ok (.iconst 1, 1) := by decide +kernel
theorem d_R_loadWith_9 : decode M_R_loadWith.2.1 9 = .ok (.if_icmp .ne 7, 3) := by decide +kernel
theorem d_R_loadWith_12 : decode M_R_loadWith.2.1 12 = .ok (.iconst 1, 1) := by decide +kernel
theorem d_R_loadWith_13 : decode M_R_loadWith.2.1 13 = .ok (.goto 4, 3) := by decide +kernel
theorem d_R_loadWith_16 : decode M_R_loadWith.2.1 16 = .ok (.iconst 0, 1) := by decide +kernel
theorem d_R_loadWith_17 : decode M_R_loadWith.2.1 17 = .ok (.invokevirtual 276, 3) := by decide +kernel
theorem d_R_loadWith_20 : decode M_R_loadWith.2.1 20 = .ok (.istore 6, 2) := by decide +kernel
theorem d_R_loadWith_22 : decode M_R_loadWith.2.1 22 = .ok (.aload_n 0, 1) := by decide +kernel
theorem d_R_loadWith_23 : decode M_R_loadWith.2.1 23 = .ok (.iconst 1, 1) := by decide +kernel
theorem d_R_loadWith_24 : decode M_R_loadWith.2.1 24 = .ok (.iload_n 3, 1) := by decide +kernel
theorem d_R_loadWith_25 : decode M_R_loadWith.2.1 25 = .ok (.iload_n 1, 1) := by decide +kernel
theorem d_R_loadWith_26 : decode M_R_loadWith.2.1 26 = .ok (.iload 5, 2) := by decide +kernel
theorem d_R_loadWith_28 : decode M_R_loadWith.2.1 28 = .ok (.iconst 2, 1) := by decide +kernel
theorem d_R_loadWith_29 : decode M_R_loadWith.2.1 29 = .ok (.iand, 1) := by decide +kernel
theorem d_R_loadWith_30 : decode M_R_loadWith.2.1 30 = .ok (.iconst 2, 1) := by decide +kernel
theorem d_R_loadWith_31 : decode M_R_loadWith.2.1 31 = .ok (.if_icmp .ne 7, 3) := by decide +kernel
theorem d_R_loadWith_34 : decode M_R_loadWith.2.1 34 = .ok (.iconst 1, 1) := by decide +kernel
theorem d_R_loadWith_35 : decode M_R_loadWith.2.1 35 = .ok (.goto 4, 3) := by decide +kernel
theorem d_R_loadWith_38 : decode M_R_loadWith.2.1 38 = .ok (.iconst 0, 1) := by decide +kernel
theorem d_R_loadWith_39 : decode M_R_loadWith.2.1 39 = .ok (.invokevirtual 276, 3) := by decide +kernel
theorem d_R_loadWith_42 : decode M_R_loadWith.2.1 42 = .ok (.istore 7, 2) := by decide +kernel
theorem d_R_loadWith_44 : decode M_R_loadWith.2.1 44 = .ok (.aload_n 0, 1) := by decide +kernel
theorem d_R_loadWith_45 : decode M_R_loadWith.2.1 45 = .ok (.iconst 2, 1) := by decide +kernel
theorem d_R_loadWith_46 : decode M_R_loadWith.2.1 46 = .ok (.iload 4, 2) := by decide +kernel
theorem d_R_loadWith_48 : decode M_R_loadWith.2.1 48 = .ok (.iload_n 1, 1) := by decide +kernel
theorem d_R_loadWith_49 : decode M_R_loadWith.2.1 49 = .ok (.iload 5, 2) := by decide +kernel
theorem d_R_loadWith_51 : decode M_R_loadWith.2.1 51 = .ok (.iconst 4, 1) := by decide +kernel
theorem d_R_loadWith_52 : decode M_R_loadWith.2.1 52 = .ok (.iand, 1) := by decide +kernel
theorem d_R_loadWith_53 : decode M_R_loadWith.2.1 53 = .ok (.iconst 4, 1) := by decide +kernel
theorem d_R_loadWith_54 : decode M_R_loadWith.2.1 54 = .ok (.if_icmp .ne 7, 3) := by decide +kernel
theorem d_R_loadWith_57 : decode M_R_loadWith.2.1 57 = .ok (.iconst 1, 1) := by decide +kernel
theorem d_R_loadWith_58 : decode M_R_loadWith.2.1 58 = .ok (.goto 4, 3) := by decide +kernel
theorem d_R_loadWith_61 : decode M_R_loadWith.2.1 61 = .ok (.iconst 0, 1) := by decide +kernel
theorem d_R_loadWith_62 : decode M_R_loadWith.2.1 62 = .ok (.invokevirtual 276, 3) := by decide +kernel
theorem d_R_loadWith_65 : decode M_R_loadWith.2.1 65 = .ok (.istore 8, 2) := by decide +kernel
theorem d_R_loadWith_67 : decode M_R_loadWith.2.1 67 = .ok (.iload 6, 2) := by decide +kernel
theorem d_R_loadWith_69 : decode M_R_loadWith.2.1 69 = .ok (.ifCond .lt 13, 3) := by decide +kernel
theorem d_R_loadWith_72 : decode M_R_loadWith.2.1 72 = .ok (.iload 7, 2) := by decide +kernel
theorem d_R_loadWith_74 : decode M_R_loadWith.2.1 74 = .ok (.ifCond .lt 8, 3) := by decide +kernel
theorem d_R_loadWith_77 : decode M_R_loadWith.2.1 77 = .ok (.iload 8, 2) := by decide +kernel
theorem d_R_loadWith_79 : decode M_R_loadWith.2.1 79 = .ok (.ifCond .ge 7, 3) := by decide +kernel
theorem d_R_loadWith_82 : decode M_R_loadWith.2.1 82 = .ok (.ldc_w 280, 3) := by decide +kernel
theorem d_R_loadWith_85 : decode M_R_loadWith.2.1 85 = .ok (.ireturn, 1) := by decide +kernel
theorem d_R_loadWith_86 : decode M_R_loadWith.2.1 86 = .ok (.aload_n 0, 1) := by decide +kernel
theorem d_R_loadWith_87 : decode M_R_loadWith.2.1 87 = .ok (.getfield 121, 3) := by decide +kernel
theorem d_R_loadWith_90 : decode M_R_loadWith.2.1 90 = .ok (.iload_n 1, 1) := by decide +kernel
theorem d_R_loadWith_91 : decode M_R_loadWith.2.1 91 = .ok (.iaload, 1) := by decide +kernel
theorem d_R_loadWith_92 : decode M_R_loadWith.2.1 92 = .ok (.iload 5, 2) := by decide +kernel
theorem d_R_loadWith_94 : decode M_R_loadWith.2.1 94 = .ok (.iconst 1, 1) := by decide +kernel
theorem d_R_loadWith_95 : decode M_R_loadWith.2.1 95 = .ok (.iand, 1) := by decide +kernel
theorem d_R_loadWith_96 : decode M_R_loadWith.2.1 96 = .ok (.iconst 1, 1) := by decide +kernel
theorem d_R_loadWith_97 : decode M_R_loadWith.2.1 97 = .ok (.if_icmp .ne 12, 3) := by decide +kernel
theorem d_R_loadWith_100 : decode M_R_loadWith.2.1 100 = .ok (.aload_n 0, 1) := by decide +kernel
theorem d_R_loadWith_101 : decode M_R_loadWith.2.1 101 = .ok (.iconst 0, 1) := by decide +kernel
theorem d_R_loadWith_102 : decode M_R_loadWith.2.1 102 = .ok (.iload_n 2, 1) := by decide +kernel
theorem d_R_loadWith_103 : decode M_R_loadWith.2.1 103 = .ok (.invokevirtual 281, 3) := by decide +kernel
theorem d_R_loadWith_106 : decode M_R_loadWith.2.1 106 = .ok (.goto 4, 3) := by decide +kernel
theorem d_R_loadWith_109 : decode M_R_loadWith.2.1 109 = .ok (.iconst 0, 1) := by decide +kernel
theorem d_R_loadWith_110 : decode M_R_loadWith.2.1 110 = .ok (.iadd, 1) := by decide +kernel
theorem d_R_loadWith_111 : decode M_R_loadWith.2.1 111 = .ok (.iload 5, 2) := by decide +kernel
theorem d_R_loadWith_113 : decode M_R_loadWith.2.1 113 = .ok (.iconst 2, 1) := by decide +kernel
theorem d_R_loadWith_114 : decode M_R_loadWith.2.1 114 = .ok (.iand, 1) := by decide +kernel
theorem d_R_loadWith_115 : decode M_R_loadWith.2.1 115 = .ok (.iconst 2, 1) := by decide +kernel
theorem d_R_loadWith_116 : decode M_R_loadWith.2.1 116 = .ok (.if_icmp .ne 12, 3) := by decide +kernel
theorem d_R_loadWith_119 : decode M_R_loadWith.2.1 119 = .ok (.aload_n 0, 1) := by decide +kernel
theorem d_R_loadWith_120 : decode M_R_loadWith.2.1 120 = .ok (.iconst 1, 1) := by decide +kernel
theorem d_R_loadWith_121 : decode M_R_loadWith.2.1 121 = .ok (.iload_n 3, 1) := by decide +kernel
theorem d_R_loadWith_122 : decode M_R_loadWith.2.1 122 = .ok (.invokevirtual 281, 3) := by decide +kernel
theorem d_R_loadWith_125 : decode M_R_loadWith.2.1 125 = .ok (.goto 4, 3) := by decide +kernel
theorem d_R_loadWith_128 : decode M_R_loadWith.2.1 128 = .ok (.iconst 0, 1) := by decide +kernel
theorem d_R_loadWith_129 : decode M_R_loadWith.2.1 129 = .ok (.iadd, 1) := by decide +kernel
theorem d_R_loadWith_130 : decode M_R_loadWith.2.1 130 = .ok (.iload 5, 2) := by decide +kernel
theorem d_R_loadWith_132 : decode M_R_loadWith.2.1 132 = .ok (.iconst 4, 1) := by decide +kernel
theorem d_R_loadWith_133 : decode M_R_loadWith.2.1 133 = .ok (.iand, 1) := by decide +kernel
theorem d_R_loadWith_134 : decode M_R_loadWith.2.1 134 = .ok (.iconst 4, 1) := by decide +kernel
theorem d_R_loadWith_135 : decode M_R_loadWith.2.1 135 = .ok (.if_icmp .ne 13, 3) := by decide +kernel
theorem d_R_loadWith_138 : decode M_R_loadWith.2.1 138 = .ok (.aload_n 0, 1) := by decide +kernel
theorem d_R_loadWith_139 : decode M_R_loadWith.2.1 139 = .ok (.iconst 2, 1) := by decide +kernel
theorem d_R_loadWith_140 : decode M_R_loadWith.2.1 140 = .ok (.iload 4, 2) := by decide +kernel
theorem d_R_loadWith_142 : decode M_R_loadWith.2.1 142 = .ok (.invokevirtual 281, 3) := by decide +kernel
theorem d_R_loadWith_145 : decode M_R_loadWith.2.1 145 = .ok (.goto 4, 3) := by decide +kernel
theorem d_R_loadWith_148 : decode M_R_loadWith.2.1 148 = .ok (.iconst 0, 1) := by decide +kernel
theorem d_R_loadWith_149 : decode M_R_loadWith.2.1 149 = .ok (.iadd, 1) := by decide +kernel
theorem d_R_loadWith_150 : decode M_R_loadWith.2.1 150 = .ok (.istore 9, 2) := by decide +kernel
theorem d_R_loadWith_152 : decode M_R_loadWith.2.1 152 = .ok (.aload_n 0, 1) := by decide +kernel
theorem d_R_loadWith_153 : decode M_R_loadWith.2.1 153 = .ok (.iload_n 1, 1) := by decide +kernel
theorem d_R_loadWith_154 : decode M_R_loadWith.2.1 154 = .ok (.iconst 1, 1) := by decide +kernel
theorem d_R_loadWith_155 : decode M_R_loadWith.2.1 155 = .ok (.iadd, 1) := by decide +kernel
theorem d_R_loadWith_156 : decode M_R_loadWith.2.1 156 = .ok (.iload 6, 2) := by decide +kernel
theorem d_R_loadWith_158 : decode M_R_loadWith.2.1 158 = .ok (.iload 7, 2) := by decide +kernel
theorem d_R_loadWith_160 : decode M_R_loadWith.2.1 160 = .ok (.iload 8, 2) := by decide +kernel
theorem d_R_loadWith_162 : decode M_R_loadWith.2.1 162 = .ok (.invokevirtual 284, 3) := by decide +kernel
theorem d_R_loadWith_165 : decode M_R_loadWith.2.1 165 = .ok (.istore 10, 2) := by decide +kernel
theorem d_R_loadWith_167 : decode M_R_loadWith.2.1 167 = .ok (.iload 9, 2) := by decide +kernel
theorem d_R_loadWith_169 : decode M_R_loadWith.2.1 169 = .ok (.iload 10, 2) := by decide +kernel
theorem d_R_loadWith_171 : decode M_R_loadWith.2.1 171 = .ok (.if_icmp .le 8, 3) := by decide +kernel
theorem d_R_loadWith_174 : decode M_R_loadWith.2.1 174 = .ok (.iload 9, 2) := by decide +kernel
theorem d_R_loadWith_176 : decode M_R_loadWith.2.1 176 = .ok (.goto 5, 3) := by decide +kernel
theorem d_R_loadWith_179 : decode M_R_loadWith.2.1 179 = .ok (.iload 10, 2) := by decide +kernel
theorem d_R_loadWith_181 : decode M_R_loadWith.2.1 181 = .ok (.ireturn, 1) := by decide +kernel
theorem d_R_then_0 : decode M_R_then.2.1 0 = .ok (.iload_n 2, 1) := by decide +kernel
theorem d_R_then_1 : decode M_R_then.2.1 1 = .ok (.ifCond .ne 7, 3) := by decide +kernel
theorem d_R_then_4 : decode M_R_then.2.1 4 = .ok (.iconst 0, 1) := by decide +kernel
theorem d_R_then_5 : decode M_R_then.2.1 5 = .ok (.goto 11, 3) := by decide +kernel
theorem d_R_then_8 : decode M_R_then.2.1 8 = .ok (.iload_n 2, 1) := by decide +kernel
theorem d_R_then_9 : decode M_R_then.2.1 9 = .ok (.iconst 1, 1) := by decide +kernel
theorem d_R_then_10 : decode M_R_then.2.1 10 = .ok (.isub, 1) := by decide +kernel
theorem d_R_then_11 : decode M_R_then.2.1 11 = .ok (.bipush 6, 2) := by decide +kernel
theorem d_R_then_13 : decode M_R_then.2.1 13 = .ok (.idiv, 1) := by decide +kernel
theorem d_R_then_14 : decode M_R_then.2.1 14 = .ok (.iconst 1, 1) := by decide +kernel
theorem d_R_then_15 : decode M_R_then.2.1 15 = .ok (.iadd, 1) := by decide +kernel
theorem d_R_then_16 : decode M_R_then.2.1 16 = .ok (.istore 5, 2) := by decide +kernel
theorem d_R_then_18 : decode M_R_then.2.1 18 = .ok (.iload_n 2, 1) := by decide +kernel
theorem d_R_then_19 : decode M_R_then.2.1 19 = .ok (.ifCond .ne 7, 3) := by decide +kernel
theorem d_R_then_22 : decode M_R_then.2.1 22 = .ok (.iconst 0, 1) := by decide +kernel
theorem d_R_then_23 : decode M_R_then.2.1 23 = .ok (.goto 11, 3) := by decide +kernel
theorem d_R_then_26 : decode M_R_then.2.1 26 = .ok (.iload_n 2, 1) := by decide +kernel
theorem d_R_then_27 : decode M_R_then.2.1 27 = .ok (.iconst 1, 1) := by decide +kernel
theorem d_R_then_28 : decode M_R_then.2.1 28 = .ok (.isub, 1) := by decide +kernel
theorem d_R_then_29 : decode M_R_then.2.1 29 = .ok (.bipush 6, 2) := by decide +kernel
theorem d_R_then_31 : decode M_R_then.2.1 31 = .ok (.irem, 1) := by decide +kernel
theorem d_R_then_32 : decode M_R_then.2.1 32 = .ok (.iconst 1, 1) := by decide +kernel
theorem d_R_then_33 : decode M_R_then.2.1 33 = .ok (.iadd, 1) := by decide +kernel
theorem d_R_then_34 : decode M_R_then.2.1 34 = .ok (.istore 6, 2) := by decide +kernel
theorem d_R_then_36 : decode M_R_then.2.1 36 = .ok (.iload_n 2, 1) := by decide +kernel
theorem d_R_then_37 : decode M_R_then.2.1 37 = .ok (.bipush 25, 2) := by decide +kernel
theorem d_R_then_39 : decode M_R_then.2.1 39 = .ok (.if_icmp .ne 15, 3) := by decide +kernel
theorem d_R_then_42 : decode M_R_then.2.1 42 = .ok (.iload 4, 2) := by decide +kernel
theorem d_R_then_44 : decode M_R_then.2.1 44 = .ok (.ifCond .eq 7, 3) := by decide +kernel
theorem d_R_then_47 : decode M_R_then.2.1 47 = .ok (.iconst (-1), 1) := by decide +kernel
theorem d_R_then_48 : decode M_R_then.2.1 48 = .ok (.goto 5, 3) := by decide +kernel
theorem d_R_then_51 : decode M_R_then.2.1 51 = .ok (.bipush 25, 2) := by decide +kernel
theorem d_R_then_53 : decode M_R_then.2.1 53 = .ok (.ireturn, 1) := by decide +kernel
theorem d_R_then_54 : decode M_R_then.2.1 54 = .ok (.iload 4, 2) := by decide +kernel
theorem d_R_then_56 : decode M_R_then.2.1 56 = .ok (.ifCond .eq 71, 3) := by decide +kernel
theorem d_R_then_59 : decode M_R_then.2.1 59 = .ok (.iload 5, 2) := by decide +kernel
theorem d_R_then_61 : decode M_R_then.2.1 61 = .ok (.ifCond .le 23, 3) := by decide +kernel
theorem d_R_then_64 : decode M_R_then.2.1 64 = .ok (.iload 6, 2) := by decide +kernel
theorem d_R_then_66 : decode M_R_then.2.1 66 = .ok (.aload_n 0, 1) := by decide +kernel
theorem d_R_then_67 : decode M_R_then.2.1 67 = .ok (.getfield 44, 3) := by decide +kernel
theorem d_R_then_70 : decode M_R_then.2.1 70 = .ok (.iload_n 1, 1) := by decide +kernel
theorem d_R_then_71 : decode M_R_then.2.1 71 = .ok (.iaload, 1) := by decide +kernel
theorem d_R_then_72 : decode M_R_then.2.1 72 = .ok (.aload_n 0, 1) := by decide +kernel
theorem d_R_then_73 : decode M_R_then.2.1 73 = .ok (.getfield 47, 3) := by decide +kernel
theorem d_R_then_76 : decode M_R_then.2.1 76 = .ok (.iload_n 1, 1) := by decide +kernel
theorem d_R_then_77 : decode M_R_then.2.1 77 = .ok (.iaload, 1) := by decide +kernel
theorem d_R_then_78 : decode M_R_then.2.1 78 = .ok (.invokestatic 153, 3) := by decide +kernel
theorem d_R_then_81 : decode M_R_then.2.1 81 = .ok (.ifCond .eq 17, 3) := by decide +kernel
theorem d_R_then_84 : decode M_R_then.2.1 84 = .ok (.aload_n 0, 1) := by decide +kernel
theorem d_R_then_85 : decode M_R_then.2.1 85 = .ok (.iconst 5, 1) := by decide +kernel
theorem d_R_then_86 : decode M_R_then.2.1 86 = .ok (.iload_n 1, 1) := by decide +kernel
theorem d_R_then_87 : decode M_R_then.2.1 87 = .ok (.imul, 1) := by decide +kernel
theorem d_R_then_88 : decode M_R_then.2.1 88 = .ok (.iload 5, 2) := by decide +kernel
theorem d_R_then_90 : decode M_R_then.2.1 90 = .ok (.iadd, 1) := by decide +kernel
theorem d_R_then_91 : decode M_R_then.2.1 91 = .ok (.iload_n 3, 1) := by decide +kernel
theorem d_R_then_92 : decode M_R_then.2.1 92 = .ok (.invokevirtual 267, 3) := by decide +kernel
theorem d_R_then_95 : decode M_R_then.2.1 95 = .ok (.ifCond .ne 5, 3) := by decide +kernel
theorem d_R_then_98 : decode M_R_then.2.1 98 = .ok (.iconst (-1), 1) := by decide +kernel
theorem d_R_then_99 : decode M_R_then.2.1 99 = .ok (.ireturn, 1) := by decide +kernel
theorem d_R_then_100 : decode M_R_then.2.1 100 = .ok (.iload 5, 2) := by decide +kernel
theorem d_R_then_102 : decode M_R_then.2.1 102 = .ok (.iconst 1, 1) := by decide +kernel
theorem d_R_then_103 : decode M_R_then.2.1 103 = .ok (.iadd, 1) := by decide +kernel
theorem d_R_then_104 : decode M_R_then.2.1 104 = .ok (.aload_n 0, 1) := by decide +kernel
theorem d_R_then_105 : decode M_R_then.2.1 105 = .ok (.getfield 29, 3) := by decide +kernel
theorem d_R_then_108 : decode M_R_then.2.1 108 = .ok (.iload_n 1, 1) := by decide +kernel
theorem d_R_then_109 : decode M_R_then.2.1 109 = .ok (.iaload, 1) := by decide +kernel
theorem d_R_then_110 : decode M_R_then.2.1 110 = .ok (.if_icmp .ne 8, 3) := by decide +kernel
theorem d_R_then_113 : decode M_R_then.2.1 113 = .ok (.bipush 25, 2) := by decide +kernel
theorem d_R_then_115 : decode M_R_then.2.1 115 = .ok (.goto 11, 3) := by decide +kernel
theorem d_R_then_118 : decode M_R_then.2.1 118 = .ok (.iload 5, 2) := by decide +kernel
theorem d_R_then_120 : decode M_R_then.2.1 120 = .ok (.iconst 1, 1) := by decide +kernel
theorem d_R_then_121 : decode M_R_then.2.1 121 = .ok (.iadd, 1) := by decide +kernel
theorem d_R_then_122 : decode M_R_then.2.1 122 = .ok (.iconst 1, 1) := by decide +kernel
theorem d_R_then_123 : decode M_R_then.2.1 123 = .ok (.invokestatic 270, 3) := by decide +kernel
theorem d_R_then_126 : decode M_R_then.2.1 126 = .ok (.ireturn, 1) := by decide +kernel
theorem d_R_then_127 : decode M_R_then.2.1 127 = .ok (.iload 5, 2) := by decide +kernel
theorem d_R_then_129 : decode M_R_then.2.1 129 = .ok (.ifCond .ne 7, 3) := by decide +kernel
theorem d_R_then_132 : decode M_R_then.2.1 132 = .ok (.iconst 0, 1) := by decide +kernel
theorem d_R_then_133 : decode M_R_then.2.1 133 = .ok (.goto 27, 3) := by decide +kernel
theorem d_R_then_136 : decode M_R_then.2.1 136 = .ok (.iload 6, 2) := by decide +kernel
theorem d_R_then_138 : decode M_R_then.2.1 138 = .ok (.aload_n 0, 1) := by decide +kernel
theorem d_R_then_139 : decode M_R_then.2.1 139 = .ok (.getfield 47, 3) := by decide +kernel
theorem d_R_then_142 : decode M_R_then.2.1 142 = .ok (.iload_n 1, 1) := by decide +kernel
theorem d_R_then_143 : decode M_R_then.2.1 143 = .ok (.iaload, 1) := by decide +kernel
theorem d_R_then_144 : decode M_R_then.2.1 144 = .ok (.if_icmp .lt 7, 3) := by decide +kernel
theorem d_R_then_147 : decode M_R_then.2.1 147 = .ok (.iconst (-1), 1) := by decide +kernel
theorem d_R_then_148 : decode M_R_then.2.1 148 = .ok (.goto 12, 3) := by decide +kernel
theorem d_R_then_151 : decode M_R_then.2.1 151 = .ok (.iload 5, 2) := by decide +kernel
theorem d_R_then_153 : decode M_R_then.2.1 153 = .ok (.iload 6, 2) := by decide +kernel
theorem d_R_then_155 : decode M_R_then.2.1 155 = .ok (.iconst 1, 1) := by decide +kernel
theorem d_R_then_156 : decode M_R_then.2.1 156 = .ok (.iadd, 1) := by decide +kernel
theorem d_R_then_157 : decode M_R_then.2.1 157 = .ok (.invokestatic 270, 3) := by decide +kernel
theorem d_R_then_160 : decode M_R_then.2.1 160 = .ok (.ireturn, 1) := by decide +kernel
theorem d_R_isWell_0 : decode M_R_isWell.2.1 0 = .ok (.iload_n 2, 1) := by decide +kernel
theorem d_R_isWell_1 : decode M_R_isWell.2.1 1 = .ok (.aload_n 0, 1) := by decide +kernel
theorem d_R_isWell_2 : decode M_R_isWell.2.1 2 = .ok (.getfield 38, 3) := by decide +kernel
theorem d_R_isWell_5 : decode M_R_isWell.2.1 5 = .ok (.iload_n 1, 1) := by decide +kernel
theorem d_R_isWell_6 : decode M_R_isWell.2.1 6 = .ok (.iaload, 1) := by decide +kernel
theorem d_R_isWell_7 : decode M_R_isWell.2.1 7 = .ok (.aload_n 0, 1) := by decide +kernel
theorem d_R_isWell_8 : decode M_R_isWell.2.1 8 = .ok (.getfield 41, 3) := by decide +kernel
theorem d_R_isWell_11 : decode M_R_isWell.2.1 11 = .ok (.iload_n 1, 1) := by decide +kernel
theorem d_R_isWell_12 : decode M_R_isWell.2.1 12 = .ok (.iaload, 1) := by decide +kernel
theorem d_R_isWell_13 : decode M_R_isWell.2.1 13 = .ok (.invokestatic 153, 3) := by decide +kernel
theorem d_R_isWell_16 : decode M_R_isWell.2.1 16 = .ok (.ifCond .eq 31, 3) := by decide +kernel
theorem d_R_isWell_19 : decode M_R_isWell.2.1 19 = .ok (.iload_n 2, 1) := by decide +kernel
theorem d_R_isWell_20 : decode M_R_isWell.2.1 20 = .ok (.aload_n 0, 1) := by decide +kernel
theorem d_R_isWell_21 : decode M_R_isWell.2.1 21 = .ok (.getfield 157, 3) := by decide +kernel
theorem d_R_isWell_24 : decode M_R_isWell.2.1 24 = .ok (.if_icmp .gt 23, 3) := by decide +kernel
theorem d_R_isWell_27 : decode M_R_isWell.2.1 27 = .ok (.aload_n 0, 1) := by decide +kernel
theorem d_R_isWell_28 : decode M_R_isWell.2.1 28 = .ok (.getfield 35, 3) := by decide +kernel
theorem d_R_isWell_31 : decode M_R_isWell.2.1 31 = .ok (.iload_n 1, 1) := by decide +kernel
theorem d_R_isWell_32 : decode M_R_isWell.2.1 32 = .ok (.iaload, 1) := by decide +kernel
theorem d_R_isWell_33 : decode M_R_isWell.2.1 33 = .ok (.aload_n 0, 1) := by decide +kernel
theorem d_R_isWell_34 : decode M_R_isWell.2.1 34 = .ok (.getfield 50, 3) := by decide +kernel
theorem d_R_isWell_37 : decode M_R_isWell.2.1 37 = .ok (.iload_n 2, 1) := by decide +kernel
theorem d_R_isWell_38 : decode M_R_isWell.2.1 38 = .ok (.iaload, 1) := by decide +kernel
theorem d_R_isWell_39 : decode M_R_isWell.2.1 39 = .ok (.iand, 1) := by decide +kernel
theorem d_R_isWell_40 : decode M_R_isWell.2.1 40 = .ok (.ifCond .ne 7, 3) := by decide +kernel
theorem d_R_isWell_43 : decode M_R_isWell.2.1 43 = .ok (.iconst 1, 1) := by decide +kernel
theorem d_R_isWell_44 : decode M_R_isWell.2.1 44 = .ok (.goto 4, 3) := by decide +kernel
theorem d_R_isWell_47 : decode M_R_isWell.2.1 47 = .ok (.iconst 0, 1) := by decide +kernel
theorem d_R_isWell_48 : decode M_R_isWell.2.1 48 = .ok (.ireturn, 1) := by decide +kernel
theorem d_R_stateOf_0 : decode M_R_stateOf.2.1 0 = .ok (.iconst 1, 1) := by decide +kernel
theorem d_R_stateOf_1 : decode M_R_stateOf.2.1 1 = .ok (.bipush 6, 2) := by decide +kernel
theorem d_R_stateOf_3 : decode M_R_stateOf.2.1 3 = .ok (.iload_n 0, 1) := by decide +kernel
theorem d_R_stateOf_4 : decode M_R_stateOf.2.1 4 = .ok (.iconst 1, 1) := by decide +kernel
theorem d_R_stateOf_5 : decode M_R_stateOf.2.1 5 = .ok (.isub, 1) := by decide +kernel
theorem d_R_stateOf_6 : decode M_R_stateOf.2.1 6 = .ok (.imul, 1) := by decide +kernel
theorem d_R_stateOf_7 : decode M_R_stateOf.2.1 7 = .ok (.iadd, 1) := by decide +kernel
theorem d_R_stateOf_8 : decode M_R_stateOf.2.1 8 = .ok (.iload_n 1, 1) := by decide +kernel
theorem d_R_stateOf_9 : decode M_R_stateOf.2.1 9 = .ok (.iadd, 1) := by decide +kernel
theorem d_R_stateOf_10 : decode M_R_stateOf.2.1 10 = .ok (.iconst 1, 1) := by decide +kernel
theorem d_R_stateOf_11 : decode M_R_stateOf.2.1 11 = .ok (.isub, 1) := by decide +kernel
theorem d_R_stateOf_12 : decode M_R_stateOf.2.1 12 = .ok (.ireturn, 1) := by decide +kernel
theorem d_R_minutesOf_0 : decode M_R_minutesOf.2.1 0 = .ok (.aload_n 0, 1) := by decide +kernel
theorem d_R_minutesOf_1 : decode M_R_minutesOf.2.1 1 = .ok (.getfield 32, 3) := by decide +kernel
theorem d_R_minutesOf_4 : decode M_R_minutesOf.2.1 4 = .ok (.iconst 5, 1) := by decide +kernel
theorem d_R_minutesOf_5 : decode M_R_minutesOf.2.1 5 = .ok (.iload_n 1, 1) := by decide +kernel
theorem d_R_minutesOf_6 : decode M_R_minutesOf.2.1 6 = .ok (.imul, 1) := by decide +kernel
theorem d_R_minutesOf_7 : decode M_R_minutesOf.2.1 7 = .ok (.aload_n 0, 1) := by decide +kernel
theorem d_R_minutesOf_8 : decode M_R_minutesOf.2.1 8 = .ok (.iload_n 2, 1) := by decide +kernel
theorem d_R_minutesOf_9 : decode M_R_minutesOf.2.1 9 = .ok (.invokevirtual 273, 3) := by decide +kernel
theorem d_R_minutesOf_12 : decode M_R_minutesOf.2.1 12 = .ok (.iadd, 1) := by decide +kernel
theorem d_R_minutesOf_13 : decode M_R_minutesOf.2.1 13 = .ok (.iaload, 1) := by decide +kernel
theorem d_R_minutesOf_14 : decode M_R_minutesOf.2.1 14 = .ok (.ireturn, 1) := by decide +kernel
theorem d_R_turnsOf_0 : decode M_R_turnsOf.2.1 0 = .ok (.iload_n 1, 1) := by decide +kernel
theorem d_R_turnsOf_1 : decode M_R_turnsOf.2.1 1 = .ok (.ifCond .ne 7, 3) := by decide +kernel
theorem d_R_turnsOf_4 : decode M_R_turnsOf.2.1 4 = .ok (.iconst 0, 1) := by decide +kernel
theorem d_R_turnsOf_5 : decode M_R_turnsOf.2.1 5 = .ok (.goto 11, 3) := by decide +kernel
theorem d_R_turnsOf_8 : decode M_R_turnsOf.2.1 8 = .ok (.iload_n 1, 1) := by decide +kernel
theorem d_R_turnsOf_9 : decode M_R_turnsOf.2.1 9 = .ok (.iconst 1, 1) := by decide +kernel
theorem d_R_turnsOf_10 : decode M_R_turnsOf.2.1 10 = .ok (.isub, 1) := by decide +kernel
theorem d_R_turnsOf_11 : decode M_R_turnsOf.2.1 11 = .ok (.bipush 6, 2) := by decide +kernel
theorem d_R_turnsOf_13 : decode M_R_turnsOf.2.1 13 = .ok (.idiv, 1) := by decide +kernel
theorem d_R_turnsOf_14 : decode M_R_turnsOf.2.1 14 = .ok (.iconst 1, 1) := by decide +kernel
theorem d_R_turnsOf_15 : decode M_R_turnsOf.2.1 15 = .ok (.iadd, 1) := by decide +kernel
theorem d_R_turnsOf_16 : decode M_R_turnsOf.2.1 16 = .ok (.ireturn, 1) := by decide +kernel
theorem d_R_laid_0 : decode M_R_laid.2.1 0 = .ok (.aload_n 0, 1) := by decide +kernel
theorem d_R_laid_1 : decode M_R_laid.2.1 1 = .ok (.getfield 167, 3) := by decide +kernel
theorem d_R_laid_4 : decode M_R_laid.2.1 4 = .ok (.ifCond .eq 39, 3) := by decide +kernel
theorem d_R_laid_7 : decode M_R_laid.2.1 7 = .ok (.iload_n 1, 1) := by decide +kernel
theorem d_R_laid_8 : decode M_R_laid.2.1 8 = .ok (.invokestatic 264, 3) := by decide +kernel
theorem d_R_laid_11 : decode M_R_laid.2.1 11 = .ok (.ifCond .eq 32, 3) := by decide +kernel
theorem d_R_laid_14 : decode M_R_laid.2.1 14 = .ok (.iload_n 2, 1) := by decide +kernel
theorem d_R_laid_15 : decode M_R_laid.2.1 15 = .ok (.iconst 0, 1) := by decide +kernel
theorem d_R_laid_16 : decode M_R_laid.2.1 16 = .ok (.aload_n 0, 1) := by decide +kernel
theorem d_R_laid_17 : decode M_R_laid.2.1 17 = .ok (.getfield 59, 3) := by decide +kernel
theorem d_R_laid_20 : decode M_R_laid.2.1 20 = .ok (.iload_n 1, 1) := by decide +kernel
theorem d_R_laid_21 : decode M_R_laid.2.1 21 = .ok (.iaload, 1) := by decide +kernel
theorem d_R_laid_22 : decode M_R_laid.2.1 22 = .ok (.iconst 1, 1) := by decide +kernel
theorem d_R_laid_23 : decode M_R_laid.2.1 23 = .ok (.isub, 1) := by decide +kernel
theorem d_R_laid_24 : decode M_R_laid.2.1 24 = .ok (.invokestatic 153, 3) := by decide +kernel
theorem d_R_laid_27 : decode M_R_laid.2.1 27 = .ok (.ifCond .eq 16, 3) := by decide +kernel
theorem d_R_laid_30 : decode M_R_laid.2.1 30 = .ok (.aload_n 0, 1) := by decide +kernel
theorem d_R_laid_31 : decode M_R_laid.2.1 31 = .ok (.getfield 56, 3) := by decide +kernel
theorem d_R_laid_34 : decode M_R_laid.2.1 34 = .ok (.iconst 5, 1) := by decide +kernel
theorem d_R_laid_35 : decode M_R_laid.2.1 35 = .ok (.iload_n 1, 1) := by decide +kernel
theorem d_R_laid_36 : decode M_R_laid.2.1 36 = .ok (.imul, 1) := by decide +kernel
theorem d_R_laid_37 : decode M_R_laid.2.1 37 = .ok (.iload_n 2, 1) := by decide +kernel
theorem d_R_laid_38 : decode M_R_laid.2.1 38 = .ok (.iadd, 1) := by decide +kernel
theorem d_R_laid_39 : decode M_R_laid.2.1 39 = .ok (.iaload, 1) := by decide +kernel
theorem d_R_laid_40 : decode M_R_laid.2.1 40 = .ok (.goto 4, 3) := by decide +kernel
theorem d_R_laid_43 : decode M_R_laid.2.1 43 = .ok (.iconst (-1), 1) := by decide +kernel
theorem d_R_laid_44 : decode M_R_laid.2.1 44 = .ok (.ireturn, 1) := by decide +kernel
theorem d_R_judge_0 : decode M_R_judge.2.1 0 = .ok (.iload_n 1, 1) := by decide +kernel
theorem d_R_judge_1 : decode M_R_judge.2.1 1 = .ok (.invokestatic 255, 3) := by decide +kernel
theorem d_R_judge_4 : decode M_R_judge.2.1 4 = .ok (.ifCond .ne 5, 3) := by decide +kernel
theorem d_R_judge_7 : decode M_R_judge.2.1 7 = .ok (.iconst (-1), 1) := by decide +kernel
theorem d_R_judge_8 : decode M_R_judge.2.1 8 = .ok (.ireturn, 1) := by decide +kernel
theorem d_R_judge_9 : decode M_R_judge.2.1 9 = .ok (.aload_n 0, 1) := by decide +kernel
theorem d_R_judge_10 : decode M_R_judge.2.1 10 = .ok (.iload_n 1, 1) := by decide +kernel
theorem d_R_judge_11 : decode M_R_judge.2.1 11 = .ok (.iconst 2, 1) := by decide +kernel
theorem d_R_judge_12 : decode M_R_judge.2.1 12 = .ok (.invokevirtual 258, 3) := by decide +kernel
theorem d_R_judge_15 : decode M_R_judge.2.1 15 = .ok (.istore_n 2, 1) := by decide +kernel
theorem d_R_judge_16 : decode M_R_judge.2.1 16 = .ok (.iload_n 2, 1) := by decide +kernel
theorem d_R_judge_17 : decode M_R_judge.2.1 17 = .ok (.ifCond .eq 5, 3) := by decide +kernel
theorem d_R_judge_20 : decode M_R_judge.2.1 20 = .ok (.iload_n 2, 1) := by decide +kernel
theorem d_R_judge_21 : decode M_R_judge.2.1 21 = .ok (.ireturn, 1) := by decide +kernel
theorem d_R_judge_22 : decode M_R_judge.2.1 22 = .ok (.iconst 1, 1) := by decide +kernel
theorem d_R_judge_23 : decode M_R_judge.2.1 23 = .ok (.istore_n 3, 1) := by decide +kernel
theorem d_R_judge_24 : decode M_R_judge.2.1 24 = .ok (.iload_n 3, 1) := by decide +kernel
theorem d_R_judge_25 : decode M_R_judge.2.1 25 = .ok (.aload_n 0, 1) := by decide +kernel
theorem d_R_judge_26 : decode M_R_judge.2.1 26 = .ok (.getfield 157, 3) := by decide +kernel
theorem d_R_judge_29 : decode M_R_judge.2.1 29 = .ok (.if_icmp .gt 20, 3) := by decide +kernel
theorem d_R_judge_32 : decode M_R_judge.2.1 32 = .ok (.aload_n 0, 1) := by decide +kernel
theorem d_R_judge_33 : decode M_R_judge.2.1 33 = .ok (.getfield 121, 3) := by decide +kernel
theorem d_R_judge_36 : decode M_R_judge.2.1 36 = .ok (.iload_n 3, 1) := by decide +kernel
theorem d_R_judge_37 : decode M_R_judge.2.1 37 = .ok (.aload_n 0, 1) := by decide +kernel
theorem d_R_judge_38 : decode M_R_judge.2.1 38 = .ok (.iload_n 3, 1) := by decide +kernel
theorem d_R_judge_39 : decode M_R_judge.2.1 39 = .ok (.invokevirtual 295, 3) := by decide +kernel
theorem d_R_judge_42 : decode M_R_judge.2.1 42 = .ok (.iastore, 1) := by decide +kernel
theorem d_R_judge_43 : decode M_R_judge.2.1 43 = .ok (.iinc 3 1, 3) := by decide +kernel
theorem d_R_judge_46 : decode M_R_judge.2.1 46 = .ok (.goto (-22), 3) := by decide +kernel
theorem d_R_judge_49 : decode M_R_judge.2.1 49 = .ok (.iconst 0, 1) := by decide +kernel
theorem d_R_judge_50 : decode M_R_judge.2.1 50 = .ok (.istore_n 3, 1) := by decide +kernel
theorem d_R_judge_51 : decode M_R_judge.2.1 51 = .ok (.iconst 0, 1) := by decide +kernel
theorem d_R_judge_52 : decode M_R_judge.2.1 52 = .ok (.istore 4, 2) := by decide +kernel
theorem d_R_judge_54 : decode M_R_judge.2.1 54 = .ok (.iload 4, 2) := by decide +kernel
theorem d_R_judge_56 : decode M_R_judge.2.1 56 = .ok (.iconst 3, 1) := by decide +kernel
theorem d_R_judge_57 : decode M_R_judge.2.1 57 = .ok (.if_icmp .ge 148, 3) := by decide +kernel
theorem d_R_judge_60 : decode M_R_judge.2.1 60 = .ok (.iconst 0, 1) := by decide +kernel
theorem d_R_judge_61 : decode M_R_judge.2.1 61 = .ok (.istore 5, 2) := by decide +kernel
theorem d_R_judge_63 : decode M_R_judge.2.1 63 = .ok (.iload 5, 2) := by decide +kernel
theorem d_R_judge_65 : decode M_R_judge.2.1 65 = .ok (.aload_n 0, 1) := by decide +kernel
theorem d_R_judge_66 : decode M_R_judge.2.1 66 = .ok (.getfield 29, 3) := by decide +kernel
theorem d_R_judge_69 : decode M_R_judge.2.1 69 = .ok (.iload 4, 2) := by decide +kernel
theorem d_R_judge_71 : decode M_R_judge.2.1 71 = .ok (.iaload, 1) := by decide +kernel
theorem d_R_judge_72 : decode M_R_judge.2.1 72 = .ok (.if_icmp .ge 127, 3) := by decide +kernel
theorem d_R_judge_75 : decode M_R_judge.2.1 75 = .ok (.iload_n 3, 1) := by decide +kernel
theorem d_R_judge_76 : decode M_R_judge.2.1 76 = .ok (.aload_n 0, 1) := by decide +kernel
theorem d_R_judge_77 : decode M_R_judge.2.1 77 = .ok (.getfield 19, 3) := by decide +kernel
theorem d_R_judge_80 : decode M_R_judge.2.1 80 = .ok (.iload_n 1, 1) := by decide +kernel
theorem d_R_judge_81 : decode M_R_judge.2.1 81 = .ok (.iaload, 1) := by decide +kernel
theorem d_R_judge_82 : decode M_R_judge.2.1 82 = .ok (.if_icmp .ne 10, 3) := by decide +kernel
theorem d_R_judge_85 : decode M_R_judge.2.1 85 = .ok (.aload_n 0, 1) := by decide +kernel
theorem d_R_judge_86 : decode M_R_judge.2.1 86 = .ok (.bipush (-13), 2) := by decide +kernel
theorem d_R_judge_88 : decode M_R_judge.2.1 88 = .ok (.invokevirtual 252, 3) := by decide +kernel
theorem d_R_judge_91 : decode M_R_judge.2.1 91 = .ok (.ireturn, 1) := by decide +kernel
theorem d_R_judge_92 : decode M_R_judge.2.1 92 = .ok (.aload_n 0, 1) := by decide +kernel
theorem d_R_judge_93 : decode M_R_judge.2.1 93 = .ok (.iload_n 1, 1) := by decide +kernel
theorem d_R_judge_94 : decode M_R_judge.2.1 94 = .ok (.iload_n 3, 1) := by decide +kernel
theorem d_R_judge_95 : decode M_R_judge.2.1 95 = .ok (.invokevirtual 242, 3) := by decide +kernel
theorem d_R_judge_98 : decode M_R_judge.2.1 98 = .ok (.istore 6, 2) := by decide +kernel
theorem d_R_judge_100 : decode M_R_judge.2.1 100 = .ok (.iload 6, 2) := by decide +kernel
theorem d_R_judge_102 : decode M_R_judge.2.1 102 = .ok (.iconst 1, 1) := by decide +kernel
theorem d_R_judge_103 : decode M_R_judge.2.1 103 = .ok (.bipush 26, 2) := by decide +kernel
theorem d_R_judge_105 : decode M_R_judge.2.1 105 = .ok (.invokestatic 153, 3) := by decide +kernel
theorem d_R_judge_108 : decode M_R_judge.2.1 108 = .ok (.ifCond .eq 55, 3) := by decide +kernel
theorem d_R_judge_111 : decode M_R_judge.2.1 111 = .ok (.aload_n 0, 1) := by decide +kernel
theorem d_R_judge_112 : decode M_R_judge.2.1 112 = .ok (.iconst 5, 1) := by decide +kernel
theorem d_R_judge_113 : decode M_R_judge.2.1 113 = .ok (.iload 4, 2) := by decide +kernel
theorem d_R_judge_115 : decode M_R_judge.2.1 115 = .ok (.imul, 1) := by decide +kernel
theorem d_R_judge_116 : decode M_R_judge.2.1 116 = .ok (.iload 5, 2) := by decide +kernel
theorem d_R_judge_118 : decode M_R_judge.2.1 118 = .ok (.iadd, 1) := by decide +kernel
theorem d_R_judge_119 : decode M_R_judge.2.1 119 = .ok (.iload 6, 2) := by decide +kernel
theorem d_R_judge_121 : decode M_R_judge.2.1 121 = .ok (.invokevirtual 267, 3) := by decide +kernel
theorem d_R_judge_124 : decode M_R_judge.2.1 124 = .ok (.ifCond .eq 39, 3) := by decide +kernel
theorem d_R_judge_127 : decode M_R_judge.2.1 127 = .ok (.iload 5, 2) := by decide +kernel
theorem d_R_judge_129 : decode M_R_judge.2.1 129 = .ok (.ifCond .le 39, 3) := by decide +kernel
theorem d_R_judge_132 : decode M_R_judge.2.1 132 = .ok (.iload 6, 2) := by decide +kernel
theorem d_R_judge_134 : decode M_R_judge.2.1 134 = .ok (.aload_n 0, 1) := by decide +kernel
theorem d_R_judge_135 : decode M_R_judge.2.1 135 = .ok (.iload_n 1, 1) := by decide +kernel
theorem d_R_judge_136 : decode M_R_judge.2.1 136 = .ok (.iload_n 3, 1) := by decide +kernel
theorem d_R_judge_137 : decode M_R_judge.2.1 137 = .ok (.iconst 1, 1) := by decide +kernel
theorem d_R_judge_138 : decode M_R_judge.2.1 138 = .ok (.isub, 1) := by decide +kernel
theorem d_R_judge_139 : decode M_R_judge.2.1 139 = .ok (.invokevirtual 242, 3) := by decide +kernel
theorem d_R_judge_142 : decode M_R_judge.2.1 142 = .ok (.isub, 1) := by decide +kernel
theorem d_R_judge_143 : decode M_R_judge.2.1 143 = .ok (.aload_n 0, 1) := by decide +kernel
theorem d_R_judge_144 : decode M_R_judge.2.1 144 = .ok (.getfield 44, 3) := by decide +kernel
theorem d_R_judge_147 : decode M_R_judge.2.1 147 = .ok (.iload 4, 2) := by decide +kernel
theorem d_R_judge_149 : decode M_R_judge.2.1 149 = .ok (.iaload, 1) := by decide +kernel
theorem d_R_judge_150 : decode M_R_judge.2.1 150 = .ok (.aload_n 0, 1) := by decide +kernel
theorem d_R_judge_151 : decode M_R_judge.2.1 151 = .ok (.getfield 47, 3) := by decide +kernel
theorem d_R_judge_154 : decode M_R_judge.2.1 154 = .ok (.iload 4, 2) := by decide +kernel
theorem d_R_judge_156 : decode M_R_judge.2.1 156 = .ok (.iaload, 1) := by decide +kernel
theorem d_R_judge_157 : decode M_R_judge.2.1 157 = .ok (.invokestatic 153, 3) := by decide +kernel
theorem d_R_judge_160 : decode M_R_judge.2.1 160 = .ok (.ifCond .ne 8, 3) := by decide +kernel
theorem d_R_judge_163 : decode M_R_judge.2.1 163 = .ok (.bipush (-100), 2) := by decide +kernel
theorem d_R_judge_165 : decode M_R_judge.2.1 165 = .ok (.iload_n 3, 1) := by decide +kernel
theorem d_R_judge_166 : decode M_R_judge.2.1 166 = .ok (.isub, 1) := by decide +kernel
theorem d_R_judge_167 : decode M_R_judge.2.1 167 = .ok (.ireturn, 1) := by decide +kernel
theorem d_R_judge_168 : decode M_R_judge.2.1 168 = .ok (.aload_n 0, 1) := by decide +kernel
theorem d_R_judge_169 : decode M_R_judge.2.1 169 = .ok (.getfield 121, 3) := by decide +kernel
theorem d_R_judge_172 : decode M_R_judge.2.1 172 = .ok (.iload 6, 2) := by decide +kernel
theorem d_R_judge_174 : decode M_R_judge.2.1 174 = .ok (.dup2, 1) := by decide +kernel
theorem d_R_judge_175 : decode M_R_judge.2.1 175 = .ok (.iaload, 1) := by decide +kernel
theorem d_R_judge_176 : decode M_R_judge.2.1 176 = .ok (.aload_n 0, 1) := by decide +kernel
theorem d_R_judge_177 : decode M_R_judge.2.1 177 = .ok (.getfield 32, 3) := by decide +kernel
theorem d_R_judge_180 : decode M_R_judge.2.1 180 = .ok (.iconst 5, 1) := by decide +kernel
theorem d_R_judge_181 : decode M_R_judge.2.1 181 = .ok (.iload 4, 2) := by decide +kernel
theorem d_R_judge_183 : decode M_R_judge.2.1 183 = .ok (.imul, 1) := by decide +kernel
theorem d_R_judge_184 : decode M_R_judge.2.1 184 = .ok (.iload 5, 2) := by decide +kernel
theorem d_R_judge_186 : decode M_R_judge.2.1 186 = .ok (.iadd, 1) := by decide +kernel
theorem d_R_judge_187 : decode M_R_judge.2.1 187 = .ok (.iaload, 1) := by decide +kernel
theorem d_R_judge_188 : decode M_R_judge.2.1 188 = .ok (.iadd, 1) := by decide +kernel
theorem d_R_judge_189 : decode M_R_judge.2.1 189 = .ok (.iastore, 1) := by decide +kernel
theorem d_R_judge_190 : decode M_R_judge.2.1 190 = .ok (.iinc 3 1, 3) := by decide +kernel
theorem d_R_judge_193 : decode M_R_judge.2.1 193 = .ok (.iinc 5 1, 3) := by decide +kernel
theorem d_R_judge_196 : decode M_R_judge.2.1 196 = .ok (.goto (-133), 3) := by decide +kernel
theorem d_R_judge_199 : decode M_R_judge.2.1 199 = .ok (.iinc 4 1, 3) := by decide +kernel
theorem d_R_judge_202 : decode M_R_judge.2.1 202 = .ok (.goto (-148), 3) := by decide +kernel
theorem d_R_judge_205 : decode M_R_judge.2.1 205 = .ok (.iconst 0, 1) := by decide +kernel
theorem d_R_judge_206 : decode M_R_judge.2.1 206 = .ok (.istore 4, 2) := by decide +kernel
theorem d_R_judge_208 : decode M_R_judge.2.1 208 = .ok (.iconst 1, 1) := by decide +kernel
theorem d_R_judge_209 : decode M_R_judge.2.1 209 = .ok (.istore 5, 2) := by decide +kernel
theorem d_R_judge_211 : decode M_R_judge.2.1 211 = .ok (.iload 5, 2) := by decide +kernel
theorem d_R_judge_213 : decode M_R_judge.2.1 213 = .ok (.aload_n 0, 1) := by decide +kernel
theorem d_R_judge_214 : decode M_R_judge.2.1 214 = .ok (.getfield 157, 3) := by decide +kernel
theorem d_R_judge_217 : decode M_R_judge.2.1 217 = .ok (.if_icmp .gt 35, 3) := by decide +kernel
theorem d_R_judge_220 : decode M_R_judge.2.1 220 = .ok (.aload_n 0, 1) := by decide +kernel
theorem d_R_judge_221 : decode M_R_judge.2.1 221 = .ok (.getfield 121, 3) := by decide +kernel
theorem d_R_judge_224 : decode M_R_judge.2.1 224 = .ok (.iload 5, 2) := by decide +kernel
theorem d_R_judge_226 : decode M_R_judge.2.1 226 = .ok (.iaload, 1) := by decide +kernel
theorem d_R_judge_227 : decode M_R_judge.2.1 227 = .ok (.iload 4, 2) := by decide +kernel
theorem d_R_judge_229 : decode M_R_judge.2.1 229 = .ok (.if_icmp .le 13, 3) := by decide +kernel
theorem d_R_judge_232 : decode M_R_judge.2.1 232 = .ok (.aload_n 0, 1) := by decide +kernel
theorem d_R_judge_233 : decode M_R_judge.2.1 233 = .ok (.getfield 121, 3) := by decide +kernel
theorem d_R_judge_236 : decode M_R_judge.2.1 236 = .ok (.iload 5, 2) := by decide +kernel
theorem d_R_judge_238 : decode M_R_judge.2.1 238 = .ok (.iaload, 1) := by decide +kernel
theorem d_R_judge_239 : decode M_R_judge.2.1 239 = .ok (.goto 5, 3) := by decide +kernel
theorem d_R_judge_242 : decode M_R_judge.2.1 242 = .ok (.iload 4, 2) := by decide +kernel
theorem d_R_judge_244 : decode M_R_judge.2.1 244 = .ok (.istore 4, 2) := by decide +kernel
theorem d_R_judge_246 : decode M_R_judge.2.1 246 = .ok (.iinc 5 1, 3) := by decide +kernel
theorem d_R_judge_249 : decode M_R_judge.2.1 249 = .ok (.goto (-38), 3) := by decide +kernel
theorem d_R_judge_252 : decode M_R_judge.2.1 252 = .ok (.iload 4, 2) := by decide +kernel
theorem d_R_judge_254 : decode M_R_judge.2.1 254 = .ok (.ireturn, 1) := by decide +kernel
theorem d_R_off_0 : decode M_R_off.2.1 0 = .ok (.aload_n 0, 1) := by decide +kernel
theorem d_R_off_1 : decode M_R_off.2.1 1 = .ok (.iload_n 1, 1) := by decide +kernel
theorem d_R_off_2 : decode M_R_off.2.1 2 = .ok (.invokevirtual 184, 3) := by decide +kernel
theorem d_R_off_5 : decode M_R_off.2.1 5 = .ok (.ifCond .eq 12, 3) := by decide +kernel
theorem d_R_off_8 : decode M_R_off.2.1 8 = .ok (.iload_n 2, 1) := by decide +kernel
theorem d_R_off_9 : decode M_R_off.2.1 9 = .ok (.iconst 0, 1) := by decide +kernel
theorem d_R_off_10 : decode M_R_off.2.1 10 = .ok (.iconst 5, 1) := by decide +kernel
theorem d_R_off_11 : decode M_R_off.2.1 11 = .ok (.invokestatic 153, 3) := by decide +kernel
theorem d_R_off_14 : decode M_R_off.2.1 14 = .ok (.ifCond .ne 5, 3) := by decide +kernel
theorem d_R_off_17 : decode M_R_off.2.1 17 = .ok (.iconst (-1), 1) := by decide +kernel
theorem d_R_off_18 : decode M_R_off.2.1 18 = .ok (.ireturn, 1) := by decide +kernel
theorem d_R_off_19 : decode M_R_off.2.1 19 = .ok (.aload_n 0, 1) := by decide +kernel
theorem d_R_off_20 : decode M_R_off.2.1 20 = .ok (.getfield 53, 3) := by decide +kernel
theorem d_R_off_23 : decode M_R_off.2.1 23 = .ok (.iload_n 2, 1) := by decide +kernel
theorem d_R_off_24 : decode M_R_off.2.1 24 = .ok (.dup2, 1) := by decide +kernel
theorem d_R_off_25 : decode M_R_off.2.1 25 = .ok (.iaload, 1) := by decide +kernel
theorem d_R_off_26 : decode M_R_off.2.1 26 = .ok (.iconst 1, 1) := by decide +kernel
theorem d_R_off_27 : decode M_R_off.2.1 27 = .ok (.iload_n 1, 1) := by decide +kernel
theorem d_R_off_28 : decode M_R_off.2.1 28 = .ok (.ishl, 1) := by decide +kernel
theorem d_R_off_29 : decode M_R_off.2.1 29 = .ok (.ixor, 1) := by decide +kernel
theorem d_R_off_30 : decode M_R_off.2.1 30 = .ok (.iastore, 1) := by decide +kernel
theorem d_R_off_31 : decode M_R_off.2.1 31 = .ok (.aload_n 0, 1) := by decide +kernel
theorem d_R_off_32 : decode M_R_off.2.1 32 = .ok (.getfield 53, 3) := by decide +kernel
theorem d_R_off_35 : decode M_R_off.2.1 35 = .ok (.iload_n 2, 1) := by decide +kernel
theorem d_R_off_36 : decode M_R_off.2.1 36 = .ok (.iaload, 1) := by decide +kernel
theorem d_R_off_37 : decode M_R_off.2.1 37 = .ok (.iload_n 1, 1) := by decide +kernel
theorem d_R_off_38 : decode M_R_off.2.1 38 = .ok (.ishr, 1) := by decide +kernel
theorem d_R_off_39 : decode M_R_off.2.1 39 = .ok (.iconst 1, 1) := by decide +kernel
theorem d_R_off_40 : decode M_R_off.2.1 40 = .ok (.iand, 1) := by decide +kernel
theorem d_R_off_41 : decode M_R_off.2.1 41 = .ok (.ireturn, 1) := by decide +kernel
theorem d_R_block_0 : decode M_R_block.2.1 0 = .ok (.iload_n 1, 1) := by decide +kernel
theorem d_R_block_1 : decode M_R_block.2.1 1 = .ok (.iconst 1, 1) := by decide +kernel
theorem d_R_block_2 : decode M_R_block.2.1 2 = .ok (.bipush 26, 2) := by decide +kernel
theorem d_R_block_4 : decode M_R_block.2.1 4 = .ok (.invokestatic 153, 3) := by decide +kernel
theorem d_R_block_7 : decode M_R_block.2.1 7 = .ok (.ifCond .eq 46, 3) := by decide +kernel
theorem d_R_block_10 : decode M_R_block.2.1 10 = .ok (.iload_n 2, 1) := by decide +kernel
theorem d_R_block_11 : decode M_R_block.2.1 11 = .ok (.iload_n 1, 1) := by decide +kernel
theorem d_R_block_12 : decode M_R_block.2.1 12 = .ok (.bipush 26, 2) := by decide +kernel
theorem d_R_block_14 : decode M_R_block.2.1 14 = .ok (.invokestatic 153, 3) := by decide +kernel
theorem d_R_block_17 : decode M_R_block.2.1 17 = .ok (.ifCond .eq 36, 3) := by decide +kernel
theorem d_R_block_20 : decode M_R_block.2.1 20 = .ok (.iload_n 3, 1) := by decide +kernel
theorem d_R_block_21 : decode M_R_block.2.1 21 = .ok (.iconst 1, 1) := by decide +kernel
theorem d_R_block_22 : decode M_R_block.2.1 22 = .ok (.bipush 6, 2) := by decide +kernel
theorem d_R_block_24 : decode M_R_block.2.1 24 = .ok (.invokestatic 153, 3) := by decide +kernel
theorem d_R_block_27 : decode M_R_block.2.1 27 = .ok (.ifCond .eq 26, 3) := by decide +kernel
theorem d_R_block_30 : decode M_R_block.2.1 30 = .ok (.iload 4, 2) := by decide +kernel
theorem d_R_block_32 : decode M_R_block.2.1 32 = .ok (.iconst 1, 1) := by decide +kernel
theorem d_R_block_33 : decode M_R_block.2.1 33 = .ok (.sipush 200, 3) := by decide +kernel
theorem d_R_block_36 : decode M_R_block.2.1 36 = .ok (.invokestatic 153, 3) := by decide +kernel
theorem d_R_block_39 : decode M_R_block.2.1 39 = .ok (.ifCond .eq 14, 3) := by decide +kernel
theorem d_R_block_42 : decode M_R_block.2.1 42 = .ok (.iload 5, 2) := by decide +kernel
theorem d_R_block_44 : decode M_R_block.2.1 44 = .ok (.iconst 1, 1) := by decide +kernel
theorem d_R_block_45 : decode M_R_block.2.1 45 = .ok (.bipush 8, 2) := by decide +kernel
theorem d_R_block_47 : decode M_R_block.2.1 47 = .ok (.invokestatic 153, 3) := by decide +kernel
theorem d_R_block_50 : decode M_R_block.2.1 50 = .ok (.ifCond .ne 5, 3) := by decide +kernel
theorem d_R_block_53 : decode M_R_block.2.1 53 = .ok (.iconst (-1), 1) := by decide +kernel
theorem d_R_block_54 : decode M_R_block.2.1 54 = .ok (.ireturn, 1) := by decide +kernel
theorem d_R_block_55 : decode M_R_block.2.1 55 = .ok (.aload_n 0, 1) := by decide +kernel
theorem d_R_block_56 : decode M_R_block.2.1 56 = .ok (.iload_n 1, 1) := by decide +kernel
theorem d_R_block_57 : decode M_R_block.2.1 57 = .ok (.iload_n 2, 1) := by decide +kernel
theorem d_R_block_58 : decode M_R_block.2.1 58 = .ok (.invokevirtual 304, 3) := by decide +kernel
theorem d_R_block_61 : decode M_R_block.2.1 61 = .ok (.bipush 8, 2) := by decide +kernel
theorem d_R_block_63 : decode M_R_block.2.1 63 = .ok (.if_icmp .le 6, 3) := by decide +kernel
theorem d_R_block_66 : decode M_R_block.2.1 66 = .ok (.bipush (-4), 2) := by decide +kernel
theorem d_R_block_68 : decode M_R_block.2.1 68 = .ok (.ireturn, 1) := by decide +kernel
theorem d_R_block_69 : decode M_R_block.2.1 69 = .ok (.aload_n 0, 1) := by decide +kernel
theorem d_R_block_70 : decode M_R_block.2.1 70 = .ok (.iconst 1, 1) := by decide +kernel
theorem d_R_block_71 : decode M_R_block.2.1 71 = .ok (.putfield 173, 3) := by decide +kernel
theorem d_R_block_74 : decode M_R_block.2.1 74 = .ok (.aload_n 0, 1) := by decide +kernel
theorem d_R_block_75 : decode M_R_block.2.1 75 = .ok (.iload_n 1, 1) := by decide +kernel
theorem d_R_block_76 : decode M_R_block.2.1 76 = .ok (.putfield 307, 3) := by decide +kernel
theorem d_R_block_79 : decode M_R_block.2.1 79 = .ok (.aload_n 0, 1) := by decide +kernel
theorem d_R_block_80 : decode M_R_block.2.1 80 = .ok (.iload_n 2, 1) := by decide +kernel
theorem d_R_block_81 : decode M_R_block.2.1 81 = .ok (.putfield 310, 3) := by decide +kernel
theorem d_R_block_84 : decode M_R_block.2.1 84 = .ok (.aload_n 0, 1) := by decide +kernel
theorem d_R_block_85 : decode M_R_block.2.1 85 = .ok (.iload_n 3, 1) := by decide +kernel
theorem d_R_block_86 : decode M_R_block.2.1 86 = .ok (.putfield 313, 3) := by decide +kernel
theorem d_R_block_89 : decode M_R_block.2.1 89 = .ok (.aload_n 0, 1) := by decide +kernel
theorem d_R_block_90 : decode M_R_block.2.1 90 = .ok (.iload 4, 2) := by decide +kernel
theorem d_R_block_92 : decode M_R_block.2.1 92 = .ok (.putfield 316, 3) := by decide +kernel
theorem d_R_block_95 : decode M_R_block.2.1 95 = .ok (.aload_n 0, 1) := by decide +kernel
theorem d_R_block_96 : decode M_R_block.2.1 96 = .ok (.iload 5, 2) := by decide +kernel
theorem d_R_block_98 : decode M_R_block.2.1 98 = .ok (.putfield 319, 3) := by decide +kernel
theorem d_R_block_101 : decode M_R_block.2.1 101 = .ok (.aload_n 0, 1) := by decide +kernel
theorem d_R_block_102 : decode M_R_block.2.1 102 = .ok (.getfield 301, 3) := by decide +kernel
theorem d_R_block_105 : decode M_R_block.2.1 105 = .ok (.ireturn, 1) := by decide +kernel
theorem d_R_gathers_0 : decode M_R_gathers.2.1 0 = .ok (.aload_n 0, 1) := by decide +kernel
theorem d_R_gathers_1 : decode M_R_gathers.2.1 1 = .ok (.invokevirtual 239, 3) := by decide +kernel
theorem d_R_gathers_4 : decode M_R_gathers.2.1 4 = .ok (.aload_n 0, 1) := by decide +kernel
theorem d_R_gathers_5 : decode M_R_gathers.2.1 5 = .ok (.iconst 0, 1) := by decide +kernel
theorem d_R_gathers_6 : decode M_R_gathers.2.1 6 = .ok (.putfield 301, 3) := by decide +kernel
theorem d_R_gathers_9 : decode M_R_gathers.2.1 9 = .ok (.iconst 0, 1) := by decide +kernel
theorem d_R_gathers_10 : decode M_R_gathers.2.1 10 = .ok (.istore_n 3, 1) := by decide +kernel
theorem d_R_gathers_11 : decode M_R_gathers.2.1 11 = .ok (.iload_n 3, 1) := by decide +kernel
theorem d_R_gathers_12 : decode M_R_gathers.2.1 12 = .ok (.aload_n 0, 1) := by decide +kernel
theorem d_R_gathers_13 : decode M_R_gathers.2.1 13 = .ok (.getfield 207, 3) := by decide +kernel
theorem d_R_gathers_16 : decode M_R_gathers.2.1 16 = .ok (.if_icmp .ge 60, 3) := by decide +kernel
theorem d_R_gathers_19 : decode M_R_gathers.2.1 19 = .ok (.aload_n 0, 1) := by decide +kernel
theorem d_R_gathers_20 : decode M_R_gathers.2.1 20 = .ok (.getfield 9, 3) := by decide +kernel
theorem d_R_gathers_23 : decode M_R_gathers.2.1 23 = .ok (.aload_n 0, 1) := by decide +kernel
theorem d_R_gathers_24 : decode M_R_gathers.2.1 24 = .ok (.getfield 68, 3) := by decide +kernel
theorem d_R_gathers_27 : decode M_R_gathers.2.1 27 = .ok (.iload_n 3, 1) := by decide +kernel
theorem d_R_gathers_28 : decode M_R_gathers.2.1 28 = .ok (.iaload, 1) := by decide +kernel
theorem d_R_gathers_29 : decode M_R_gathers.2.1 29 = .ok (.iconst 0, 1) := by decide +kernel
theorem d_R_gathers_30 : decode M_R_gathers.2.1 30 = .ok (.invokestatic 180, 3) := by decide +kernel
theorem d_R_gathers_33 : decode M_R_gathers.2.1 33 = .ok (.iaload, 1) := by decide +kernel
theorem d_R_gathers_34 : decode M_R_gathers.2.1 34 = .ok (.iload_n 1, 1) := by decide +kernel
theorem d_R_gathers_35 : decode M_R_gathers.2.1 35 = .ok (.iload_n 2, 1) := by decide +kernel
theorem d_R_gathers_36 : decode M_R_gathers.2.1 36 = .ok (.invokestatic 153, 3) := by decide +kernel
theorem d_R_gathers_39 : decode M_R_gathers.2.1 39 = .ok (.ifCond .ne 6, 3) := by decide +kernel
theorem d_R_gathers_42 : decode M_R_gathers.2.1 42 = .ok (.goto 28, 3) := by decide +kernel
theorem d_R_gathers_45 : decode M_R_gathers.2.1 45 = .ok (.aload_n 0, 1) := by decide +kernel
theorem d_R_gathers_46 : decode M_R_gathers.2.1 46 = .ok (.getfield 124, 3) := by decide +kernel
theorem d_R_gathers_49 : decode M_R_gathers.2.1 49 = .ok (.aload_n 0, 1) := by decide +kernel
theorem d_R_gathers_50 : decode M_R_gathers.2.1 50 = .ok (.getfield 301, 3) := by decide +kernel
theorem d_R_gathers_53 : decode M_R_gathers.2.1 53 = .ok (.aload_n 0, 1) := by decide +kernel
theorem d_R_gathers_54 : decode M_R_gathers.2.1 54 = .ok (.getfield 68, 3) := by decide +kernel
theorem d_R_gathers_57 : decode M_R_gathers.2.1 57 = .ok (.iload_n 3, 1) := by decide +kernel
theorem d_R_gathers_58 : decode M_R_gathers.2.1 58 = .ok (.iaload, 1) := by decide +kernel
theorem d_R_gathers_59 : decode M_R_gathers.2.1 59 = .ok (.iastore, 1) := by decide +kernel
theorem d_R_gathers_60 : decode M_R_gathers.2.1 60 = .ok (.aload_n 0, 1) := by decide +kernel
theorem d_R_gathers_61 : decode M_R_gathers.2.1 61 = .ok (.dup, 1) := by decide +kernel
theorem d_R_gathers_62 : decode M_R_gathers.2.1 62 = .ok (.getfield 301, 3) := by decide +kernel
theorem d_R_gathers_65 : decode M_R_gathers.2.1 65 = .ok (.iconst 1, 1) := by decide +kernel
theorem d_R_gathers_66 : decode M_R_gathers.2.1 66 = .ok (.iadd, 1) := by decide +kernel
theorem d_R_gathers_67 : decode M_R_gathers.2.1 67 = .ok (.putfield 301, 3) := by decide +kernel
theorem d_R_gathers_70 : decode M_R_gathers.2.1 70 = .ok (.iinc 3 1, 3) := by decide +kernel
theorem d_R_gathers_73 : decode M_R_gathers.2.1 73 = .ok (.goto (-62), 3) := by decide +kernel
theorem d_R_gathers_76 : decode M_R_gathers.2.1 76 = .ok (.aload_n 0, 1) := by decide +kernel
theorem d_R_gathers_77 : decode M_R_gathers.2.1 77 = .ok (.getfield 301, 3) := by decide +kernel
theorem d_R_gathers_80 : decode M_R_gathers.2.1 80 = .ok (.ireturn, 1) := by decide +kernel
theorem d_R_plan_0 : decode M_R_plan.2.1 0 = .ok (.aload_n 0, 1) := by decide +kernel
theorem d_R_plan_1 : decode M_R_plan.2.1 1 = .ok (.getfield 173, 3) := by decide +kernel
theorem d_R_plan_4 : decode M_R_plan.2.1 4 = .ok (.ifCond .ne 5, 3) := by decide +kernel
theorem d_R_plan_7 : decode M_R_plan.2.1 7 = .ok (.iconst (-1), 1) := by decide +kernel
theorem d_R_plan_8 : decode M_R_plan.2.1 8 = .ok (.ireturn, 1) := by decide +kernel
theorem d_R_plan_9 : decode M_R_plan.2.1 9 = .ok (.aload_n 0, 1) := by decide +kernel
theorem d_R_plan_10 : decode M_R_plan.2.1 10 = .ok (.aload_n 0, 1) := by decide +kernel
theorem d_R_plan_11 : decode M_R_plan.2.1 11 = .ok (.getfield 307, 3) := by decide +kernel
theorem d_R_plan_14 : decode M_R_plan.2.1 14 = .ok (.aload_n 0, 1) := by decide +kernel
theorem d_R_plan_15 : decode M_R_plan.2.1 15 = .ok (.getfield 310, 3) := by decide +kernel
theorem d_R_plan_18 : decode M_R_plan.2.1 18 = .ok (.invokevirtual 304, 3) := by decide +kernel
theorem d_R_plan_21 : decode M_R_plan.2.1 21 = .ok (.bipush 8, 2) := by decide +kernel
theorem d_R_plan_23 : decode M_R_plan.2.1 23 = .ok (.if_icmp .le 6, 3) := by decide +kernel
theorem d_R_plan_26 : decode M_R_plan.2.1 26 = .ok (.bipush (-4), 2) := by decide +kernel
theorem d_R_plan_28 : decode M_R_plan.2.1 28 = .ok (.ireturn, 1) := by decide +kernel
theorem d_R_plan_29 : decode M_R_plan.2.1 29 = .ok (.aload_n 0, 1) := by decide +kernel
theorem d_R_plan_30 : decode M_R_plan.2.1 30 = .ok (.iconst (-1), 1) := by decide +kernel
theorem d_R_plan_31 : decode M_R_plan.2.1 31 = .ok (.putfield 328, 3) := by decide +kernel
theorem d_R_plan_34 : decode M_R_plan.2.1 34 = .ok (.aload_n 0, 1) := by decide +kernel
theorem d_R_plan_35 : decode M_R_plan.2.1 35 = .ok (.iconst 0, 1) := by decide +kernel
theorem d_R_plan_36 : decode M_R_plan.2.1 36 = .ok (.invokevirtual 337, 3) := by decide +kernel
theorem d_R_plan_39 : decode M_R_plan.2.1 39 = .ok (.aload_n 0, 1) := by decide +kernel
theorem d_R_plan_40 : decode M_R_plan.2.1 40 = .ok (.aload_n 0, 1) := by decide +kernel
theorem d_R_plan_41 : decode M_R_plan.2.1 41 = .ok (.getfield 328, 3) := by decide +kernel
theorem d_R_plan_44 : decode M_R_plan.2.1 44 = .ok (.ifCond .lt 7, 3) := by decide +kernel
theorem d_R_plan_47 : decode M_R_plan.2.1 47 = .ok (.iconst 1, 1) := by decide +kernel
theorem d_R_plan_48 : decode M_R_plan.2.1 48 = .ok (.goto 4, 3) := by decide +kernel
theorem d_R_plan_51 : decode M_R_plan.2.1 51 = .ok (.iconst 0, 1) := by decide +kernel
theorem d_R_plan_52 : decode M_R_plan.2.1 52 = .ok (.putfield 170, 3) := by decide +kernel
theorem d_R_plan_55 : decode M_R_plan.2.1 55 = .ok (.aload_n 0, 1) := by decide +kernel
theorem d_R_plan_56 : decode M_R_plan.2.1 56 = .ok (.getfield 170, 3) := by decide +kernel
theorem d_R_plan_59 : decode M_R_plan.2.1 59 = .ok (.ifCond .ne 6, 3) := by decide +kernel
theorem d_R_plan_62 : decode M_R_plan.2.1 62 = .ok (.bipush (-3), 2) := by decide +kernel
theorem d_R_plan_64 : decode M_R_plan.2.1 64 = .ok (.ireturn, 1) := by decide +kernel
theorem d_R_plan_65 : decode M_R_plan.2.1 65 = .ok (.aload_n 0, 1) := by decide +kernel
theorem d_R_plan_66 : decode M_R_plan.2.1 66 = .ok (.aload_n 0, 1) := by decide +kernel
theorem d_R_plan_67 : decode M_R_plan.2.1 67 = .ok (.getfield 301, 3) := by decide +kernel
theorem d_R_plan_70 : decode M_R_plan.2.1 70 = .ok (.putfield 341, 3) := by decide +kernel
theorem d_R_plan_73 : decode M_R_plan.2.1 73 = .ok (.iconst 0, 1) := by decide +kernel
theorem d_R_plan_74 : decode M_R_plan.2.1 74 = .ok (.istore_n 1, 1) := by decide +kernel
theorem d_R_plan_75 : decode M_R_plan.2.1 75 = .ok (.iload_n 1, 1) := by decide +kernel
theorem d_R_plan_76 : decode M_R_plan.2.1 76 = .ok (.aload_n 0, 1) := by decide +kernel
theorem d_R_plan_77 : decode M_R_plan.2.1 77 = .ok (.getfield 301, 3) := by decide +kernel
theorem d_R_plan_80 : decode M_R_plan.2.1 80 = .ok (.if_icmp .ge 33, 3) := by decide +kernel
theorem d_R_plan_83 : decode M_R_plan.2.1 83 = .ok (.aload_n 0, 1) := by decide +kernel
theorem d_R_plan_84 : decode M_R_plan.2.1 84 = .ok (.getfield 62, 3) := by decide +kernel
theorem d_R_plan_87 : decode M_R_plan.2.1 87 = .ok (.iload_n 1, 1) := by decide +kernel
theorem d_R_plan_88 : decode M_R_plan.2.1 88 = .ok (.aload_n 0, 1) := by decide +kernel
theorem d_R_plan_89 : decode M_R_plan.2.1 89 = .ok (.getfield 124, 3) := by decide +kernel
theorem d_R_plan_92 : decode M_R_plan.2.1 92 = .ok (.iload_n 1, 1) := by decide +kernel
theorem d_R_plan_93 : decode M_R_plan.2.1 93 = .ok (.iaload, 1) := by decide +kernel
theorem d_R_plan_94 : decode M_R_plan.2.1 94 = .ok (.iastore, 1) := by decide +kernel
theorem d_R_plan_95 : decode M_R_plan.2.1 95 = .ok (.aload_n 0, 1) := by decide +kernel
theorem d_R_plan_96 : decode M_R_plan.2.1 96 = .ok (.getfield 65, 3) := by decide +kernel
theorem d_R_plan_99 : decode M_R_plan.2.1 99 = .ok (.iload_n 1, 1) := by decide +kernel
theorem d_R_plan_100 : decode M_R_plan.2.1 100 = .ok (.aload_n 0, 1) := by decide +kernel
theorem d_R_plan_101 : decode M_R_plan.2.1 101 = .ok (.getfield 130, 3) := by decide +kernel
theorem d_R_plan_104 : decode M_R_plan.2.1 104 = .ok (.iload_n 1, 1) := by decide +kernel
theorem d_R_plan_105 : decode M_R_plan.2.1 105 = .ok (.iaload, 1) := by decide +kernel
theorem d_R_plan_106 : decode M_R_plan.2.1 106 = .ok (.iastore, 1) := by decide +kernel
theorem d_R_plan_107 : decode M_R_plan.2.1 107 = .ok (.iinc 1 1, 3) := by decide +kernel
theorem d_R_plan_110 : decode M_R_plan.2.1 110 = .ok (.goto (-35), 3) := by decide +kernel
theorem d_R_plan_113 : decode M_R_plan.2.1 113 = .ok (.aload_n 0, 1) := by decide +kernel
theorem d_R_plan_114 : decode M_R_plan.2.1 114 = .ok (.getfield 328, 3) := by decide +kernel
theorem d_R_plan_117 : decode M_R_plan.2.1 117 = .ok (.ireturn, 1) := by decide +kernel
theorem d_R_tries_0 : decode M_R_tries.2.1 0 = .ok (.aload_n 0, 1) := by decide +kernel
theorem d_R_tries_1 : decode M_R_tries.2.1 1 = .ok (.getfield 328, 3) := by decide +kernel
theorem d_R_tries_4 : decode M_R_tries.2.1 4 = .ok (.ifCond .lt 18, 3) := by decide +kernel
theorem d_R_tries_7 : decode M_R_tries.2.1 7 = .ok (.aload_n 0, 1) := by decide +kernel
theorem d_R_tries_8 : decode M_R_tries.2.1 8 = .ok (.iload_n 1, 1) := by decide +kernel
theorem d_R_tries_9 : decode M_R_tries.2.1 9 = .ok (.iconst 1, 1) := by decide +kernel
theorem d_R_tries_10 : decode M_R_tries.2.1 10 = .ok (.isub, 1) := by decide +kernel
theorem d_R_tries_11 : decode M_R_tries.2.1 11 = .ok (.invokevirtual 331, 3) := by decide +kernel
theorem d_R_tries_14 : decode M_R_tries.2.1 14 = .ok (.aload_n 0, 1) := by decide +kernel
theorem d_R_tries_15 : decode M_R_tries.2.1 15 = .ok (.getfield 328, 3) := by decide +kernel
theorem d_R_tries_18 : decode M_R_tries.2.1 18 = .ok (.if_icmp .lt 4, 3) := by decide +kernel
theorem d_R_tries_21 : decode M_R_tries.2.1 21 = .ok (.return_, 1) := by decide +kernel
theorem d_R_tries_22 : decode M_R_tries.2.1 22 = .ok (.iload_n 1, 1) := by decide +kernel
theorem d_R_tries_23 : decode M_R_tries.2.1 23 = .ok (.aload_n 0, 1) := by decide +kernel
theorem d_R_tries_24 : decode M_R_tries.2.1 24 = .ok (.getfield 301, 3) := by decide +kernel
theorem d_R_tries_27 : decode M_R_tries.2.1 27 = .ok (.if_icmp .ne 40, 3) := by decide +kernel
theorem d_R_tries_30 : decode M_R_tries.2.1 30 = .ok (.aload_n 0, 1) := by decide +kernel
theorem d_R_tries_31 : decode M_R_tries.2.1 31 = .ok (.aload_n 0, 1) := by decide +kernel
theorem d_R_tries_32 : decode M_R_tries.2.1 32 = .ok (.iload_n 1, 1) := by decide +kernel
theorem d_R_tries_33 : decode M_R_tries.2.1 33 = .ok (.iconst 1, 1) := by decide +kernel
theorem d_R_tries_34 : decode M_R_tries.2.1 34 = .ok (.isub, 1) := by decide +kernel
theorem d_R_tries_35 : decode M_R_tries.2.1 35 = .ok (.invokevirtual 331, 3) := by decide +kernel
theorem d_R_tries_38 : decode M_R_tries.2.1 38 = .ok (.putfield 328, 3) := by decide +kernel
theorem d_R_tries_41 : decode M_R_tries.2.1 41 = .ok (.iconst 0, 1) := by decide +kernel
theorem d_R_tries_42 : decode M_R_tries.2.1 42 = .ok (.istore_n 2, 1) := by decide +kernel
theorem d_R_tries_43 : decode M_R_tries.2.1 43 = .ok (.iload_n 2, 1) := by decide +kernel
theorem d_R_tries_44 : decode M_R_tries.2.1 44 = .ok (.iload_n 1, 1) := by decide +kernel
theorem d_R_tries_45 : decode M_R_tries.2.1 45 = .ok (.if_icmp .ge 21, 3) := by decide +kernel
theorem d_R_tries_48 : decode M_R_tries.2.1 48 = .ok (.aload_n 0, 1) := by decide +kernel
theorem d_R_tries_49 : decode M_R_tries.2.1 49 = .ok (.getfield 130, 3) := by decide +kernel
theorem d_R_tries_52 : decode M_R_tries.2.1 52 = .ok (.iload_n 2, 1) := by decide +kernel
theorem d_R_tries_53 : decode M_R_tries.2.1 53 = .ok (.aload_n 0, 1) := by decide +kernel
theorem d_R_tries_54 : decode M_R_tries.2.1 54 = .ok (.getfield 127, 3) := by decide +kernel
theorem d_R_tries_57 : decode M_R_tries.2.1 57 = .ok (.iload_n 2, 1) := by decide +kernel
theorem d_R_tries_58 : decode M_R_tries.2.1 58 = .ok (.iaload, 1) := by decide +kernel
theorem d_R_tries_59 : decode M_R_tries.2.1 59 = .ok (.iastore, 1) := by decide +kernel
theorem d_R_tries_60 : decode M_R_tries.2.1 60 = .ok (.iinc 2 1, 3) := by decide +kernel
theorem d_R_tries_63 : decode M_R_tries.2.1 63 = .ok (.goto (-20), 3) := by decide +kernel
theorem d_R_tries_66 : decode M_R_tries.2.1 66 = .ok (.return_, 1) := by decide +kernel
theorem d_R_tries_67 : decode M_R_tries.2.1 67 = .ok (.iconst 0, 1) := by decide +kernel
theorem d_R_tries_68 : decode M_R_tries.2.1 68 = .ok (.istore_n 2, 1) := by decide +kernel
theorem d_R_tries_69 : decode M_R_tries.2.1 69 = .ok (.iload_n 2, 1) := by decide +kernel
theorem d_R_tries_70 : decode M_R_tries.2.1 70 = .ok (.aload_n 0, 1) := by decide +kernel
theorem d_R_tries_71 : decode M_R_tries.2.1 71 = .ok (.getfield 313, 3) := by decide +kernel
theorem d_R_tries_74 : decode M_R_tries.2.1 74 = .ok (.if_icmp .ge 31, 3) := by decide +kernel
theorem d_R_tries_77 : decode M_R_tries.2.1 77 = .ok (.aload_n 0, 1) := by decide +kernel
theorem d_R_tries_78 : decode M_R_tries.2.1 78 = .ok (.getfield 127, 3) := by decide +kernel
theorem d_R_tries_81 : decode M_R_tries.2.1 81 = .ok (.iload_n 1, 1) := by decide +kernel
theorem d_R_tries_82 : decode M_R_tries.2.1 82 = .ok (.iload_n 2, 1) := by decide +kernel
theorem d_R_tries_83 : decode M_R_tries.2.1 83 = .ok (.iastore, 1) := by decide +kernel
theorem d_R_tries_84 : decode M_R_tries.2.1 84 = .ok (.aload_n 0, 1) := by decide +kernel
theorem d_R_tries_85 : decode M_R_tries.2.1 85 = .ok (.iload_n 1, 1) := by decide +kernel
theorem d_R_tries_86 : decode M_R_tries.2.1 86 = .ok (.invokevirtual 334, 3) := by decide +kernel
theorem d_R_tries_89 : decode M_R_tries.2.1 89 = .ok (.ifCond .eq 10, 3) := by decide +kernel
theorem d_R_tries_92 : decode M_R_tries.2.1 92 = .ok (.aload_n 0, 1) := by decide +kernel
theorem d_R_tries_93 : decode M_R_tries.2.1 93 = .ok (.iload_n 1, 1) := by decide +kernel
theorem d_R_tries_94 : decode M_R_tries.2.1 94 = .ok (.iconst 1, 1) := by decide +kernel
theorem d_R_tries_95 : decode M_R_tries.2.1 95 = .ok (.iadd, 1) := by decide +kernel
theorem d_R_tries_96 : decode M_R_tries.2.1 96 = .ok (.invokevirtual 337, 3) := by decide +kernel
theorem d_R_tries_99 : decode M_R_tries.2.1 99 = .ok (.iinc 2 1, 3) := by decide +kernel
theorem d_R_tries_102 : decode M_R_tries.2.1 102 = .ok (.goto (-33), 3) := by decide +kernel
theorem d_R_tries_105 : decode M_R_tries.2.1 105 = .ok (.return_, 1) := by decide +kernel
theorem d_R_cost_0 : decode M_R_cost.2.1 0 = .ok (.iconst 0, 1) := by decide +kernel
theorem d_R_cost_1 : decode M_R_cost.2.1 1 = .ok (.istore_n 2, 1) := by decide +kernel
theorem d_R_cost_2 : decode M_R_cost.2.1 2 = .ok (.iconst 0, 1) := by decide +kernel
theorem d_R_cost_3 : decode M_R_cost.2.1 3 = .ok (.istore_n 3, 1) := by decide +kernel
theorem d_R_cost_4 : decode M_R_cost.2.1 4 = .ok (.iload_n 3, 1) := by decide +kernel
theorem d_R_cost_5 : decode M_R_cost.2.1 5 = .ok (.aload_n 0, 1) := by decide +kernel
theorem d_R_cost_6 : decode M_R_cost.2.1 6 = .ok (.getfield 313, 3) := by decide +kernel
theorem d_R_cost_9 : decode M_R_cost.2.1 9 = .ok (.if_icmp .ge 71, 3) := by decide +kernel
theorem d_R_cost_12 : decode M_R_cost.2.1 12 = .ok (.iconst 0, 1) := by decide +kernel
theorem d_R_cost_13 : decode M_R_cost.2.1 13 = .ok (.istore 4, 2) := by decide +kernel
theorem d_R_cost_15 : decode M_R_cost.2.1 15 = .ok (.iconst 0, 1) := by decide +kernel
theorem d_R_cost_16 : decode M_R_cost.2.1 16 = .ok (.istore 5, 2) := by decide +kernel
theorem d_R_cost_18 : decode M_R_cost.2.1 18 = .ok (.iload 5, 2) := by decide +kernel
theorem d_R_cost_20 : decode M_R_cost.2.1 20 = .ok (.iload_n 1, 1) := by decide +kernel
theorem d_R_cost_21 : decode M_R_cost.2.1 21 = .ok (.if_icmp .gt 45, 3) := by decide +kernel
theorem d_R_cost_24 : decode M_R_cost.2.1 24 = .ok (.iload 4, 2) := by decide +kernel
theorem d_R_cost_26 : decode M_R_cost.2.1 26 = .ok (.aload_n 0, 1) := by decide +kernel
theorem d_R_cost_27 : decode M_R_cost.2.1 27 = .ok (.getfield 127, 3) := by decide +kernel
theorem d_R_cost_30 : decode M_R_cost.2.1 30 = .ok (.iload 5, 2) := by decide +kernel
theorem d_R_cost_32 : decode M_R_cost.2.1 32 = .ok (.iaload, 1) := by decide +kernel
theorem d_R_cost_33 : decode M_R_cost.2.1 33 = .ok (.iload_n 3, 1) := by decide +kernel
theorem d_R_cost_34 : decode M_R_cost.2.1 34 = .ok (.if_icmp .ne 22, 3) := by decide +kernel
theorem d_R_cost_37 : decode M_R_cost.2.1 37 = .ok (.aload_n 0, 1) := by decide +kernel
theorem d_R_cost_38 : decode M_R_cost.2.1 38 = .ok (.getfield 9, 3) := by decide +kernel
theorem d_R_cost_41 : decode M_R_cost.2.1 41 = .ok (.aload_n 0, 1) := by decide +kernel
theorem d_R_cost_42 : decode M_R_cost.2.1 42 = .ok (.getfield 124, 3) := by decide +kernel
theorem d_R_cost_45 : decode M_R_cost.2.1 45 = .ok (.iload 5, 2) := by decide +kernel
theorem d_R_cost_47 : decode M_R_cost.2.1 47 = .ok (.iaload, 1) := by decide +kernel
theorem d_R_cost_48 : decode M_R_cost.2.1 48 = .ok (.iconst 3, 1) := by decide +kernel
theorem d_R_cost_49 : decode M_R_cost.2.1 49 = .ok (.invokestatic 180, 3) := by decide +kernel
theorem d_R_cost_52 : decode M_R_cost.2.1 52 = .ok (.iaload, 1) := by decide +kernel
theorem d_R_cost_53 : decode M_R_cost.2.1 53 = .ok (.goto 4, 3) := by decide +kernel
theorem d_R_cost_56 : decode M_R_cost.2.1 56 = .ok (.iconst 0, 1) := by decide +kernel
theorem d_R_cost_57 : decode M_R_cost.2.1 57 = .ok (.ior, 1) := by decide +kernel
theorem d_R_cost_58 : decode M_R_cost.2.1 58 = .ok (.istore 4, 2) := by decide +kernel
theorem d_R_cost_60 : decode M_R_cost.2.1 60 = .ok (.iinc 5 1, 3) := by decide +kernel
theorem d_R_cost_63 : decode M_R_cost.2.1 63 = .ok (.goto (-45), 3) := by decide +kernel
theorem d_R_cost_66 : decode M_R_cost.2.1 66 = .ok (.iload_n 2, 1) := by decide +kernel
theorem d_R_cost_67 : decode M_R_cost.2.1 67 = .ok (.iload 4, 2) := by decide +kernel
theorem d_R_cost_69 : decode M_R_cost.2.1 69 = .ok (.invokestatic 325, 3) := by decide +kernel
theorem d_R_cost_72 : decode M_R_cost.2.1 72 = .ok (.iadd, 1) := by decide +kernel
theorem d_R_cost_73 : decode M_R_cost.2.1 73 = .ok (.istore_n 2, 1) := by decide +kernel
theorem d_R_cost_74 : decode M_R_cost.2.1 74 = .ok (.iinc 3 1, 3) := by decide +kernel
theorem d_R_cost_77 : decode M_R_cost.2.1 77 = .ok (.goto (-73), 3) := by decide +kernel
theorem d_R_cost_80 : decode M_R_cost.2.1 80 = .ok (.iload_n 2, 1) := by decide +kernel
theorem d_R_cost_81 : decode M_R_cost.2.1 81 = .ok (.ireturn, 1) := by decide +kernel
theorem d_R_bits_0 : decode M_R_bits.2.1 0 = .ok (.iconst 0, 1) := by decide +kernel
theorem d_R_bits_1 : decode M_R_bits.2.1 1 = .ok (.istore_n 1, 1) := by decide +kernel
theorem d_R_bits_2 : decode M_R_bits.2.1 2 = .ok (.iload_n 0, 1) := by decide +kernel
theorem d_R_bits_3 : decode M_R_bits.2.1 3 = .ok (.istore_n 2, 1) := by decide +kernel
theorem d_R_bits_4 : decode M_R_bits.2.1 4 = .ok (.iload_n 2, 1) := by decide +kernel
theorem d_R_bits_5 : decode M_R_bits.2.1 5 = .ok (.ifCond .eq 15, 3) := by decide +kernel
theorem d_R_bits_8 : decode M_R_bits.2.1 8 = .ok (.iinc 1 1, 3) := by decide +kernel
theorem d_R_bits_11 : decode M_R_bits.2.1 11 = .ok (.iload_n 2, 1) := by decide +kernel
theorem d_R_bits_12 : decode M_R_bits.2.1 12 = .ok (.iload_n 2, 1) := by decide +kernel
theorem d_R_bits_13 : decode M_R_bits.2.1 13 = .ok (.iconst 1, 1) := by decide +kernel
theorem d_R_bits_14 : decode M_R_bits.2.1 14 = .ok (.isub, 1) := by decide +kernel
theorem d_R_bits_15 : decode M_R_bits.2.1 15 = .ok (.iand, 1) := by decide +kernel
theorem d_R_bits_16 : decode M_R_bits.2.1 16 = .ok (.istore_n 2, 1) := by decide +kernel
theorem d_R_bits_17 : decode M_R_bits.2.1 17 = .ok (.goto (-13), 3) := by decide +kernel
theorem d_R_bits_20 : decode M_R_bits.2.1 20 = .ok (.iload_n 1, 1) := by decide +kernel
theorem d_R_bits_21 : decode M_R_bits.2.1 21 = .ok (.ireturn, 1) := by decide +kernel
theorem d_R_areWell_0 : decode M_R_areWell.2.1 0 = .ok (.aload_n 0, 1) := by decide +kernel
theorem d_R_areWell_1 : decode M_R_areWell.2.1 1 = .ok (.getfield 124, 3) := by decide +kernel
theorem d_R_areWell_4 : decode M_R_areWell.2.1 4 = .ok (.iload_n 1, 1) := by decide +kernel
theorem d_R_areWell_5 : decode M_R_areWell.2.1 5 = .ok (.iaload, 1) := by decide +kernel
theorem d_R_areWell_6 : decode M_R_areWell.2.1 6 = .ok (.istore_n 2, 1) := by decide +kernel
theorem d_R_areWell_7 : decode M_R_areWell.2.1 7 = .ok (.aload_n 0, 1) := by decide +kernel
theorem d_R_areWell_8 : decode M_R_areWell.2.1 8 = .ok (.getfield 127, 3) := by decide +kernel
theorem d_R_areWell_11 : decode M_R_areWell.2.1 11 = .ok (.iload_n 1, 1) := by decide +kernel
theorem d_R_areWell_12 : decode M_R_areWell.2.1 12 = .ok (.iaload, 1) := by decide +kernel
theorem d_R_areWell_13 : decode M_R_areWell.2.1 13 = .ok (.iconst 0, 1) := by decide +kernel
theorem d_R_areWell_14 : decode M_R_areWell.2.1 14 = .ok (.aload_n 0, 1) := by decide +kernel
theorem d_R_areWell_15 : decode M_R_areWell.2.1 15 = .ok (.getfield 313, 3) := by decide +kernel
theorem d_R_areWell_18 : decode M_R_areWell.2.1 18 = .ok (.iconst 1, 1) := by decide +kernel
theorem d_R_areWell_19 : decode M_R_areWell.2.1 19 = .ok (.isub, 1) := by decide +kernel
theorem d_R_areWell_20 : decode M_R_areWell.2.1 20 = .ok (.invokestatic 153, 3) := by decide +kernel
theorem d_R_areWell_23 : decode M_R_areWell.2.1 23 = .ok (.ifCond .eq 28, 3) := by decide +kernel
theorem d_R_areWell_26 : decode M_R_areWell.2.1 26 = .ok (.aload_n 0, 1) := by decide +kernel
theorem d_R_areWell_27 : decode M_R_areWell.2.1 27 = .ok (.getfield 9, 3) := by decide +kernel
theorem d_R_areWell_30 : decode M_R_areWell.2.1 30 = .ok (.iload_n 2, 1) := by decide +kernel
theorem d_R_areWell_31 : decode M_R_areWell.2.1 31 = .ok (.iconst 3, 1) := by decide +kernel
theorem d_R_areWell_32 : decode M_R_areWell.2.1 32 = .ok (.invokestatic 180, 3) := by decide +kernel
theorem d_R_areWell_35 : decode M_R_areWell.2.1 35 = .ok (.iaload, 1) := by decide +kernel
theorem d_R_areWell_36 : decode M_R_areWell.2.1 36 = .ok (.aload_n 0, 1) := by decide +kernel
theorem d_R_areWell_37 : decode M_R_areWell.2.1 37 = .ok (.getfield 53, 3) := by decide +kernel
theorem d_R_areWell_40 : decode M_R_areWell.2.1 40 = .ok (.aload_n 0, 1) := by decide +kernel
theorem d_R_areWell_41 : decode M_R_areWell.2.1 41 = .ok (.getfield 127, 3) := by decide +kernel
theorem d_R_areWell_44 : decode M_R_areWell.2.1 44 = .ok (.iload_n 1, 1) := by decide +kernel
theorem d_R_areWell_45 : decode M_R_areWell.2.1 45 = .ok (.iaload, 1) := by decide +kernel
theorem d_R_areWell_46 : decode M_R_areWell.2.1 46 = .ok (.iaload, 1) := by decide +kernel
theorem d_R_areWell_47 : decode M_R_areWell.2.1 47 = .ok (.iand, 1) := by decide +kernel
theorem d_R_areWell_48 : decode M_R_areWell.2.1 48 = .ok (.ifCond .eq 5, 3) := by decide +kernel
theorem d_R_areWell_51 : decode M_R_areWell.2.1 51 = .ok (.iconst 0, 1) := by decide +kernel
theorem d_R_areWell_52 : decode M_R_areWell.2.1 52 = .ok (.ireturn, 1) := by decide +kernel
theorem d_R_areWell_53 : decode M_R_areWell.2.1 53 = .ok (.iconst 0, 1) := by decide +kernel
theorem d_R_areWell_54 : decode M_R_areWell.2.1 54 = .ok (.istore_n 3, 1) := by decide +kernel
theorem d_R_areWell_55 : decode M_R_areWell.2.1 55 = .ok (.iconst 0, 1) := by decide +kernel
theorem d_R_areWell_56 : decode M_R_areWell.2.1 56 = .ok (.istore 4, 2) := by decide +kernel
theorem d_R_areWell_58 : decode M_R_areWell.2.1 58 = .ok (.iload 4, 2) := by decide +kernel
theorem d_R_areWell_60 : decode M_R_areWell.2.1 60 = .ok (.iload_n 1, 1) := by decide +kernel
theorem d_R_areWell_61 : decode M_R_areWell.2.1 61 = .ok (.if_icmp .gt 48, 3) := by decide +kernel
theorem d_R_areWell_64 : decode M_R_areWell.2.1 64 = .ok (.iload_n 3, 1) := by decide +kernel
theorem d_R_areWell_65 : decode M_R_areWell.2.1 65 = .ok (.aload_n 0, 1) := by decide +kernel
theorem d_R_areWell_66 : decode M_R_areWell.2.1 66 = .ok (.getfield 127, 3) := by decide +kernel
theorem d_R_areWell_69 : decode M_R_areWell.2.1 69 = .ok (.iload 4, 2) := by decide +kernel
theorem d_R_areWell_71 : decode M_R_areWell.2.1 71 = .ok (.iaload, 1) := by decide +kernel
theorem d_R_areWell_72 : decode M_R_areWell.2.1 72 = .ok (.aload_n 0, 1) := by decide +kernel
theorem d_R_areWell_73 : decode M_R_areWell.2.1 73 = .ok (.getfield 127, 3) := by decide +kernel
theorem d_R_areWell_76 : decode M_R_areWell.2.1 76 = .ok (.iload_n 1, 1) := by decide +kernel
theorem d_R_areWell_77 : decode M_R_areWell.2.1 77 = .ok (.iaload, 1) := by decide +kernel
theorem d_R_areWell_78 : decode M_R_areWell.2.1 78 = .ok (.if_icmp .ne 22, 3) := by decide +kernel
theorem d_R_areWell_81 : decode M_R_areWell.2.1 81 = .ok (.aload_n 0, 1) := by decide +kernel
theorem d_R_areWell_82 : decode M_R_areWell.2.1 82 = .ok (.getfield 9, 3) := by decide +kernel
theorem d_R_areWell_85 : decode M_R_areWell.2.1 85 = .ok (.aload_n 0, 1) := by decide +kernel
theorem d_R_areWell_86 : decode M_R_areWell.2.1 86 = .ok (.getfield 124, 3) := by decide +kernel
theorem d_R_areWell_89 : decode M_R_areWell.2.1 89 = .ok (.iload 4, 2) := by decide +kernel
theorem d_R_areWell_91 : decode M_R_areWell.2.1 91 = .ok (.iaload, 1) := by decide +kernel
theorem d_R_areWell_92 : decode M_R_areWell.2.1 92 = .ok (.iconst 2, 1) := by decide +kernel
theorem d_R_areWell_93 : decode M_R_areWell.2.1 93 = .ok (.invokestatic 180, 3) := by decide +kernel
theorem d_R_areWell_96 : decode M_R_areWell.2.1 96 = .ok (.iaload, 1) := by decide +kernel
theorem d_R_areWell_97 : decode M_R_areWell.2.1 97 = .ok (.goto 4, 3) := by decide +kernel
theorem d_R_areWell_100 : decode M_R_areWell.2.1 100 = .ok (.iconst 0, 1) := by decide +kernel
theorem d_R_areWell_101 : decode M_R_areWell.2.1 101 = .ok (.iadd, 1) := by decide +kernel
theorem d_R_areWell_102 : decode M_R_areWell.2.1 102 = .ok (.istore_n 3, 1) := by decide +kernel
theorem d_R_areWell_103 : decode M_R_areWell.2.1 103 = .ok (.iinc 4 1, 3) := by decide +kernel
theorem d_R_areWell_106 : decode M_R_areWell.2.1 106 = .ok (.goto (-48), 3) := by decide +kernel
theorem d_R_areWell_109 : decode M_R_areWell.2.1 109 = .ok (.iload_n 3, 1) := by decide +kernel
theorem d_R_areWell_110 : decode M_R_areWell.2.1 110 = .ok (.aload_n 0, 1) := by decide +kernel
theorem d_R_areWell_111 : decode M_R_areWell.2.1 111 = .ok (.getfield 316, 3) := by decide +kernel
theorem d_R_areWell_114 : decode M_R_areWell.2.1 114 = .ok (.if_icmp .le 5, 3) := by decide +kernel
theorem d_R_areWell_117 : decode M_R_areWell.2.1 117 = .ok (.iconst 0, 1) := by decide +kernel
theorem d_R_areWell_118 : decode M_R_areWell.2.1 118 = .ok (.ireturn, 1) := by decide +kernel
theorem d_R_areWell_119 : decode M_R_areWell.2.1 119 = .ok (.iconst 0, 1) := by decide +kernel
theorem d_R_areWell_120 : decode M_R_areWell.2.1 120 = .ok (.istore 4, 2) := by decide +kernel
theorem d_R_areWell_122 : decode M_R_areWell.2.1 122 = .ok (.iload 4, 2) := by decide +kernel
theorem d_R_areWell_124 : decode M_R_areWell.2.1 124 = .ok (.iload_n 1, 1) := by decide +kernel
theorem d_R_areWell_125 : decode M_R_areWell.2.1 125 = .ok (.if_icmp .ge 162, 3) := by decide +kernel
theorem d_R_areWell_128 : decode M_R_areWell.2.1 128 = .ok (.aload_n 0, 1) := by decide +kernel
theorem d_R_areWell_129 : decode M_R_areWell.2.1 129 = .ok (.getfield 127, 3) := by decide +kernel
theorem d_R_areWell_132 : decode M_R_areWell.2.1 132 = .ok (.iload 4, 2) := by decide +kernel
theorem d_R_areWell_134 : decode M_R_areWell.2.1 134 = .ok (.iaload, 1) := by decide +kernel
theorem d_R_areWell_135 : decode M_R_areWell.2.1 135 = .ok (.aload_n 0, 1) := by decide +kernel
theorem d_R_areWell_136 : decode M_R_areWell.2.1 136 = .ok (.getfield 127, 3) := by decide +kernel
theorem d_R_areWell_139 : decode M_R_areWell.2.1 139 = .ok (.iload_n 1, 1) := by decide +kernel
theorem d_R_areWell_140 : decode M_R_areWell.2.1 140 = .ok (.iaload, 1) := by decide +kernel
theorem d_R_areWell_141 : decode M_R_areWell.2.1 141 = .ok (.isub, 1) := by decide +kernel
theorem d_R_areWell_142 : decode M_R_areWell.2.1 142 = .ok (.istore 5, 2) := by decide +kernel
theorem d_R_areWell_144 : decode M_R_areWell.2.1 144 = .ok (.aload_n 0, 1) := by decide +kernel
theorem d_R_areWell_145 : decode M_R_areWell.2.1 145 = .ok (.getfield 9, 3) := by decide +kernel
theorem d_R_areWell_148 : decode M_R_areWell.2.1 148 = .ok (.aload_n 0, 1) := by decide +kernel
theorem d_R_areWell_149 : decode M_R_areWell.2.1 149 = .ok (.getfield 124, 3) := by decide +kernel
theorem d_R_areWell_152 : decode M_R_areWell.2.1 152 = .ok (.iload 4, 2) := by decide +kernel
theorem d_R_areWell_154 : decode M_R_areWell.2.1 154 = .ok (.iaload, 1) := by decide +kernel
theorem d_R_areWell_155 : decode M_R_areWell.2.1 155 = .ok (.iconst 1, 1) := by decide +kernel
theorem d_R_areWell_156 : decode M_R_areWell.2.1 156 = .ok (.invokestatic 180, 3) := by decide +kernel
theorem d_R_areWell_159 : decode M_R_areWell.2.1 159 = .ok (.iaload, 1) := by decide +kernel
theorem d_R_areWell_160 : decode M_R_areWell.2.1 160 = .ok (.aload_n 0, 1) := by decide +kernel
theorem d_R_areWell_161 : decode M_R_areWell.2.1 161 = .ok (.getfield 9, 3) := by decide +kernel
theorem d_R_areWell_164 : decode M_R_areWell.2.1 164 = .ok (.iload_n 2, 1) := by decide +kernel
theorem d_R_areWell_165 : decode M_R_areWell.2.1 165 = .ok (.iconst 1, 1) := by decide +kernel
theorem d_R_areWell_166 : decode M_R_areWell.2.1 166 = .ok (.invokestatic 180, 3) := by decide +kernel
theorem d_R_areWell_169 : decode M_R_areWell.2.1 169 = .ok (.iaload, 1) := by decide +kernel
theorem d_R_areWell_170 : decode M_R_areWell.2.1 170 = .ok (.if_icmp .ne 15, 3) := by decide +kernel
theorem d_R_areWell_173 : decode M_R_areWell.2.1 173 = .ok (.iload 5, 2) := by decide +kernel
theorem d_R_areWell_175 : decode M_R_areWell.2.1 175 = .ok (.iconst (-1), 1) := by decide +kernel
theorem d_R_areWell_176 : decode M_R_areWell.2.1 176 = .ok (.iconst 1, 1) := by decide +kernel
theorem d_R_areWell_177 : decode M_R_areWell.2.1 177 = .ok (.invokestatic 153, 3) := by decide +kernel
theorem d_R_areWell_180 : decode M_R_areWell.2.1 180 = .ok (.ifCond .ne 5, 3) := by decide +kernel
theorem d_R_areWell_183 : decode M_R_areWell.2.1 183 = .ok (.iconst 0, 1) := by decide +kernel
theorem d_R_areWell_184 : decode M_R_areWell.2.1 184 = .ok (.ireturn, 1) := by decide +kernel
theorem d_R_areWell_185 : decode M_R_areWell.2.1 185 = .ok (.aload_n 0, 1) := by decide +kernel
theorem d_R_areWell_186 : decode M_R_areWell.2.1 186 = .ok (.getfield 9, 3) := by decide +kernel
theorem d_R_areWell_189 : decode M_R_areWell.2.1 189 = .ok (.aload_n 0, 1) := by decide +kernel
theorem d_R_areWell_190 : decode M_R_areWell.2.1 190 = .ok (.getfield 124, 3) := by decide +kernel
theorem d_R_areWell_193 : decode M_R_areWell.2.1 193 = .ok (.iload 4, 2) := by decide +kernel
theorem d_R_areWell_195 : decode M_R_areWell.2.1 195 = .ok (.iaload, 1) := by decide +kernel
theorem d_R_areWell_196 : decode M_R_areWell.2.1 196 = .ok (.iconst 3, 1) := by decide +kernel
theorem d_R_areWell_197 : decode M_R_areWell.2.1 197 = .ok (.invokestatic 180, 3) := by decide +kernel
theorem d_R_areWell_200 : decode M_R_areWell.2.1 200 = .ok (.iaload, 1) := by decide +kernel
theorem d_R_areWell_201 : decode M_R_areWell.2.1 201 = .ok (.aload_n 0, 1) := by decide +kernel
theorem d_R_areWell_202 : decode M_R_areWell.2.1 202 = .ok (.getfield 9, 3) := by decide +kernel
theorem d_R_areWell_205 : decode M_R_areWell.2.1 205 = .ok (.iload_n 2, 1) := by decide +kernel
theorem d_R_areWell_206 : decode M_R_areWell.2.1 206 = .ok (.iconst 3, 1) := by decide +kernel
theorem d_R_areWell_207 : decode M_R_areWell.2.1 207 = .ok (.invokestatic 180, 3) := by decide +kernel
theorem d_R_areWell_210 : decode M_R_areWell.2.1 210 = .ok (.iaload, 1) := by decide +kernel
theorem d_R_areWell_211 : decode M_R_areWell.2.1 211 = .ok (.iand, 1) := by decide +kernel
theorem d_R_areWell_212 : decode M_R_areWell.2.1 212 = .ok (.istore 6, 2) := by decide +kernel
theorem d_R_areWell_214 : decode M_R_areWell.2.1 214 = .ok (.iconst 0, 1) := by decide +kernel
theorem d_R_areWell_215 : decode M_R_areWell.2.1 215 = .ok (.istore 7, 2) := by decide +kernel
theorem d_R_areWell_217 : decode M_R_areWell.2.1 217 = .ok (.iload 7, 2) := by decide +kernel
theorem d_R_areWell_219 : decode M_R_areWell.2.1 219 = .ok (.bipush 12, 2) := by decide +kernel
theorem d_R_areWell_221 : decode M_R_areWell.2.1 221 = .ok (.if_icmp .ge 60, 3) := by decide +kernel
theorem d_R_areWell_224 : decode M_R_areWell.2.1 224 = .ok (.iload 6, 2) := by decide +kernel
theorem d_R_areWell_226 : decode M_R_areWell.2.1 226 = .ok (.iload 7, 2) := by decide +kernel
theorem d_R_areWell_228 : decode M_R_areWell.2.1 228 = .ok (.ishr, 1) := by decide +kernel
theorem d_R_areWell_229 : decode M_R_areWell.2.1 229 = .ok (.iconst 1, 1) := by decide +kernel
theorem d_R_areWell_230 : decode M_R_areWell.2.1 230 = .ok (.iand, 1) := by decide +kernel
theorem d_R_areWell_231 : decode M_R_areWell.2.1 231 = .ok (.iconst 1, 1) := by decide +kernel
theorem d_R_areWell_232 : decode M_R_areWell.2.1 232 = .ok (.if_icmp .ne 43, 3) := by decide +kernel
theorem d_R_areWell_235 : decode M_R_areWell.2.1 235 = .ok (.aload_n 0, 1) := by decide +kernel
theorem d_R_areWell_236 : decode M_R_areWell.2.1 236 = .ok (.getfield 89, 3) := by decide +kernel
theorem d_R_areWell_239 : decode M_R_areWell.2.1 239 = .ok (.bipush 12, 2) := by decide +kernel
theorem d_R_areWell_241 : decode M_R_areWell.2.1 241 = .ok (.aload_n 0, 1) := by decide +kernel
theorem d_R_areWell_242 : decode M_R_areWell.2.1 242 = .ok (.getfield 124, 3) := by decide +kernel
theorem d_R_areWell_245 : decode M_R_areWell.2.1 245 = .ok (.iload 4, 2) := by decide +kernel
theorem d_R_areWell_247 : decode M_R_areWell.2.1 247 = .ok (.iaload, 1) := by decide +kernel
theorem d_R_areWell_248 : decode M_R_areWell.2.1 248 = .ok (.imul, 1) := by decide +kernel
theorem d_R_areWell_249 : decode M_R_areWell.2.1 249 = .ok (.iload 7, 2) := by decide +kernel
theorem d_R_areWell_251 : decode M_R_areWell.2.1 251 = .ok (.iadd, 1) := by decide +kernel
theorem d_R_areWell_252 : decode M_R_areWell.2.1 252 = .ok (.iaload, 1) := by decide +kernel
theorem d_R_areWell_253 : decode M_R_areWell.2.1 253 = .ok (.aload_n 0, 1) := by decide +kernel
theorem d_R_areWell_254 : decode M_R_areWell.2.1 254 = .ok (.getfield 89, 3) := by decide +kernel
theorem d_R_areWell_257 : decode M_R_areWell.2.1 257 = .ok (.bipush 12, 2) := by decide +kernel
theorem d_R_areWell_259 : decode M_R_areWell.2.1 259 = .ok (.iload_n 2, 1) := by decide +kernel
theorem d_R_areWell_260 : decode M_R_areWell.2.1 260 = .ok (.imul, 1) := by decide +kernel
theorem d_R_areWell_261 : decode M_R_areWell.2.1 261 = .ok (.iload 7, 2) := by decide +kernel
theorem d_R_areWell_263 : decode M_R_areWell.2.1 263 = .ok (.iadd, 1) := by decide +kernel
theorem d_R_areWell_264 : decode M_R_areWell.2.1 264 = .ok (.iaload, 1) := by decide +kernel
theorem d_R_areWell_265 : decode M_R_areWell.2.1 265 = .ok (.if_icmp .ge 10, 3) := by decide +kernel
theorem d_R_areWell_268 : decode M_R_areWell.2.1 268 = .ok (.iload 5, 2) := by decide +kernel
theorem d_R_areWell_270 : decode M_R_areWell.2.1 270 = .ok (.ifCond .le 5, 3) := by decide +kernel
theorem d_R_areWell_273 : decode M_R_areWell.2.1 273 = .ok (.iconst 0, 1) := by decide +kernel
theorem d_R_areWell_274 : decode M_R_areWell.2.1 274 = .ok (.ireturn, 1) := by decide +kernel
theorem d_R_areWell_275 : decode M_R_areWell.2.1 275 = .ok (.iinc 7 1, 3) := by decide +kernel
theorem d_R_areWell_278 : decode M_R_areWell.2.1 278 = .ok (.goto (-61), 3) := by decide +kernel
theorem d_R_areWell_281 : decode M_R_areWell.2.1 281 = .ok (.iinc 4 1, 3) := by decide +kernel
theorem d_R_areWell_284 : decode M_R_areWell.2.1 284 = .ok (.goto (-162), 3) := by decide +kernel
theorem d_R_areWell_287 : decode M_R_areWell.2.1 287 = .ok (.iconst 0, 1) := by decide +kernel
theorem d_R_areWell_288 : decode M_R_areWell.2.1 288 = .ok (.istore 4, 2) := by decide +kernel
theorem d_R_areWell_290 : decode M_R_areWell.2.1 290 = .ok (.iload 4, 2) := by decide +kernel
theorem d_R_areWell_292 : decode M_R_areWell.2.1 292 = .ok (.aload_n 0, 1) := by decide +kernel
theorem d_R_areWell_293 : decode M_R_areWell.2.1 293 = .ok (.getfield 313, 3) := by decide +kernel
theorem d_R_areWell_296 : decode M_R_areWell.2.1 296 = .ok (.if_icmp .ge 25, 3) := by decide +kernel
theorem d_R_areWell_299 : decode M_R_areWell.2.1 299 = .ok (.aload_n 0, 1) := by decide +kernel
theorem d_R_areWell_300 : decode M_R_areWell.2.1 300 = .ok (.iload_n 1, 1) := by decide +kernel
theorem d_R_areWell_301 : decode M_R_areWell.2.1 301 = .ok (.iload 4, 2) := by decide +kernel
theorem d_R_areWell_303 : decode M_R_areWell.2.1 303 = .ok (.invokevirtual 322, 3) := by decide +kernel
theorem d_R_areWell_306 : decode M_R_areWell.2.1 306 = .ok (.aload_n 0, 1) := by decide +kernel
theorem d_R_areWell_307 : decode M_R_areWell.2.1 307 = .ok (.getfield 319, 3) := by decide +kernel
theorem d_R_areWell_310 : decode M_R_areWell.2.1 310 = .ok (.if_icmp .le 5, 3) := by decide +kernel
theorem d_R_areWell_313 : decode M_R_areWell.2.1 313 = .ok (.iconst 0, 1) := by decide +kernel
theorem d_R_areWell_314 : decode M_R_areWell.2.1 314 = .ok (.ireturn, 1) := by decide +kernel
theorem d_R_areWell_315 : decode M_R_areWell.2.1 315 = .ok (.iinc 4 1, 3) := by decide +kernel
theorem d_R_areWell_318 : decode M_R_areWell.2.1 318 = .ok (.goto (-28), 3) := by decide +kernel
theorem d_R_areWell_321 : decode M_R_areWell.2.1 321 = .ok (.iconst 1, 1) := by decide +kernel
theorem d_R_areWell_322 : decode M_R_areWell.2.1 322 = .ok (.ireturn, 1) := by decide +kernel
theorem d_R_standing_0 : decode M_R_standing.2.1 0 = .ok (.iconst 0, 1) := by decide +kernel
theorem d_R_standing_1 : decode M_R_standing.2.1 1 = .ok (.istore_n 3, 1) := by decide +kernel
theorem d_R_standing_2 : decode M_R_standing.2.1 2 = .ok (.iconst 0, 1) := by decide +kernel
theorem d_R_standing_3 : decode M_R_standing.2.1 3 = .ok (.istore 4, 2) := by decide +kernel
theorem d_R_standing_5 : decode M_R_standing.2.1 5 = .ok (.iload 4, 2) := by decide +kernel
theorem d_R_standing_7 : decode M_R_standing.2.1 7 = .ok (.bipush 8, 2) := by decide +kernel
theorem d_R_standing_9 : decode M_R_standing.2.1 9 = .ok (.if_icmp .ge 127, 3) := by decide +kernel
theorem d_R_standing_12 : decode M_R_standing.2.1 12 = .ok (.bipush 6, 2) := by decide +kernel
theorem d_R_standing_14 : decode M_R_standing.2.1 14 = .ok (.istore 5, 2) := by decide +kernel
theorem d_R_standing_16 : decode M_R_standing.2.1 16 = .ok (.iconst (-1), 1) := by decide +kernel
theorem d_R_standing_17 : decode M_R_standing.2.1 17 = .ok (.istore 6, 2) := by decide +kernel
theorem d_R_standing_19 : decode M_R_standing.2.1 19 = .ok (.iconst 0, 1) := by decide +kernel
theorem d_R_standing_20 : decode M_R_standing.2.1 20 = .ok (.istore 7, 2) := by decide +kernel
theorem d_R_standing_22 : decode M_R_standing.2.1 22 = .ok (.iload 7, 2) := by decide +kernel
theorem d_R_standing_24 : decode M_R_standing.2.1 24 = .ok (.iload_n 1, 1) := by decide +kernel
theorem d_R_standing_25 : decode M_R_standing.2.1 25 = .ok (.if_icmp .gt 85, 3) := by decide +kernel
theorem d_R_standing_28 : decode M_R_standing.2.1 28 = .ok (.aload_n 0, 1) := by decide +kernel
theorem d_R_standing_29 : decode M_R_standing.2.1 29 = .ok (.getfield 9, 3) := by decide +kernel
theorem d_R_standing_32 : decode M_R_standing.2.1 32 = .ok (.aload_n 0, 1) := by decide +kernel
theorem d_R_standing_33 : decode M_R_standing.2.1 33 = .ok (.getfield 124, 3) := by decide +kernel
theorem d_R_standing_36 : decode M_R_standing.2.1 36 = .ok (.iload 7, 2) := by decide +kernel
theorem d_R_standing_38 : decode M_R_standing.2.1 38 = .ok (.iaload, 1) := by decide +kernel
theorem d_R_standing_39 : decode M_R_standing.2.1 39 = .ok (.iconst 1, 1) := by decide +kernel
theorem d_R_standing_40 : decode M_R_standing.2.1 40 = .ok (.invokestatic 180, 3) := by decide +kernel
theorem d_R_standing_43 : decode M_R_standing.2.1 43 = .ok (.iaload, 1) := by decide +kernel
theorem d_R_standing_44 : decode M_R_standing.2.1 44 = .ok (.iload 4, 2) := by decide +kernel
theorem d_R_standing_46 : decode M_R_standing.2.1 46 = .ok (.if_icmp .eq 6, 3) := by decide +kernel
theorem d_R_standing_49 : decode M_R_standing.2.1 49 = .ok (.goto 55, 3) := by decide +kernel
theorem d_R_standing_52 : decode M_R_standing.2.1 52 = .ok (.aload_n 0, 1) := by decide +kernel
theorem d_R_standing_53 : decode M_R_standing.2.1 53 = .ok (.getfield 127, 3) := by decide +kernel
theorem d_R_standing_56 : decode M_R_standing.2.1 56 = .ok (.iload 7, 2) := by decide +kernel
theorem d_R_standing_58 : decode M_R_standing.2.1 58 = .ok (.iaload, 1) := by decide +kernel
theorem d_R_standing_59 : decode M_R_standing.2.1 59 = .ok (.iload 5, 2) := by decide +kernel
theorem d_R_standing_61 : decode M_R_standing.2.1 61 = .ok (.if_icmp .ge 13, 3) := by decide +kernel
theorem d_R_standing_64 : decode M_R_standing.2.1 64 = .ok (.aload_n 0, 1) := by decide +kernel
theorem d_R_standing_65 : decode M_R_standing.2.1 65 = .ok (.getfield 127, 3) := by decide +kernel
theorem d_R_standing_68 : decode M_R_standing.2.1 68 = .ok (.iload 7, 2) := by decide +kernel
theorem d_R_standing_70 : decode M_R_standing.2.1 70 = .ok (.iaload, 1) := by decide +kernel
theorem d_R_standing_71 : decode M_R_standing.2.1 71 = .ok (.goto 5, 3) := by decide +kernel
theorem d_R_standing_74 : decode M_R_standing.2.1 74 = .ok (.iload 5, 2) := by decide +kernel
theorem d_R_standing_76 : decode M_R_standing.2.1 76 = .ok (.istore 5, 2) := by decide +kernel
theorem d_R_standing_78 : decode M_R_standing.2.1 78 = .ok (.aload_n 0, 1) := by decide +kernel
theorem d_R_standing_79 : decode M_R_standing.2.1 79 = .ok (.getfield 127, 3) := by decide +kernel
theorem d_R_standing_82 : decode M_R_standing.2.1 82 = .ok (.iload 7, 2) := by decide +kernel
theorem d_R_standing_84 : decode M_R_standing.2.1 84 = .ok (.iaload, 1) := by decide +kernel
theorem d_R_standing_85 : decode M_R_standing.2.1 85 = .ok (.iload 6, 2) := by decide +kernel
theorem d_R_standing_87 : decode M_R_standing.2.1 87 = .ok (.if_icmp .le 13, 3) := by decide +kernel
theorem d_R_standing_90 : decode M_R_standing.2.1 90 = .ok (.aload_n 0, 1) := by decide +kernel
theorem d_R_standing_91 : decode M_R_standing.2.1 91 = .ok (.getfield 127, 3) := by decide +kernel
theorem d_R_standing_94 : decode M_R_standing.2.1 94 = .ok (.iload 7, 2) := by decide +kernel
theorem d_R_standing_96 : decode M_R_standing.2.1 96 = .ok (.iaload, 1) := by decide +kernel
theorem d_R_standing_97 : decode M_R_standing.2.1 97 = .ok (.goto 5, 3) := by decide +kernel
theorem d_R_standing_100 : decode M_R_standing.2.1 100 = .ok (.iload 6, 2) := by decide +kernel
theorem d_R_standing_102 : decode M_R_standing.2.1 102 = .ok (.istore 6, 2) := by decide +kernel
theorem d_R_standing_104 : decode M_R_standing.2.1 104 = .ok (.iinc 7 1, 3) := by decide +kernel
theorem d_R_standing_107 : decode M_R_standing.2.1 107 = .ok (.goto (-85), 3) := by decide +kernel
theorem d_R_standing_110 : decode M_R_standing.2.1 110 = .ok (.iload_n 3, 1) := by decide +kernel
theorem d_R_standing_111 : decode M_R_standing.2.1 111 = .ok (.iload 5, 2) := by decide +kernel
theorem d_R_standing_113 : decode M_R_standing.2.1 113 = .ok (.iload_n 2, 1) := by decide +kernel
theorem d_R_standing_114 : decode M_R_standing.2.1 114 = .ok (.if_icmp .gt 13, 3) := by decide +kernel
theorem d_R_standing_117 : decode M_R_standing.2.1 117 = .ok (.iload_n 2, 1) := by decide +kernel
theorem d_R_standing_118 : decode M_R_standing.2.1 118 = .ok (.iload 6, 2) := by decide +kernel
theorem d_R_standing_120 : decode M_R_standing.2.1 120 = .ok (.if_icmp .gt 7, 3) := by decide +kernel
theorem d_R_standing_123 : decode M_R_standing.2.1 123 = .ok (.iconst 1, 1) := by decide +kernel
theorem d_R_standing_124 : decode M_R_standing.2.1 124 = .ok (.goto 4, 3) := by decide +kernel
theorem d_R_standing_127 : decode M_R_standing.2.1 127 = .ok (.iconst 0, 1) := by decide +kernel
theorem d_R_standing_128 : decode M_R_standing.2.1 128 = .ok (.iadd, 1) := by decide +kernel
theorem d_R_standing_129 : decode M_R_standing.2.1 129 = .ok (.istore_n 3, 1) := by decide +kernel
theorem d_R_standing_130 : decode M_R_standing.2.1 130 = .ok (.iinc 4 1, 3) := by decide +kernel
theorem d_R_standing_133 : decode M_R_standing.2.1 133 = .ok (.goto (-128), 3) := by decide +kernel
theorem d_R_standing_136 : decode M_R_standing.2.1 136 = .ok (.iload_n 3, 1) := by decide +kernel
theorem d_R_standing_137 : decode M_R_standing.2.1 137 = .ok (.ireturn, 1) := by decide +kernel
theorem d_R_taped_0 : decode M_R_taped.2.1 0 = .ok (.aload_n 0, 1) := by decide +kernel
theorem d_R_taped_1 : decode M_R_taped.2.1 1 = .ok (.getfield 170, 3) := by decide +kernel
theorem d_R_taped_4 : decode M_R_taped.2.1 4 = .ok (.ifCond .eq 26, 3) := by decide +kernel
theorem d_R_taped_7 : decode M_R_taped.2.1 7 = .ok (.iload_n 1, 1) := by decide +kernel
theorem d_R_taped_8 : decode M_R_taped.2.1 8 = .ok (.iconst 0, 1) := by decide +kernel
theorem d_R_taped_9 : decode M_R_taped.2.1 9 = .ok (.aload_n 0, 1) := by decide +kernel
theorem d_R_taped_10 : decode M_R_taped.2.1 10 = .ok (.getfield 341, 3) := by decide +kernel
theorem d_R_taped_13 : decode M_R_taped.2.1 13 = .ok (.iconst 1, 1) := by decide +kernel
theorem d_R_taped_14 : decode M_R_taped.2.1 14 = .ok (.isub, 1) := by decide +kernel
theorem d_R_taped_15 : decode M_R_taped.2.1 15 = .ok (.invokestatic 153, 3) := by decide +kernel
theorem d_R_taped_18 : decode M_R_taped.2.1 18 = .ok (.ifCond .eq 12, 3) := by decide +kernel
theorem d_R_taped_21 : decode M_R_taped.2.1 21 = .ok (.iload_n 2, 1) := by decide +kernel
theorem d_R_taped_22 : decode M_R_taped.2.1 22 = .ok (.iconst 0, 1) := by decide +kernel
theorem d_R_taped_23 : decode M_R_taped.2.1 23 = .ok (.iconst 1, 1) := by decide +kernel
theorem d_R_taped_24 : decode M_R_taped.2.1 24 = .ok (.invokestatic 153, 3) := by decide +kernel
theorem d_R_taped_27 : decode M_R_taped.2.1 27 = .ok (.ifCond .ne 5, 3) := by decide +kernel
theorem d_R_taped_30 : decode M_R_taped.2.1 30 = .ok (.iconst (-1), 1) := by decide +kernel
theorem d_R_taped_31 : decode M_R_taped.2.1 31 = .ok (.ireturn, 1) := by decide +kernel
theorem d_R_taped_32 : decode M_R_taped.2.1 32 = .ok (.iload_n 2, 1) := by decide +kernel
theorem d_R_taped_33 : decode M_R_taped.2.1 33 = .ok (.ifCond .ne 12, 3) := by decide +kernel
theorem d_R_taped_36 : decode M_R_taped.2.1 36 = .ok (.aload_n 0, 1) := by decide +kernel
theorem d_R_taped_37 : decode M_R_taped.2.1 37 = .ok (.getfield 62, 3) := by decide +kernel
theorem d_R_taped_40 : decode M_R_taped.2.1 40 = .ok (.iload_n 1, 1) := by decide +kernel
theorem d_R_taped_41 : decode M_R_taped.2.1 41 = .ok (.iaload, 1) := by decide +kernel
theorem d_R_taped_42 : decode M_R_taped.2.1 42 = .ok (.goto 9, 3) := by decide +kernel
theorem d_R_taped_45 : decode M_R_taped.2.1 45 = .ok (.aload_n 0, 1) := by decide +kernel
theorem d_R_taped_46 : decode M_R_taped.2.1 46 = .ok (.getfield 65, 3) := by decide +kernel
theorem d_R_taped_49 : decode M_R_taped.2.1 49 = .ok (.iload_n 1, 1) := by decide +kernel
theorem d_R_taped_50 : decode M_R_taped.2.1 50 = .ok (.iaload, 1) := by decide +kernel
theorem d_R_taped_51 : decode M_R_taped.2.1 51 = .ok (.ireturn, 1) := by decide +kernel
theorem d_R_proof_0 : decode M_R_proof.2.1 0 = .ok (.iload_n 1, 1) := by decide +kernel
theorem d_R_proof_1 : decode M_R_proof.2.1 1 = .ok (.invokestatic 255, 3) := by decide +kernel
theorem d_R_proof_4 : decode M_R_proof.2.1 4 = .ok (.ifCond .eq 10, 3) := by decide +kernel
theorem d_R_proof_7 : decode M_R_proof.2.1 7 = .ok (.aload_n 0, 1) := by decide +kernel
theorem d_R_proof_8 : decode M_R_proof.2.1 8 = .ok (.getfield 173, 3) := by decide +kernel
theorem d_R_proof_11 : decode M_R_proof.2.1 11 = .ok (.ifCond .ne 5, 3) := by decide +kernel
theorem d_R_proof_14 : decode M_R_proof.2.1 14 = .ok (.iconst (-1), 1) := by decide +kernel
theorem d_R_proof_15 : decode M_R_proof.2.1 15 = .ok (.ireturn, 1) := by decide +kernel
theorem d_R_proof_16 : decode M_R_proof.2.1 16 = .ok (.aload_n 0, 1) := by decide +kernel
theorem d_R_proof_17 : decode M_R_proof.2.1 17 = .ok (.aload_n 0, 1) := by decide +kernel
theorem d_R_proof_18 : decode M_R_proof.2.1 18 = .ok (.getfield 307, 3) := by decide +kernel
theorem d_R_proof_21 : decode M_R_proof.2.1 21 = .ok (.aload_n 0, 1) := by decide +kernel
theorem d_R_proof_22 : decode M_R_proof.2.1 22 = .ok (.getfield 310, 3) := by decide +kernel
theorem d_R_proof_25 : decode M_R_proof.2.1 25 = .ok (.invokevirtual 304, 3) := by decide +kernel
theorem d_R_proof_28 : decode M_R_proof.2.1 28 = .ok (.bipush 8, 2) := by decide +kernel
theorem d_R_proof_30 : decode M_R_proof.2.1 30 = .ok (.if_icmp .le 6, 3) := by decide +kernel
theorem d_R_proof_33 : decode M_R_proof.2.1 33 = .ok (.bipush (-4), 2) := by decide +kernel
theorem d_R_proof_35 : decode M_R_proof.2.1 35 = .ok (.ireturn, 1) := by decide +kernel
theorem d_R_proof_36 : decode M_R_proof.2.1 36 = .ok (.aload_n 0, 1) := by decide +kernel
theorem d_R_proof_37 : decode M_R_proof.2.1 37 = .ok (.iload_n 1, 1) := by decide +kernel
theorem d_R_proof_38 : decode M_R_proof.2.1 38 = .ok (.iconst 1, 1) := by decide +kernel
theorem d_R_proof_39 : decode M_R_proof.2.1 39 = .ok (.invokevirtual 258, 3) := by decide +kernel
theorem d_R_proof_42 : decode M_R_proof.2.1 42 = .ok (.istore_n 2, 1) := by decide +kernel
theorem d_R_proof_43 : decode M_R_proof.2.1 43 = .ok (.iload_n 2, 1) := by decide +kernel
theorem d_R_proof_44 : decode M_R_proof.2.1 44 = .ok (.ifCond .eq 5, 3) := by decide +kernel
theorem d_R_proof_47 : decode M_R_proof.2.1 47 = .ok (.iload_n 2, 1) := by decide +kernel
theorem d_R_proof_48 : decode M_R_proof.2.1 48 = .ok (.ireturn, 1) := by decide +kernel
theorem d_R_proof_49 : decode M_R_proof.2.1 49 = .ok (.iconst 0, 1) := by decide +kernel
theorem d_R_proof_50 : decode M_R_proof.2.1 50 = .ok (.istore_n 3, 1) := by decide +kernel
theorem d_R_proof_51 : decode M_R_proof.2.1 51 = .ok (.iload_n 3, 1) := by decide +kernel
theorem d_R_proof_52 : decode M_R_proof.2.1 52 = .ok (.aload_n 0, 1) := by decide +kernel
theorem d_R_proof_53 : decode M_R_proof.2.1 53 = .ok (.getfield 301, 3) := by decide +kernel
theorem d_R_proof_56 : decode M_R_proof.2.1 56 = .ok (.if_icmp .ge 51, 3) := by decide +kernel
theorem d_R_proof_59 : decode M_R_proof.2.1 59 = .ok (.iload_n 3, 1) := by decide +kernel
theorem d_R_proof_60 : decode M_R_proof.2.1 60 = .ok (.aload_n 0, 1) := by decide +kernel
theorem d_R_proof_61 : decode M_R_proof.2.1 61 = .ok (.getfield 19, 3) := by decide +kernel
theorem d_R_proof_64 : decode M_R_proof.2.1 64 = .ok (.iload_n 1, 1) := by decide +kernel
theorem d_R_proof_65 : decode M_R_proof.2.1 65 = .ok (.iaload, 1) := by decide +kernel
theorem d_R_proof_66 : decode M_R_proof.2.1 66 = .ok (.if_icmp .ne 10, 3) := by decide +kernel
theorem d_R_proof_69 : decode M_R_proof.2.1 69 = .ok (.aload_n 0, 1) := by decide +kernel
theorem d_R_proof_70 : decode M_R_proof.2.1 70 = .ok (.bipush (-13), 2) := by decide +kernel
theorem d_R_proof_72 : decode M_R_proof.2.1 72 = .ok (.invokevirtual 252, 3) := by decide +kernel
theorem d_R_proof_75 : decode M_R_proof.2.1 75 = .ok (.ireturn, 1) := by decide +kernel
theorem d_R_proof_76 : decode M_R_proof.2.1 76 = .ok (.aload_n 0, 1) := by decide +kernel
theorem d_R_proof_77 : decode M_R_proof.2.1 77 = .ok (.getfield 127, 3) := by decide +kernel
theorem d_R_proof_80 : decode M_R_proof.2.1 80 = .ok (.iload_n 3, 1) := by decide +kernel
theorem d_R_proof_81 : decode M_R_proof.2.1 81 = .ok (.aload_n 0, 1) := by decide +kernel
theorem d_R_proof_82 : decode M_R_proof.2.1 82 = .ok (.iload_n 1, 1) := by decide +kernel
theorem d_R_proof_83 : decode M_R_proof.2.1 83 = .ok (.iload_n 3, 1) := by decide +kernel
theorem d_R_proof_84 : decode M_R_proof.2.1 84 = .ok (.invokevirtual 242, 3) := by decide +kernel
theorem d_R_proof_87 : decode M_R_proof.2.1 87 = .ok (.iastore, 1) := by decide +kernel
theorem d_R_proof_88 : decode M_R_proof.2.1 88 = .ok (.aload_n 0, 1) := by decide +kernel
theorem d_R_proof_89 : decode M_R_proof.2.1 89 = .ok (.iload_n 3, 1) := by decide +kernel
theorem d_R_proof_90 : decode M_R_proof.2.1 90 = .ok (.invokevirtual 334, 3) := by decide +kernel
theorem d_R_proof_93 : decode M_R_proof.2.1 93 = .ok (.ifCond .ne 8, 3) := by decide +kernel
theorem d_R_proof_96 : decode M_R_proof.2.1 96 = .ok (.bipush (-100), 2) := by decide +kernel
theorem d_R_proof_98 : decode M_R_proof.2.1 98 = .ok (.iload_n 3, 1) := by decide +kernel
theorem d_R_proof_99 : decode M_R_proof.2.1 99 = .ok (.isub, 1) := by decide +kernel
theorem d_R_proof_100 : decode M_R_proof.2.1 100 = .ok (.ireturn, 1) := by decide +kernel
theorem d_R_proof_101 : decode M_R_proof.2.1 101 = .ok (.iinc 3 1, 3) := by decide +kernel
theorem d_R_proof_104 : decode M_R_proof.2.1 104 = .ok (.goto (-53), 3) := by decide +kernel
theorem d_R_proof_107 : decode M_R_proof.2.1 107 = .ok (.aload_n 0, 1) := by decide +kernel
theorem d_R_proof_108 : decode M_R_proof.2.1 108 = .ok (.aload_n 0, 1) := by decide +kernel
theorem d_R_proof_109 : decode M_R_proof.2.1 109 = .ok (.getfield 301, 3) := by decide +kernel
theorem d_R_proof_112 : decode M_R_proof.2.1 112 = .ok (.iconst 1, 1) := by decide +kernel
theorem d_R_proof_113 : decode M_R_proof.2.1 113 = .ok (.isub, 1) := by decide +kernel
theorem d_R_proof_114 : decode M_R_proof.2.1 114 = .ok (.invokevirtual 331, 3) := by decide +kernel
theorem d_R_proof_117 : decode M_R_proof.2.1 117 = .ok (.ireturn, 1) := by decide +kernel
theorem d_R_cut_0 : decode M_R_cut.2.1 0 = .ok (.iload_n 1, 1) := by decide +kernel
theorem d_R_cut_1 : decode M_R_cut.2.1 1 = .ok (.iconst 1, 1) := by decide +kernel
theorem d_R_cut_2 : decode M_R_cut.2.1 2 = .ok (.bipush 26, 2) := by decide +kernel
theorem d_R_cut_4 : decode M_R_cut.2.1 4 = .ok (.invokestatic 153, 3) := by decide +kernel
theorem d_R_cut_7 : decode M_R_cut.2.1 7 = .ok (.ifCond .ne 5, 3) := by decide +kernel
theorem d_R_cut_10 : decode M_R_cut.2.1 10 = .ok (.iconst (-1), 1) := by decide +kernel
theorem d_R_cut_11 : decode M_R_cut.2.1 11 = .ok (.ireturn, 1) := by decide +kernel
theorem d_R_cut_12 : decode M_R_cut.2.1 12 = .ok (.aload_n 0, 1) := by decide +kernel
theorem d_R_cut_13 : decode M_R_cut.2.1 13 = .ok (.iload_n 1, 1) := by decide +kernel
theorem d_R_cut_14 : decode M_R_cut.2.1 14 = .ok (.invokevirtual 350, 3) := by decide +kernel
theorem d_R_cut_17 : decode M_R_cut.2.1 17 = .ok (.istore_n 2, 1) := by decide +kernel
theorem d_R_cut_18 : decode M_R_cut.2.1 18 = .ok (.iload_n 2, 1) := by decide +kernel
theorem d_R_cut_19 : decode M_R_cut.2.1 19 = .ok (.ldc_w 280, 3) := by decide +kernel
theorem d_R_cut_22 : decode M_R_cut.2.1 22 = .ok (.if_icmp .ne 8, 3) := by decide +kernel
theorem d_R_cut_25 : decode M_R_cut.2.1 25 = .ok (.bipush (-3), 2) := by decide +kernel
theorem d_R_cut_27 : decode M_R_cut.2.1 27 = .ok (.goto 4, 3) := by decide +kernel
theorem d_R_cut_30 : decode M_R_cut.2.1 30 = .ok (.iload_n 2, 1) := by decide +kernel
theorem d_R_cut_31 : decode M_R_cut.2.1 31 = .ok (.ireturn, 1) := by decide +kernel
theorem d_R_cutsOf_0 : decode M_R_cutsOf.2.1 0 = .ok (.aload_n 0, 1) := by decide +kernel
theorem d_R_cutsOf_1 : decode M_R_cutsOf.2.1 1 = .ok (.iload_n 1, 1) := by decide +kernel
theorem d_R_cutsOf_2 : decode M_R_cutsOf.2.1 2 = .ok (.iload_n 1, 1) := by decide +kernel
theorem d_R_cutsOf_3 : decode M_R_cutsOf.2.1 3 = .ok (.invokevirtual 304, 3) := by decide +kernel
theorem d_R_cutsOf_6 : decode M_R_cutsOf.2.1 6 = .ok (.istore_n 2, 1) := by decide +kernel
theorem d_R_cutsOf_7 : decode M_R_cutsOf.2.1 7 = .ok (.iconst 0, 1) := by decide +kernel
theorem d_R_cutsOf_8 : decode M_R_cutsOf.2.1 8 = .ok (.istore_n 3, 1) := by decide +kernel
theorem d_R_cutsOf_9 : decode M_R_cutsOf.2.1 9 = .ok (.iload_n 3, 1) := by decide +kernel
theorem d_R_cutsOf_10 : decode M_R_cutsOf.2.1 10 = .ok (.iload_n 2, 1) := by decide +kernel
theorem d_R_cutsOf_11 : decode M_R_cutsOf.2.1 11 = .ok (.if_icmp .gt 31, 3) := by decide +kernel
theorem d_R_cutsOf_14 : decode M_R_cutsOf.2.1 14 = .ok (.aload_n 0, 1) := by decide +kernel
theorem d_R_cutsOf_15 : decode M_R_cutsOf.2.1 15 = .ok (.getfield 133, 3) := by decide +kernel
theorem d_R_cutsOf_18 : decode M_R_cutsOf.2.1 18 = .ok (.sipush 505, 3) := by decide +kernel
theorem d_R_cutsOf_21 : decode M_R_cutsOf.2.1 21 = .ok (.iload_n 3, 1) := by decide +kernel
theorem d_R_cutsOf_22 : decode M_R_cutsOf.2.1 22 = .ok (.iadd, 1) := by decide +kernel
theorem d_R_cutsOf_23 : decode M_R_cutsOf.2.1 23 = .ok (.iload_n 3, 1) := by decide +kernel
theorem d_R_cutsOf_24 : decode M_R_cutsOf.2.1 24 = .ok (.iload_n 2, 1) := by decide +kernel
theorem d_R_cutsOf_25 : decode M_R_cutsOf.2.1 25 = .ok (.if_icmp .ne 7, 3) := by decide +kernel
theorem d_R_cutsOf_28 : decode M_R_cutsOf.2.1 28 = .ok (.iconst 0, 1) := by decide +kernel
theorem d_R_cutsOf_29 : decode M_R_cutsOf.2.1 29 = .ok (.goto 6, 3) := by decide +kernel
theorem d_R_cutsOf_32 : decode M_R_cutsOf.2.1 32 = .ok (.ldc_w 280, 3) := by decide +kernel
theorem d_R_cutsOf_35 : decode M_R_cutsOf.2.1 35 = .ok (.iastore, 1) := by decide +kernel
theorem d_R_cutsOf_36 : decode M_R_cutsOf.2.1 36 = .ok (.iinc 3 1, 3) := by decide +kernel
theorem d_R_cutsOf_39 : decode M_R_cutsOf.2.1 39 = .ok (.goto (-30), 3) := by decide +kernel
theorem d_R_cutsOf_42 : decode M_R_cutsOf.2.1 42 = .ok (.iconst 4, 1) := by decide +kernel
theorem d_R_cutsOf_43 : decode M_R_cutsOf.2.1 43 = .ok (.istore_n 3, 1) := by decide +kernel
theorem d_R_cutsOf_44 : decode M_R_cutsOf.2.1 44 = .ok (.iload_n 3, 1) := by decide +kernel
theorem d_R_cutsOf_45 : decode M_R_cutsOf.2.1 45 = .ok (.ifCond .lt 86, 3) := by decide +kernel
theorem d_R_cutsOf_48 : decode M_R_cutsOf.2.1 48 = .ok (.iconst 0, 1) := by decide +kernel
theorem d_R_cutsOf_49 : decode M_R_cutsOf.2.1 49 = .ok (.istore 4, 2) := by decide +kernel
theorem d_R_cutsOf_51 : decode M_R_cutsOf.2.1 51 = .ok (.iload 4, 2) := by decide +kernel
theorem d_R_cutsOf_53 : decode M_R_cutsOf.2.1 53 = .ok (.iload_n 2, 1) := by decide +kernel
theorem d_R_cutsOf_54 : decode M_R_cutsOf.2.1 54 = .ok (.if_icmp .gt 71, 3) := by decide +kernel
theorem d_R_cutsOf_57 : decode M_R_cutsOf.2.1 57 = .ok (.ldc_w 280, 3) := by decide +kernel
theorem d_R_cutsOf_60 : decode M_R_cutsOf.2.1 60 = .ok (.istore 5, 2) := by decide +kernel
theorem d_R_cutsOf_62 : decode M_R_cutsOf.2.1 62 = .ok (.iload 4, 2) := by decide +kernel
theorem d_R_cutsOf_64 : decode M_R_cutsOf.2.1 64 = .ok (.istore 6, 2) := by decide +kernel
theorem d_R_cutsOf_66 : decode M_R_cutsOf.2.1 66 = .ok (.iload 6, 2) := by decide +kernel
theorem d_R_cutsOf_68 : decode M_R_cutsOf.2.1 68 = .ok (.iload_n 2, 1) := by decide +kernel
theorem d_R_cutsOf_69 : decode M_R_cutsOf.2.1 69 = .ok (.if_icmp .ge 36, 3) := by decide +kernel
theorem d_R_cutsOf_72 : decode M_R_cutsOf.2.1 72 = .ok (.aload_n 0, 1) := by decide +kernel
theorem d_R_cutsOf_73 : decode M_R_cutsOf.2.1 73 = .ok (.iload_n 3, 1) := by decide +kernel
theorem d_R_cutsOf_74 : decode M_R_cutsOf.2.1 74 = .ok (.iload 4, 2) := by decide +kernel
theorem d_R_cutsOf_76 : decode M_R_cutsOf.2.1 76 = .ok (.iload 6, 2) := by decide +kernel
theorem d_R_cutsOf_78 : decode M_R_cutsOf.2.1 78 = .ok (.invokevirtual 347, 3) := by decide +kernel
theorem d_R_cutsOf_81 : decode M_R_cutsOf.2.1 81 = .ok (.istore 7, 2) := by decide +kernel
theorem d_R_cutsOf_83 : decode M_R_cutsOf.2.1 83 = .ok (.iload 7, 2) := by decide +kernel
theorem d_R_cutsOf_85 : decode M_R_cutsOf.2.1 85 = .ok (.iload 5, 2) := by decide +kernel
theorem d_R_cutsOf_87 : decode M_R_cutsOf.2.1 87 = .ok (.if_icmp .ge 8, 3) := by decide +kernel
theorem d_R_cutsOf_90 : decode M_R_cutsOf.2.1 90 = .ok (.iload 7, 2) := by decide +kernel
theorem d_R_cutsOf_92 : decode M_R_cutsOf.2.1 92 = .ok (.goto 5, 3) := by decide +kernel
theorem d_R_cutsOf_95 : decode M_R_cutsOf.2.1 95 = .ok (.iload 5, 2) := by decide +kernel
theorem d_R_cutsOf_97 : decode M_R_cutsOf.2.1 97 = .ok (.istore 5, 2) := by decide +kernel
theorem d_R_cutsOf_99 : decode M_R_cutsOf.2.1 99 = .ok (.iinc 6 1, 3) := by decide +kernel
theorem d_R_cutsOf_102 : decode M_R_cutsOf.2.1 102 = .ok (.goto (-36), 3) := by decide +kernel
theorem d_R_cutsOf_105 : decode M_R_cutsOf.2.1 105 = .ok (.aload_n 0, 1) := by decide +kernel
theorem d_R_cutsOf_106 : decode M_R_cutsOf.2.1 106 = .ok (.getfield 133, 3) := by decide +kernel
theorem d_R_cutsOf_109 : decode M_R_cutsOf.2.1 109 = .ok (.bipush 101, 2) := by decide +kernel
theorem d_R_cutsOf_111 : decode M_R_cutsOf.2.1 111 = .ok (.iload_n 3, 1) := by decide +kernel
theorem d_R_cutsOf_112 : decode M_R_cutsOf.2.1 112 = .ok (.imul, 1) := by decide +kernel
theorem d_R_cutsOf_113 : decode M_R_cutsOf.2.1 113 = .ok (.iload 4, 2) := by decide +kernel
theorem d_R_cutsOf_115 : decode M_R_cutsOf.2.1 115 = .ok (.iadd, 1) := by decide +kernel
theorem d_R_cutsOf_116 : decode M_R_cutsOf.2.1 116 = .ok (.iload 5, 2) := by decide +kernel
theorem d_R_cutsOf_118 : decode M_R_cutsOf.2.1 118 = .ok (.iastore, 1) := by decide +kernel
theorem d_R_cutsOf_119 : decode M_R_cutsOf.2.1 119 = .ok (.iinc 4 1, 3) := by decide +kernel
theorem d_R_cutsOf_122 : decode M_R_cutsOf.2.1 122 = .ok (.goto (-71), 3) := by decide +kernel
theorem d_R_cutsOf_125 : decode M_R_cutsOf.2.1 125 = .ok (.iinc 3 (-1), 3) := by decide +kernel
theorem d_R_cutsOf_128 : decode M_R_cutsOf.2.1 128 = .ok (.goto (-84), 3) := by decide +kernel
theorem d_R_cutsOf_131 : decode M_R_cutsOf.2.1 131 = .ok (.aload_n 0, 1) := by decide +kernel
theorem d_R_cutsOf_132 : decode M_R_cutsOf.2.1 132 = .ok (.getfield 133, 3) := by decide +kernel
theorem d_R_cutsOf_135 : decode M_R_cutsOf.2.1 135 = .ok (.iconst 0, 1) := by decide +kernel
theorem d_R_cutsOf_136 : decode M_R_cutsOf.2.1 136 = .ok (.iaload, 1) := by decide +kernel
theorem d_R_cutsOf_137 : decode M_R_cutsOf.2.1 137 = .ok (.istore_n 3, 1) := by decide +kernel
theorem d_R_cutsOf_138 : decode M_R_cutsOf.2.1 138 = .ok (.iconst 0, 1) := by decide +kernel
theorem d_R_cutsOf_139 : decode M_R_cutsOf.2.1 139 = .ok (.istore 4, 2) := by decide +kernel
theorem d_R_cutsOf_141 : decode M_R_cutsOf.2.1 141 = .ok (.iconst 0, 1) := by decide +kernel
theorem d_R_cutsOf_142 : decode M_R_cutsOf.2.1 142 = .ok (.istore 5, 2) := by decide +kernel
theorem d_R_cutsOf_144 : decode M_R_cutsOf.2.1 144 = .ok (.iload 5, 2) := by decide +kernel
theorem d_R_cutsOf_146 : decode M_R_cutsOf.2.1 146 = .ok (.iconst 5, 1) := by decide +kernel
theorem d_R_cutsOf_147 : decode M_R_cutsOf.2.1 147 = .ok (.if_icmp .ge 60, 3) := by decide +kernel
theorem d_R_cutsOf_150 : decode M_R_cutsOf.2.1 150 = .ok (.iload_n 3, 1) := by decide +kernel
theorem d_R_cutsOf_151 : decode M_R_cutsOf.2.1 151 = .ok (.ldc_w 280, 3) := by decide +kernel
theorem d_R_cutsOf_154 : decode M_R_cutsOf.2.1 154 = .ok (.if_icmp .ge 53, 3) := by decide +kernel
theorem d_R_cutsOf_157 : decode M_R_cutsOf.2.1 157 = .ok (.iload 4, 2) := by decide +kernel
theorem d_R_cutsOf_159 : decode M_R_cutsOf.2.1 159 = .ok (.istore 6, 2) := by decide +kernel
theorem d_R_cutsOf_161 : decode M_R_cutsOf.2.1 161 = .ok (.aload_n 0, 1) := by decide +kernel
theorem d_R_cutsOf_162 : decode M_R_cutsOf.2.1 162 = .ok (.iload 5, 2) := by decide +kernel
theorem d_R_cutsOf_164 : decode M_R_cutsOf.2.1 164 = .ok (.iload 4, 2) := by decide +kernel
theorem d_R_cutsOf_166 : decode M_R_cutsOf.2.1 166 = .ok (.iload 6, 2) := by decide +kernel
theorem d_R_cutsOf_168 : decode M_R_cutsOf.2.1 168 = .ok (.invokevirtual 347, 3) := by decide +kernel
theorem d_R_cutsOf_171 : decode M_R_cutsOf.2.1 171 = .ok (.iload_n 3, 1) := by decide +kernel
theorem d_R_cutsOf_172 : decode M_R_cutsOf.2.1 172 = .ok (.if_icmp .le 9, 3) := by decide +kernel
theorem d_R_cutsOf_175 : decode M_R_cutsOf.2.1 175 = .ok (.iinc 6 1, 3) := by decide +kernel
theorem d_R_cutsOf_178 : decode M_R_cutsOf.2.1 178 = .ok (.goto (-17), 3) := by decide +kernel
theorem d_R_cutsOf_181 : decode M_R_cutsOf.2.1 181 = .ok (.aload_n 0, 1) := by decide +kernel
theorem d_R_cutsOf_182 : decode M_R_cutsOf.2.1 182 = .ok (.getfield 136, 3) := by decide +kernel
theorem d_R_cutsOf_185 : decode M_R_cutsOf.2.1 185 = .ok (.iload 5, 2) := by decide +kernel
theorem d_R_cutsOf_187 : decode M_R_cutsOf.2.1 187 = .ok (.aload_n 0, 1) := by decide +kernel
theorem d_R_cutsOf_188 : decode M_R_cutsOf.2.1 188 = .ok (.getfield 124, 3) := by decide +kernel
theorem d_R_cutsOf_191 : decode M_R_cutsOf.2.1 191 = .ok (.iload 6, 2) := by decide +kernel
theorem d_R_cutsOf_193 : decode M_R_cutsOf.2.1 193 = .ok (.iaload, 1) := by decide +kernel
theorem d_R_cutsOf_194 : decode M_R_cutsOf.2.1 194 = .ok (.iastore, 1) := by decide +kernel
theorem d_R_cutsOf_195 : decode M_R_cutsOf.2.1 195 = .ok (.iload 6, 2) := by decide +kernel
theorem d_R_cutsOf_197 : decode M_R_cutsOf.2.1 197 = .ok (.iconst 1, 1) := by decide +kernel
theorem d_R_cutsOf_198 : decode M_R_cutsOf.2.1 198 = .ok (.iadd, 1) := by decide +kernel
theorem d_R_cutsOf_199 : decode M_R_cutsOf.2.1 199 = .ok (.istore 4, 2) := by decide +kernel
theorem d_R_cutsOf_201 : decode M_R_cutsOf.2.1 201 = .ok (.iinc 5 1, 3) := by decide +kernel
theorem d_R_cutsOf_204 : decode M_R_cutsOf.2.1 204 = .ok (.goto (-60), 3) := by decide +kernel
theorem d_R_cutsOf_207 : decode M_R_cutsOf.2.1 207 = .ok (.iload_n 3, 1) := by decide +kernel
theorem d_R_cutsOf_208 : decode M_R_cutsOf.2.1 208 = .ok (.ireturn, 1) := by decide +kernel
theorem d_R_cutAt_0 : decode M_R_cutAt.2.1 0 = .ok (.aload_n 0, 1) := by decide +kernel
theorem d_R_cutAt_1 : decode M_R_cutAt.2.1 1 = .ok (.iload_n 2, 1) := by decide +kernel
theorem d_R_cutAt_2 : decode M_R_cutAt.2.1 2 = .ok (.iload_n 3, 1) := by decide +kernel
theorem d_R_cutAt_3 : decode M_R_cutAt.2.1 3 = .ok (.invokevirtual 344, 3) := by decide +kernel
theorem d_R_cutAt_6 : decode M_R_cutAt.2.1 6 = .ok (.istore 4, 2) := by decide +kernel
theorem d_R_cutAt_8 : decode M_R_cutAt.2.1 8 = .ok (.aload_n 0, 1) := by decide +kernel
theorem d_R_cutAt_9 : decode M_R_cutAt.2.1 9 = .ok (.getfield 133, 3) := by decide +kernel
theorem d_R_cutAt_12 : decode M_R_cutAt.2.1 12 = .ok (.bipush 101, 2) := by decide +kernel
theorem d_R_cutAt_14 : decode M_R_cutAt.2.1 14 = .ok (.iload_n 1, 1) := by decide +kernel
theorem d_R_cutAt_15 : decode M_R_cutAt.2.1 15 = .ok (.iconst 1, 1) := by decide +kernel
theorem d_R_cutAt_16 : decode M_R_cutAt.2.1 16 = .ok (.iadd, 1) := by decide +kernel
theorem d_R_cutAt_17 : decode M_R_cutAt.2.1 17 = .ok (.imul, 1) := by decide +kernel
theorem d_R_cutAt_18 : decode M_R_cutAt.2.1 18 = .ok (.iload_n 3, 1) := by decide +kernel
theorem d_R_cutAt_19 : decode M_R_cutAt.2.1 19 = .ok (.iadd, 1) := by decide +kernel
theorem d_R_cutAt_20 : decode M_R_cutAt.2.1 20 = .ok (.iconst 1, 1) := by decide +kernel
theorem d_R_cutAt_21 : decode M_R_cutAt.2.1 21 = .ok (.iadd, 1) := by decide +kernel
theorem d_R_cutAt_22 : decode M_R_cutAt.2.1 22 = .ok (.iaload, 1) := by decide +kernel
theorem d_R_cutAt_23 : decode M_R_cutAt.2.1 23 = .ok (.istore 5, 2) := by decide +kernel
theorem d_R_cutAt_25 : decode M_R_cutAt.2.1 25 = .ok (.iload_n 1, 1) := by decide +kernel
theorem d_R_cutAt_26 : decode M_R_cutAt.2.1 26 = .ok (.iconst 4, 1) := by decide +kernel
theorem d_R_cutAt_27 : decode M_R_cutAt.2.1 27 = .ok (.if_icmp .ge 27, 3) := by decide +kernel
theorem d_R_cutAt_30 : decode M_R_cutAt.2.1 30 = .ok (.aload_n 0, 1) := by decide +kernel
theorem d_R_cutAt_31 : decode M_R_cutAt.2.1 31 = .ok (.getfield 9, 3) := by decide +kernel
theorem d_R_cutAt_34 : decode M_R_cutAt.2.1 34 = .ok (.aload_n 0, 1) := by decide +kernel
theorem d_R_cutAt_35 : decode M_R_cutAt.2.1 35 = .ok (.getfield 124, 3) := by decide +kernel
theorem d_R_cutAt_38 : decode M_R_cutAt.2.1 38 = .ok (.iload_n 3, 1) := by decide +kernel
theorem d_R_cutAt_39 : decode M_R_cutAt.2.1 39 = .ok (.iaload, 1) := by decide +kernel
theorem d_R_cutAt_40 : decode M_R_cutAt.2.1 40 = .ok (.iconst 4, 1) := by decide +kernel
theorem d_R_cutAt_41 : decode M_R_cutAt.2.1 41 = .ok (.invokestatic 180, 3) := by decide +kernel
theorem d_R_cutAt_44 : decode M_R_cutAt.2.1 44 = .ok (.iaload, 1) := by decide +kernel
theorem d_R_cutAt_45 : decode M_R_cutAt.2.1 45 = .ok (.ifCond .ne 9, 3) := by decide +kernel
theorem d_R_cutAt_48 : decode M_R_cutAt.2.1 48 = .ok (.ldc_w 280, 3) := by decide +kernel
theorem d_R_cutAt_51 : decode M_R_cutAt.2.1 51 = .ok (.goto 17, 3) := by decide +kernel
theorem d_R_cutAt_54 : decode M_R_cutAt.2.1 54 = .ok (.iload 4, 2) := by decide +kernel
theorem d_R_cutAt_56 : decode M_R_cutAt.2.1 56 = .ok (.iload 5, 2) := by decide +kernel
theorem d_R_cutAt_58 : decode M_R_cutAt.2.1 58 = .ok (.if_icmp .le 8, 3) := by decide +kernel
theorem d_R_cutAt_61 : decode M_R_cutAt.2.1 61 = .ok (.iload 4, 2) := by decide +kernel
theorem d_R_cutAt_63 : decode M_R_cutAt.2.1 63 = .ok (.goto 5, 3) := by decide +kernel
theorem d_R_cutAt_66 : decode M_R_cutAt.2.1 66 = .ok (.iload 5, 2) := by decide +kernel
theorem d_R_cutAt_68 : decode M_R_cutAt.2.1 68 = .ok (.ireturn, 1) := by decide +kernel
theorem d_R_sumOf_0 : decode M_R_sumOf.2.1 0 = .ok (.iconst 0, 1) := by decide +kernel
theorem d_R_sumOf_1 : decode M_R_sumOf.2.1 1 = .ok (.istore_n 3, 1) := by decide +kernel
theorem d_R_sumOf_2 : decode M_R_sumOf.2.1 2 = .ok (.iload_n 1, 1) := by decide +kernel
theorem d_R_sumOf_3 : decode M_R_sumOf.2.1 3 = .ok (.istore 4, 2) := by decide +kernel
theorem d_R_sumOf_5 : decode M_R_sumOf.2.1 5 = .ok (.iload 4, 2) := by decide +kernel
theorem d_R_sumOf_7 : decode M_R_sumOf.2.1 7 = .ok (.iload_n 2, 1) := by decide +kernel
theorem d_R_sumOf_8 : decode M_R_sumOf.2.1 8 = .ok (.if_icmp .gt 28, 3) := by decide +kernel
theorem d_R_sumOf_11 : decode M_R_sumOf.2.1 11 = .ok (.iload_n 3, 1) := by decide +kernel
theorem d_R_sumOf_12 : decode M_R_sumOf.2.1 12 = .ok (.aload_n 0, 1) := by decide +kernel
theorem d_R_sumOf_13 : decode M_R_sumOf.2.1 13 = .ok (.getfield 9, 3) := by decide +kernel
theorem d_R_sumOf_16 : decode M_R_sumOf.2.1 16 = .ok (.aload_n 0, 1) := by decide +kernel
theorem d_R_sumOf_17 : decode M_R_sumOf.2.1 17 = .ok (.getfield 124, 3) := by decide +kernel
theorem d_R_sumOf_20 : decode M_R_sumOf.2.1 20 = .ok (.iload 4, 2) := by decide +kernel
theorem d_R_sumOf_22 : decode M_R_sumOf.2.1 22 = .ok (.iaload, 1) := by decide +kernel
theorem d_R_sumOf_23 : decode M_R_sumOf.2.1 23 = .ok (.iconst 2, 1) := by decide +kernel
theorem d_R_sumOf_24 : decode M_R_sumOf.2.1 24 = .ok (.invokestatic 180, 3) := by decide +kernel
theorem d_R_sumOf_27 : decode M_R_sumOf.2.1 27 = .ok (.iaload, 1) := by decide +kernel
theorem d_R_sumOf_28 : decode M_R_sumOf.2.1 28 = .ok (.iadd, 1) := by decide +kernel
theorem d_R_sumOf_29 : decode M_R_sumOf.2.1 29 = .ok (.istore_n 3, 1) := by decide +kernel
theorem d_R_sumOf_30 : decode M_R_sumOf.2.1 30 = .ok (.iinc 4 1, 3) := by decide +kernel
theorem d_R_sumOf_33 : decode M_R_sumOf.2.1 33 = .ok (.goto (-28), 3) := by decide +kernel
theorem d_R_sumOf_36 : decode M_R_sumOf.2.1 36 = .ok (.iload_n 3, 1) := by decide +kernel
theorem d_R_sumOf_37 : decode M_R_sumOf.2.1 37 = .ok (.ireturn, 1) := by decide +kernel
theorem d_R_part_0 : decode M_R_part.2.1 0 = .ok (.iload_n 1, 1) := by decide +kernel
theorem d_R_part_1 : decode M_R_part.2.1 1 = .ok (.iconst 1, 1) := by decide +kernel
theorem d_R_part_2 : decode M_R_part.2.1 2 = .ok (.bipush 26, 2) := by decide +kernel
theorem d_R_part_4 : decode M_R_part.2.1 4 = .ok (.invokestatic 153, 3) := by decide +kernel
theorem d_R_part_7 : decode M_R_part.2.1 7 = .ok (.ifCond .eq 12, 3) := by decide +kernel
theorem d_R_part_10 : decode M_R_part.2.1 10 = .ok (.iload_n 2, 1) := by decide +kernel
theorem d_R_part_11 : decode M_R_part.2.1 11 = .ok (.iconst 0, 1) := by decide +kernel
theorem d_R_part_12 : decode M_R_part.2.1 12 = .ok (.iconst 4, 1) := by decide +kernel
theorem d_R_part_13 : decode M_R_part.2.1 13 = .ok (.invokestatic 153, 3) := by decide +kernel
theorem d_R_part_16 : decode M_R_part.2.1 16 = .ok (.ifCond .ne 5, 3) := by decide +kernel
theorem d_R_part_19 : decode M_R_part.2.1 19 = .ok (.iconst (-1), 1) := by decide +kernel
theorem d_R_part_20 : decode M_R_part.2.1 20 = .ok (.ireturn, 1) := by decide +kernel
theorem d_R_part_21 : decode M_R_part.2.1 21 = .ok (.aload_n 0, 1) := by decide +kernel
theorem d_R_part_22 : decode M_R_part.2.1 22 = .ok (.iload_n 1, 1) := by decide +kernel
theorem d_R_part_23 : decode M_R_part.2.1 23 = .ok (.invokevirtual 350, 3) := by decide +kernel
theorem d_R_part_26 : decode M_R_part.2.1 26 = .ok (.ldc_w 280, 3) := by decide +kernel
theorem d_R_part_29 : decode M_R_part.2.1 29 = .ok (.if_icmp .ne 8, 3) := by decide +kernel
theorem d_R_part_32 : decode M_R_part.2.1 32 = .ok (.bipush (-3), 2) := by decide +kernel
theorem d_R_part_34 : decode M_R_part.2.1 34 = .ok (.goto 9, 3) := by decide +kernel
theorem d_R_part_37 : decode M_R_part.2.1 37 = .ok (.aload_n 0, 1) := by decide +kernel
theorem d_R_part_38 : decode M_R_part.2.1 38 = .ok (.getfield 136, 3) := by decide +kernel
theorem d_R_part_41 : decode M_R_part.2.1 41 = .ok (.iload_n 2, 1) := by decide +kernel
theorem d_R_part_42 : decode M_R_part.2.1 42 = .ok (.iaload, 1) := by decide +kernel
theorem d_R_part_43 : decode M_R_part.2.1 43 = .ok (.ireturn, 1) := by decide +kernel
theorem d_R_tape_0 : decode M_R_tape.2.1 0 = .ok (.iload_n 1, 1) := by decide +kernel
theorem d_R_tape_1 : decode M_R_tape.2.1 1 = .ok (.invokestatic 255, 3) := by decide +kernel
theorem d_R_tape_4 : decode M_R_tape.2.1 4 = .ok (.ifCond .eq 18, 3) := by decide +kernel
theorem d_R_tape_7 : decode M_R_tape.2.1 7 = .ok (.iload_n 2, 1) := by decide +kernel
theorem d_R_tape_8 : decode M_R_tape.2.1 8 = .ok (.iconst 1, 1) := by decide +kernel
theorem d_R_tape_9 : decode M_R_tape.2.1 9 = .ok (.iconst 4, 1) := by decide +kernel
theorem d_R_tape_10 : decode M_R_tape.2.1 10 = .ok (.invokestatic 153, 3) := by decide +kernel
theorem d_R_tape_13 : decode M_R_tape.2.1 13 = .ok (.ifCond .eq 9, 3) := by decide +kernel
theorem d_R_tape_16 : decode M_R_tape.2.1 16 = .ok (.iload_n 3, 1) := by decide +kernel
theorem d_R_tape_17 : decode M_R_tape.2.1 17 = .ok (.bipush 64, 2) := by decide +kernel
theorem d_R_tape_19 : decode M_R_tape.2.1 19 = .ok (.if_icmp .le 5, 3) := by decide +kernel
theorem d_R_tape_22 : decode M_R_tape.2.1 22 = .ok (.iconst (-1), 1) := by decide +kernel
theorem d_R_tape_23 : decode M_R_tape.2.1 23 = .ok (.ireturn, 1) := by decide +kernel
theorem d_R_tape_24 : decode M_R_tape.2.1 24 = .ok (.iload_n 3, 1) := by decide +kernel
theorem d_R_tape_25 : decode M_R_tape.2.1 25 = .ok (.ifCond .ge 10, 3) := by decide +kernel
theorem d_R_tape_28 : decode M_R_tape.2.1 28 = .ok (.aload_n 0, 1) := by decide +kernel
theorem d_R_tape_29 : decode M_R_tape.2.1 29 = .ok (.bipush (-14), 2) := by decide +kernel
theorem d_R_tape_31 : decode M_R_tape.2.1 31 = .ok (.invokevirtual 252, 3) := by decide +kernel
theorem d_R_tape_34 : decode M_R_tape.2.1 34 = .ok (.ireturn, 1) := by decide +kernel
theorem d_R_tape_35 : decode M_R_tape.2.1 35 = .ok (.aload_n 0, 1) := by decide +kernel
theorem d_R_tape_36 : decode M_R_tape.2.1 36 = .ok (.getfield 16, 3) := by decide +kernel
theorem d_R_tape_39 : decode M_R_tape.2.1 39 = .ok (.iload_n 1, 1) := by decide +kernel
theorem d_R_tape_40 : decode M_R_tape.2.1 40 = .ok (.iload_n 2, 1) := by decide +kernel
theorem d_R_tape_41 : decode M_R_tape.2.1 41 = .ok (.iastore, 1) := by decide +kernel
theorem d_R_tape_42 : decode M_R_tape.2.1 42 = .ok (.aload_n 0, 1) := by decide +kernel
theorem d_R_tape_43 : decode M_R_tape.2.1 43 = .ok (.getfield 19, 3) := by decide +kernel
theorem d_R_tape_46 : decode M_R_tape.2.1 46 = .ok (.iload_n 1, 1) := by decide +kernel
theorem d_R_tape_47 : decode M_R_tape.2.1 47 = .ok (.iload_n 3, 1) := by decide +kernel
theorem d_R_tape_48 : decode M_R_tape.2.1 48 = .ok (.iastore, 1) := by decide +kernel
theorem d_R_tape_49 : decode M_R_tape.2.1 49 = .ok (.iconst 0, 1) := by decide +kernel
theorem d_R_tape_50 : decode M_R_tape.2.1 50 = .ok (.istore 4, 2) := by decide +kernel
theorem d_R_tape_52 : decode M_R_tape.2.1 52 = .ok (.iload 4, 2) := by decide +kernel
theorem d_R_tape_54 : decode M_R_tape.2.1 54 = .ok (.bipush 64, 2) := by decide +kernel
theorem d_R_tape_56 : decode M_R_tape.2.1 56 = .ok (.if_icmp .ge 22, 3) := by decide +kernel
theorem d_R_tape_59 : decode M_R_tape.2.1 59 = .ok (.aload_n 0, 1) := by decide +kernel
theorem d_R_tape_60 : decode M_R_tape.2.1 60 = .ok (.getfield 22, 3) := by decide +kernel
theorem d_R_tape_63 : decode M_R_tape.2.1 63 = .ok (.bipush 64, 2) := by decide +kernel
theorem d_R_tape_65 : decode M_R_tape.2.1 65 = .ok (.iload_n 1, 1) := by decide +kernel
theorem d_R_tape_66 : decode M_R_tape.2.1 66 = .ok (.imul, 1) := by decide +kernel
theorem d_R_tape_67 : decode M_R_tape.2.1 67 = .ok (.iload 4, 2) := by decide +kernel
theorem d_R_tape_69 : decode M_R_tape.2.1 69 = .ok (.iadd, 1) := by decide +kernel
theorem d_R_tape_70 : decode M_R_tape.2.1 70 = .ok (.lconst 0, 1) := by decide +kernel
theorem d_R_tape_71 : decode M_R_tape.2.1 71 = .ok (.lastore, 1) := by decide +kernel
theorem d_R_tape_72 : decode M_R_tape.2.1 72 = .ok (.iinc 4 1, 3) := by decide +kernel
theorem d_R_tape_75 : decode M_R_tape.2.1 75 = .ok (.goto (-23), 3) := by decide +kernel
theorem d_R_tape_78 : decode M_R_tape.2.1 78 = .ok (.iload_n 3, 1) := by decide +kernel
theorem d_R_tape_79 : decode M_R_tape.2.1 79 = .ok (.ireturn, 1) := by decide +kernel
theorem d_R_keep_0 : decode M_R_keep.2.1 0 = .ok (.iload_n 1, 1) := by decide +kernel
theorem d_R_keep_1 : decode M_R_keep.2.1 1 = .ok (.invokestatic 255, 3) := by decide +kernel
theorem d_R_keep_4 : decode M_R_keep.2.1 4 = .ok (.ifCond .ne 5, 3) := by decide +kernel
theorem d_R_keep_7 : decode M_R_keep.2.1 7 = .ok (.iconst (-1), 1) := by decide +kernel
theorem d_R_keep_8 : decode M_R_keep.2.1 8 = .ok (.ireturn, 1) := by decide +kernel
theorem d_R_keep_9 : decode M_R_keep.2.1 9 = .ok (.aload_n 0, 1) := by decide +kernel
theorem d_R_keep_10 : decode M_R_keep.2.1 10 = .ok (.getfield 16, 3) := by decide +kernel
theorem d_R_keep_13 : decode M_R_keep.2.1 13 = .ok (.iload_n 1, 1) := by decide +kernel
theorem d_R_keep_14 : decode M_R_keep.2.1 14 = .ok (.iconst 5, 1) := by decide +kernel
theorem d_R_keep_15 : decode M_R_keep.2.1 15 = .ok (.iastore, 1) := by decide +kernel
theorem d_R_keep_16 : decode M_R_keep.2.1 16 = .ok (.aload_n 0, 1) := by decide +kernel
theorem d_R_keep_17 : decode M_R_keep.2.1 17 = .ok (.getfield 19, 3) := by decide +kernel
theorem d_R_keep_20 : decode M_R_keep.2.1 20 = .ok (.iload_n 1, 1) := by decide +kernel
theorem d_R_keep_21 : decode M_R_keep.2.1 21 = .ok (.iconst 0, 1) := by decide +kernel
theorem d_R_keep_22 : decode M_R_keep.2.1 22 = .ok (.iastore, 1) := by decide +kernel
theorem d_R_keep_23 : decode M_R_keep.2.1 23 = .ok (.iconst 0, 1) := by decide +kernel
theorem d_R_keep_24 : decode M_R_keep.2.1 24 = .ok (.istore_n 2, 1) := by decide +kernel
theorem d_R_keep_25 : decode M_R_keep.2.1 25 = .ok (.iload_n 2, 1) := by decide +kernel
theorem d_R_keep_26 : decode M_R_keep.2.1 26 = .ok (.sipush 3896, 3) := by decide +kernel
theorem d_R_keep_29 : decode M_R_keep.2.1 29 = .ok (.if_icmp .ge 27, 3) := by decide +kernel
theorem d_R_keep_32 : decode M_R_keep.2.1 32 = .ok (.aload_n 0, 1) := by decide +kernel
theorem d_R_keep_33 : decode M_R_keep.2.1 33 = .ok (.getfield 13, 3) := by decide +kernel
theorem d_R_keep_36 : decode M_R_keep.2.1 36 = .ok (.sipush 3896, 3) := by decide +kernel
theorem d_R_keep_39 : decode M_R_keep.2.1 39 = .ok (.iload_n 1, 1) := by decide +kernel
theorem d_R_keep_40 : decode M_R_keep.2.1 40 = .ok (.imul, 1) := by decide +kernel
theorem d_R_keep_41 : decode M_R_keep.2.1 41 = .ok (.iload_n 2, 1) := by decide +kernel
theorem d_R_keep_42 : decode M_R_keep.2.1 42 = .ok (.iadd, 1) := by decide +kernel
theorem d_R_keep_43 : decode M_R_keep.2.1 43 = .ok (.aload_n 0, 1) := by decide +kernel
theorem d_R_keep_44 : decode M_R_keep.2.1 44 = .ok (.getfield 9, 3) := by decide +kernel
theorem d_R_keep_47 : decode M_R_keep.2.1 47 = .ok (.iload_n 2, 1) := by decide +kernel
theorem d_R_keep_48 : decode M_R_keep.2.1 48 = .ok (.iaload, 1) := by decide +kernel
theorem d_R_keep_49 : decode M_R_keep.2.1 49 = .ok (.iastore, 1) := by decide +kernel
theorem d_R_keep_50 : decode M_R_keep.2.1 50 = .ok (.iinc 2 1, 3) := by decide +kernel
theorem d_R_keep_53 : decode M_R_keep.2.1 53 = .ok (.goto (-28), 3) := by decide +kernel
theorem d_R_keep_56 : decode M_R_keep.2.1 56 = .ok (.aload_n 0, 1) := by decide +kernel
theorem d_R_keep_57 : decode M_R_keep.2.1 57 = .ok (.getfield 9, 3) := by decide +kernel
theorem d_R_keep_60 : decode M_R_keep.2.1 60 = .ok (.iconst 3, 1) := by decide +kernel
theorem d_R_keep_61 : decode M_R_keep.2.1 61 = .ok (.iaload, 1) := by decide +kernel
theorem d_R_keep_62 : decode M_R_keep.2.1 62 = .ok (.ireturn, 1) := by decide +kernel
theorem d_R_back_0 : decode M_R_back.2.1 0 = .ok (.aload_n 0, 1) := by decide +kernel
theorem d_R_back_1 : decode M_R_back.2.1 1 = .ok (.iload_n 1, 1) := by decide +kernel
theorem d_R_back_2 : decode M_R_back.2.1 2 = .ok (.invokevirtual 353, 3) := by decide +kernel
theorem d_R_back_5 : decode M_R_back.2.1 5 = .ok (.istore_n 2, 1) := by decide +kernel
theorem d_R_back_6 : decode M_R_back.2.1 6 = .ok (.iload_n 2, 1) := by decide +kernel
theorem d_R_back_7 : decode M_R_back.2.1 7 = .ok (.ifCond .eq 5, 3) := by decide +kernel
theorem d_R_back_10 : decode M_R_back.2.1 10 = .ok (.iload_n 2, 1) := by decide +kernel
theorem d_R_back_11 : decode M_R_back.2.1 11 = .ok (.ireturn, 1) := by decide +kernel
theorem d_R_back_12 : decode M_R_back.2.1 12 = .ok (.iconst 0, 1) := by decide +kernel
theorem d_R_back_13 : decode M_R_back.2.1 13 = .ok (.istore_n 3, 1) := by decide +kernel
theorem d_R_back_14 : decode M_R_back.2.1 14 = .ok (.iload_n 3, 1) := by decide +kernel
theorem d_R_back_15 : decode M_R_back.2.1 15 = .ok (.sipush 3896, 3) := by decide +kernel
theorem d_R_back_18 : decode M_R_back.2.1 18 = .ok (.if_icmp .ge 27, 3) := by decide +kernel
theorem d_R_back_21 : decode M_R_back.2.1 21 = .ok (.aload_n 0, 1) := by decide +kernel
theorem d_R_back_22 : decode M_R_back.2.1 22 = .ok (.getfield 9, 3) := by decide +kernel
theorem d_R_back_25 : decode M_R_back.2.1 25 = .ok (.iload_n 3, 1) := by decide +kernel
theorem d_R_back_26 : decode M_R_back.2.1 26 = .ok (.aload_n 0, 1) := by decide +kernel
theorem d_R_back_27 : decode M_R_back.2.1 27 = .ok (.getfield 13, 3) := by decide +kernel
theorem d_R_back_30 : decode M_R_back.2.1 30 = .ok (.sipush 3896, 3) := by decide +kernel
theorem d_R_back_33 : decode M_R_back.2.1 33 = .ok (.iload_n 1, 1) := by decide +kernel
theorem d_R_back_34 : decode M_R_back.2.1 34 = .ok (.imul, 1) := by decide +kernel
theorem d_R_back_35 : decode M_R_back.2.1 35 = .ok (.iload_n 3, 1) := by decide +kernel
theorem d_R_back_36 : decode M_R_back.2.1 36 = .ok (.iadd, 1) := by decide +kernel
theorem d_R_back_37 : decode M_R_back.2.1 37 = .ok (.iaload, 1) := by decide +kernel
theorem d_R_back_38 : decode M_R_back.2.1 38 = .ok (.iastore, 1) := by decide +kernel
theorem d_R_back_39 : decode M_R_back.2.1 39 = .ok (.iinc 3 1, 3) := by decide +kernel
theorem d_R_back_42 : decode M_R_back.2.1 42 = .ok (.goto (-28), 3) := by decide +kernel
theorem d_R_back_45 : decode M_R_back.2.1 45 = .ok (.aload_n 0, 1) := by decide +kernel
theorem d_R_back_46 : decode M_R_back.2.1 46 = .ok (.invokevirtual 160, 3) := by decide +kernel
theorem d_R_back_49 : decode M_R_back.2.1 49 = .ok (.aload_n 0, 1) := by decide +kernel
theorem d_R_back_50 : decode M_R_back.2.1 50 = .ok (.getfield 9, 3) := by decide +kernel
theorem d_R_back_53 : decode M_R_back.2.1 53 = .ok (.iconst 3, 1) := by decide +kernel
theorem d_R_back_54 : decode M_R_back.2.1 54 = .ok (.iaload, 1) := by decide +kernel
theorem d_R_back_55 : decode M_R_back.2.1 55 = .ok (.ireturn, 1) := by decide +kernel
theorem d_R_wrongCopy_0 : decode M_R_wrongCopy.2.1 0 = .ok (.iload_n 1, 1) := by decide +kernel
theorem d_R_wrongCopy_1 : decode M_R_wrongCopy.2.1 1 = .ok (.invokestatic 255, 3) := by decide +kernel
theorem d_R_wrongCopy_4 : decode M_R_wrongCopy.2.1 4 = .ok (.ifCond .ne 7, 3) := by decide +kernel
theorem d_R_wrongCopy_7 : decode M_R_wrongCopy.2.1 7 = .ok (.iconst (-1), 1) := by decide +kernel
theorem d_R_wrongCopy_8 : decode M_R_wrongCopy.2.1 8 = .ok (.goto 41, 3) := by decide +kernel
theorem d_R_wrongCopy_11 : decode M_R_wrongCopy.2.1 11 = .ok (.aload_n 0, 1) := by decide +kernel
theorem d_R_wrongCopy_12 : decode M_R_wrongCopy.2.1 12 = .ok (.getfield 16, 3) := by decide +kernel
theorem d_R_wrongCopy_15 : decode M_R_wrongCopy.2.1 15 = .ok (.iload_n 1, 1) := by decide +kernel
theorem d_R_wrongCopy_16 : decode M_R_wrongCopy.2.1 16 = .ok (.iaload, 1) := by decide +kernel
theorem d_R_wrongCopy_17 : decode M_R_wrongCopy.2.1 17 = .ok (.ifCond .ne 12, 3) := by decide +kernel
theorem d_R_wrongCopy_20 : decode M_R_wrongCopy.2.1 20 = .ok (.aload_n 0, 1) := by decide +kernel
theorem d_R_wrongCopy_21 : decode M_R_wrongCopy.2.1 21 = .ok (.bipush (-11), 2) := by decide +kernel
theorem d_R_wrongCopy_23 : decode M_R_wrongCopy.2.1 23 = .ok (.invokevirtual 252, 3) := by decide +kernel
theorem d_R_wrongCopy_26 : decode M_R_wrongCopy.2.1 26 = .ok (.goto 23, 3) := by decide +kernel
theorem d_R_wrongCopy_29 : decode M_R_wrongCopy.2.1 29 = .ok (.aload_n 0, 1) := by decide +kernel
theorem d_R_wrongCopy_30 : decode M_R_wrongCopy.2.1 30 = .ok (.getfield 16, 3) := by decide +kernel
theorem d_R_wrongCopy_33 : decode M_R_wrongCopy.2.1 33 = .ok (.iload_n 1, 1) := by decide +kernel
theorem d_R_wrongCopy_34 : decode M_R_wrongCopy.2.1 34 = .ok (.iaload, 1) := by decide +kernel
theorem d_R_wrongCopy_35 : decode M_R_wrongCopy.2.1 35 = .ok (.iconst 5, 1) := by decide +kernel
theorem d_R_wrongCopy_36 : decode M_R_wrongCopy.2.1 36 = .ok (.if_icmp .eq 12, 3) := by decide +kernel
theorem d_R_wrongCopy_39 : decode M_R_wrongCopy.2.1 39 = .ok (.aload_n 0, 1) := by decide +kernel
theorem d_R_wrongCopy_40 : decode M_R_wrongCopy.2.1 40 = .ok (.bipush (-12), 2) := by decide +kernel
theorem d_R_wrongCopy_42 : decode M_R_wrongCopy.2.1 42 = .ok (.invokevirtual 252, 3) := by decide +kernel
theorem d_R_wrongCopy_45 : decode M_R_wrongCopy.2.1 45 = .ok (.goto 4, 3) := by decide +kernel
theorem d_R_wrongCopy_48 : decode M_R_wrongCopy.2.1 48 = .ok (.iconst 0, 1) := by decide +kernel
theorem d_R_wrongCopy_49 : decode M_R_wrongCopy.2.1 49 = .ok (.ireturn, 1) := by decide +kernel
theorem d_R_toss_0 : decode M_R_toss.2.1 0 = .ok (.aload_n 0, 1) := by decide +kernel
theorem d_R_toss_1 : decode M_R_toss.2.1 1 = .ok (.iload_n 1, 1) := by decide +kernel
theorem d_R_toss_2 : decode M_R_toss.2.1 2 = .ok (.invokevirtual 353, 3) := by decide +kernel
theorem d_R_toss_5 : decode M_R_toss.2.1 5 = .ok (.istore_n 2, 1) := by decide +kernel
theorem d_R_toss_6 : decode M_R_toss.2.1 6 = .ok (.iload_n 2, 1) := by decide +kernel
theorem d_R_toss_7 : decode M_R_toss.2.1 7 = .ok (.ifCond .eq 5, 3) := by decide +kernel
theorem d_R_toss_10 : decode M_R_toss.2.1 10 = .ok (.iload_n 2, 1) := by decide +kernel
theorem d_R_toss_11 : decode M_R_toss.2.1 11 = .ok (.ireturn, 1) := by decide +kernel
theorem d_R_toss_12 : decode M_R_toss.2.1 12 = .ok (.iconst 0, 1) := by decide +kernel
theorem d_R_toss_13 : decode M_R_toss.2.1 13 = .ok (.istore_n 3, 1) := by decide +kernel
theorem d_R_toss_14 : decode M_R_toss.2.1 14 = .ok (.iload_n 3, 1) := by decide +kernel
theorem d_R_toss_15 : decode M_R_toss.2.1 15 = .ok (.sipush 3896, 3) := by decide +kernel
theorem d_R_toss_18 : decode M_R_toss.2.1 18 = .ok (.if_icmp .ge 27, 3) := by decide +kernel
theorem d_R_toss_21 : decode M_R_toss.2.1 21 = .ok (.aload_n 0, 1) := by decide +kernel
theorem d_R_toss_22 : decode M_R_toss.2.1 22 = .ok (.getfield 139, 3) := by decide +kernel
theorem d_R_toss_25 : decode M_R_toss.2.1 25 = .ok (.iload_n 3, 1) := by decide +kernel
theorem d_R_toss_26 : decode M_R_toss.2.1 26 = .ok (.aload_n 0, 1) := by decide +kernel
theorem d_R_toss_27 : decode M_R_toss.2.1 27 = .ok (.getfield 13, 3) := by decide +kernel
theorem d_R_toss_30 : decode M_R_toss.2.1 30 = .ok (.sipush 3896, 3) := by decide +kernel
theorem d_R_toss_33 : decode M_R_toss.2.1 33 = .ok (.iload_n 1, 1) := by decide +kernel
theorem d_R_toss_34 : decode M_R_toss.2.1 34 = .ok (.imul, 1) := by decide +kernel
theorem d_R_toss_35 : decode M_R_toss.2.1 35 = .ok (.iload_n 3, 1) := by decide +kernel
theorem d_R_toss_36 : decode M_R_toss.2.1 36 = .ok (.iadd, 1) := by decide +kernel
theorem d_R_toss_37 : decode M_R_toss.2.1 37 = .ok (.iaload, 1) := by decide +kernel
theorem d_R_toss_38 : decode M_R_toss.2.1 38 = .ok (.iastore, 1) := by decide +kernel
theorem d_R_toss_39 : decode M_R_toss.2.1 39 = .ok (.iinc 3 1, 3) := by decide +kernel
theorem d_R_toss_42 : decode M_R_toss.2.1 42 = .ok (.goto (-28), 3) := by decide +kernel
theorem d_R_toss_45 : decode M_R_toss.2.1 45 = .ok (.aload_n 0, 1) := by decide +kernel
theorem d_R_toss_46 : decode M_R_toss.2.1 46 = .ok (.aload_n 0, 1) := by decide +kernel
theorem d_R_toss_47 : decode M_R_toss.2.1 47 = .ok (.getfield 139, 3) := by decide +kernel
theorem d_R_toss_50 : decode M_R_toss.2.1 50 = .ok (.iconst (-1), 1) := by decide +kernel
theorem d_R_toss_51 : decode M_R_toss.2.1 51 = .ok (.iconst 0, 1) := by decide +kernel
theorem d_R_toss_52 : decode M_R_toss.2.1 52 = .ok (.invokevirtual 196, 3) := by decide +kernel
theorem d_R_toss_55 : decode M_R_toss.2.1 55 = .ok (.aload_n 0, 1) := by decide +kernel
theorem d_R_toss_56 : decode M_R_toss.2.1 56 = .ok (.getfield 200, 3) := by decide +kernel
theorem d_R_toss_59 : decode M_R_toss.2.1 59 = .ok (.ifCond .ne 12, 3) := by decide +kernel
theorem d_R_toss_62 : decode M_R_toss.2.1 62 = .ok (.aload_n 0, 1) := by decide +kernel
theorem d_R_toss_63 : decode M_R_toss.2.1 63 = .ok (.bipush (-15), 2) := by decide +kernel
theorem d_R_toss_65 : decode M_R_toss.2.1 65 = .ok (.invokevirtual 252, 3) := by decide +kernel
theorem d_R_toss_68 : decode M_R_toss.2.1 68 = .ok (.goto 7, 3) := by decide +kernel
theorem d_R_toss_71 : decode M_R_toss.2.1 71 = .ok (.aload_n 0, 1) := by decide +kernel
theorem d_R_toss_72 : decode M_R_toss.2.1 72 = .ok (.getfield 200, 3) := by decide +kernel
theorem d_R_toss_75 : decode M_R_toss.2.1 75 = .ok (.ireturn, 1) := by decide +kernel
theorem d_R_clear_0 : decode M_R_clear.2.1 0 = .ok (.iload_n 1, 1) := by decide +kernel
theorem d_R_clear_1 : decode M_R_clear.2.1 1 = .ok (.invokestatic 255, 3) := by decide +kernel
theorem d_R_clear_4 : decode M_R_clear.2.1 4 = .ok (.ifCond .ne 5, 3) := by decide +kernel
theorem d_R_clear_7 : decode M_R_clear.2.1 7 = .ok (.iconst (-1), 1) := by decide +kernel
theorem d_R_clear_8 : decode M_R_clear.2.1 8 = .ok (.ireturn, 1) := by decide +kernel
theorem d_R_clear_9 : decode M_R_clear.2.1 9 = .ok (.aload_n 0, 1) := by decide +kernel
theorem d_R_clear_10 : decode M_R_clear.2.1 10 = .ok (.getfield 16, 3) := by decide +kernel
theorem d_R_clear_13 : decode M_R_clear.2.1 13 = .ok (.iload_n 1, 1) := by decide +kernel
theorem d_R_clear_14 : decode M_R_clear.2.1 14 = .ok (.iaload, 1) := by decide +kernel
theorem d_R_clear_15 : decode M_R_clear.2.1 15 = .ok (.istore_n 2, 1) := by decide +kernel
theorem d_R_clear_16 : decode M_R_clear.2.1 16 = .ok (.aload_n 0, 1) := by decide +kernel
theorem d_R_clear_17 : decode M_R_clear.2.1 17 = .ok (.getfield 16, 3) := by decide +kernel
theorem d_R_clear_20 : decode M_R_clear.2.1 20 = .ok (.iload_n 1, 1) := by decide +kernel
theorem d_R_clear_21 : decode M_R_clear.2.1 21 = .ok (.iconst 0, 1) := by decide +kernel
theorem d_R_clear_22 : decode M_R_clear.2.1 22 = .ok (.iastore, 1) := by decide +kernel
theorem d_R_clear_23 : decode M_R_clear.2.1 23 = .ok (.aload_n 0, 1) := by decide +kernel
theorem d_R_clear_24 : decode M_R_clear.2.1 24 = .ok (.getfield 19, 3) := by decide +kernel
theorem d_R_clear_27 : decode M_R_clear.2.1 27 = .ok (.iload_n 1, 1) := by decide +kernel
theorem d_R_clear_28 : decode M_R_clear.2.1 28 = .ok (.iconst 0, 1) := by decide +kernel
theorem d_R_clear_29 : decode M_R_clear.2.1 29 = .ok (.iastore, 1) := by decide +kernel
theorem d_R_clear_30 : decode M_R_clear.2.1 30 = .ok (.iload_n 2, 1) := by decide +kernel
theorem d_R_clear_31 : decode M_R_clear.2.1 31 = .ok (.ireturn, 1) := by decide +kernel
theorem d_R_put_0 : decode M_R_put.2.1 0 = .ok (.iload_n 1, 1) := by decide +kernel
theorem d_R_put_1 : decode M_R_put.2.1 1 = .ok (.invokestatic 255, 3) := by decide +kernel
theorem d_R_put_4 : decode M_R_put.2.1 4 = .ok (.ifCond .ne 5, 3) := by decide +kernel
theorem d_R_put_7 : decode M_R_put.2.1 7 = .ok (.iconst (-1), 1) := by decide +kernel
theorem d_R_put_8 : decode M_R_put.2.1 8 = .ok (.ireturn, 1) := by decide +kernel
theorem d_R_put_9 : decode M_R_put.2.1 9 = .ok (.aload_n 0, 1) := by decide +kernel
theorem d_R_put_10 : decode M_R_put.2.1 10 = .ok (.getfield 16, 3) := by decide +kernel
theorem d_R_put_13 : decode M_R_put.2.1 13 = .ok (.iload_n 1, 1) := by decide +kernel
theorem d_R_put_14 : decode M_R_put.2.1 14 = .ok (.iaload, 1) := by decide +kernel
theorem d_R_put_15 : decode M_R_put.2.1 15 = .ok (.ifCond .ne 10, 3) := by decide +kernel
theorem d_R_put_18 : decode M_R_put.2.1 18 = .ok (.aload_n 0, 1) := by decide +kernel
theorem d_R_put_19 : decode M_R_put.2.1 19 = .ok (.bipush (-11), 2) := by decide +kernel
theorem d_R_put_21 : decode M_R_put.2.1 21 = .ok (.invokevirtual 252, 3) := by decide +kernel
theorem d_R_put_24 : decode M_R_put.2.1 24 = .ok (.ireturn, 1) := by decide +kernel
theorem d_R_put_25 : decode M_R_put.2.1 25 = .ok (.aload_n 0, 1) := by decide +kernel
theorem d_R_put_26 : decode M_R_put.2.1 26 = .ok (.getfield 16, 3) := by decide +kernel
theorem d_R_put_29 : decode M_R_put.2.1 29 = .ok (.iload_n 1, 1) := by decide +kernel
theorem d_R_put_30 : decode M_R_put.2.1 30 = .ok (.iaload, 1) := by decide +kernel
theorem d_R_put_31 : decode M_R_put.2.1 31 = .ok (.iconst 5, 1) := by decide +kernel
theorem d_R_put_32 : decode M_R_put.2.1 32 = .ok (.if_icmp .ne 10, 3) := by decide +kernel
theorem d_R_put_35 : decode M_R_put.2.1 35 = .ok (.aload_n 0, 1) := by decide +kernel
theorem d_R_put_36 : decode M_R_put.2.1 36 = .ok (.bipush (-12), 2) := by decide +kernel
theorem d_R_put_38 : decode M_R_put.2.1 38 = .ok (.invokevirtual 252, 3) := by decide +kernel
theorem d_R_put_41 : decode M_R_put.2.1 41 = .ok (.ireturn, 1) := by decide +kernel
theorem d_R_put_42 : decode M_R_put.2.1 42 = .ok (.iload_n 2, 1) := by decide +kernel
theorem d_R_put_43 : decode M_R_put.2.1 43 = .ok (.iconst 0, 1) := by decide +kernel
theorem d_R_put_44 : decode M_R_put.2.1 44 = .ok (.aload_n 0, 1) := by decide +kernel
theorem d_R_put_45 : decode M_R_put.2.1 45 = .ok (.getfield 19, 3) := by decide +kernel
theorem d_R_put_48 : decode M_R_put.2.1 48 = .ok (.iload_n 1, 1) := by decide +kernel
theorem d_R_put_49 : decode M_R_put.2.1 49 = .ok (.iaload, 1) := by decide +kernel
theorem d_R_put_50 : decode M_R_put.2.1 50 = .ok (.iconst 1, 1) := by decide +kernel
theorem d_R_put_51 : decode M_R_put.2.1 51 = .ok (.isub, 1) := by decide +kernel
theorem d_R_put_52 : decode M_R_put.2.1 52 = .ok (.invokestatic 153, 3) := by decide +kernel
theorem d_R_put_55 : decode M_R_put.2.1 55 = .ok (.ifCond .ne 10, 3) := by decide +kernel
theorem d_R_put_58 : decode M_R_put.2.1 58 = .ok (.aload_n 0, 1) := by decide +kernel
theorem d_R_put_59 : decode M_R_put.2.1 59 = .ok (.bipush (-13), 2) := by decide +kernel
theorem d_R_put_61 : decode M_R_put.2.1 61 = .ok (.invokevirtual 252, 3) := by decide +kernel
theorem d_R_put_64 : decode M_R_put.2.1 64 = .ok (.ireturn, 1) := by decide +kernel
theorem d_R_put_65 : decode M_R_put.2.1 65 = .ok (.aload_n 0, 1) := by decide +kernel
theorem d_R_put_66 : decode M_R_put.2.1 66 = .ok (.getfield 22, 3) := by decide +kernel
theorem d_R_put_69 : decode M_R_put.2.1 69 = .ok (.bipush 64, 2) := by decide +kernel
theorem d_R_put_71 : decode M_R_put.2.1 71 = .ok (.iload_n 1, 1) := by decide +kernel
theorem d_R_put_72 : decode M_R_put.2.1 72 = .ok (.imul, 1) := by decide +kernel
theorem d_R_put_73 : decode M_R_put.2.1 73 = .ok (.iload_n 2, 1) := by decide +kernel
theorem d_R_put_74 : decode M_R_put.2.1 74 = .ok (.iadd, 1) := by decide +kernel
theorem d_R_put_75 : decode M_R_put.2.1 75 = .ok (.aload_n 0, 1) := by decide +kernel
theorem d_R_put_76 : decode M_R_put.2.1 76 = .ok (.getfield 16, 3) := by decide +kernel
theorem d_R_put_79 : decode M_R_put.2.1 79 = .ok (.iload_n 1, 1) := by decide +kernel
theorem d_R_put_80 : decode M_R_put.2.1 80 = .ok (.iaload, 1) := by decide +kernel
theorem d_R_put_81 : decode M_R_put.2.1 81 = .ok (.lload_n 3, 1) := by decide +kernel
theorem d_R_put_82 : decode M_R_put.2.1 82 = .ok (.invokestatic 356, 3) := by decide +kernel
theorem d_R_put_85 : decode M_R_put.2.1 85 = .ok (.lastore, 1) := by decide +kernel
theorem d_R_put_86 : decode M_R_put.2.1 86 = .ok (.iconst 1, 1) := by decide +kernel
theorem d_R_put_87 : decode M_R_put.2.1 87 = .ok (.ireturn, 1) := by decide +kernel
theorem d_R_narrow_0 : decode M_R_narrow.2.1 0 = .ok (.iload_n 0, 1) := by decide +kernel
theorem d_R_narrow_1 : decode M_R_narrow.2.1 1 = .ok (.iconst 1, 1) := by decide +kernel
theorem d_R_narrow_2 : decode M_R_narrow.2.1 2 = .ok (.if_icmp .ne 10, 3) := by decide +kernel
theorem d_R_narrow_5 : decode M_R_narrow.2.1 5 = .ok (.lload_n 1, 1) := by decide +kernel
theorem d_R_narrow_6 : decode M_R_narrow.2.1 6 = .ok (.l2i, 1) := by decide +kernel
theorem d_R_narrow_7 : decode M_R_narrow.2.1 7 = .ok (.i2b, 1) := by decide +kernel
theorem d_R_narrow_8 : decode M_R_narrow.2.1 8 = .ok (.i2l, 1) := by decide +kernel
theorem d_R_narrow_9 : decode M_R_narrow.2.1 9 = .ok (.goto 27, 3) := by decide +kernel
theorem d_R_narrow_12 : decode M_R_narrow.2.1 12 = .ok (.iload_n 0, 1) := by decide +kernel
theorem d_R_narrow_13 : decode M_R_narrow.2.1 13 = .ok (.iconst 2, 1) := by decide +kernel
theorem d_R_narrow_14 : decode M_R_narrow.2.1 14 = .ok (.if_icmp .ne 10, 3) := by decide +kernel
theorem d_R_narrow_17 : decode M_R_narrow.2.1 17 = .ok (.lload_n 1, 1) := by decide +kernel
theorem d_R_narrow_18 : decode M_R_narrow.2.1 18 = .ok (.l2i, 1) := by decide +kernel
theorem d_R_narrow_19 : decode M_R_narrow.2.1 19 = .ok (.i2s, 1) := by decide +kernel
theorem d_R_narrow_20 : decode M_R_narrow.2.1 20 = .ok (.i2l, 1) := by decide +kernel
theorem d_R_narrow_21 : decode M_R_narrow.2.1 21 = .ok (.goto 15, 3) := by decide +kernel
theorem d_R_narrow_24 : decode M_R_narrow.2.1 24 = .ok (.iload_n 0, 1) := by decide +kernel
theorem d_R_narrow_25 : decode M_R_narrow.2.1 25 = .ok (.iconst 3, 1) := by decide +kernel
theorem d_R_narrow_26 : decode M_R_narrow.2.1 26 = .ok (.if_icmp .ne 9, 3) := by decide +kernel
theorem d_R_narrow_29 : decode M_R_narrow.2.1 29 = .ok (.lload_n 1, 1) := by decide +kernel
theorem d_R_narrow_30 : decode M_R_narrow.2.1 30 = .ok (.l2i, 1) := by decide +kernel
theorem d_R_narrow_31 : decode M_R_narrow.2.1 31 = .ok (.i2l, 1) := by decide +kernel
theorem d_R_narrow_32 : decode M_R_narrow.2.1 32 = .ok (.goto 4, 3) := by decide +kernel
theorem d_R_narrow_35 : decode M_R_narrow.2.1 35 = .ok (.lload_n 1, 1) := by decide +kernel
theorem d_R_narrow_36 : decode M_R_narrow.2.1 36 = .ok (.lreturn, 1) := by decide +kernel
theorem d_R_at_0 : decode M_R_at.2.1 0 = .ok (.aload_n 0, 1) := by decide +kernel
theorem d_R_at_1 : decode M_R_at.2.1 1 = .ok (.iconst 0, 1) := by decide +kernel
theorem d_R_at_2 : decode M_R_at.2.1 2 = .ok (.putfield 146, 3) := by decide +kernel
theorem d_R_at_5 : decode M_R_at.2.1 5 = .ok (.iload_n 1, 1) := by decide +kernel
theorem d_R_at_6 : decode M_R_at.2.1 6 = .ok (.invokestatic 255, 3) := by decide +kernel
theorem d_R_at_9 : decode M_R_at.2.1 9 = .ok (.ifCond .ne 11, 3) := by decide +kernel
theorem d_R_at_12 : decode M_R_at.2.1 12 = .ok (.aload_n 0, 1) := by decide +kernel
theorem d_R_at_13 : decode M_R_at.2.1 13 = .ok (.iconst 1, 1) := by decide +kernel
theorem d_R_at_14 : decode M_R_at.2.1 14 = .ok (.putfield 146, 3) := by decide +kernel
theorem d_R_at_17 : decode M_R_at.2.1 17 = .ok (.goto 43, 3) := by decide +kernel
theorem d_R_at_20 : decode M_R_at.2.1 20 = .ok (.aload_n 0, 1) := by decide +kernel
theorem d_R_at_21 : decode M_R_at.2.1 21 = .ok (.getfield 16, 3) := by decide +kernel
theorem d_R_at_24 : decode M_R_at.2.1 24 = .ok (.iload_n 1, 1) := by decide +kernel
theorem d_R_at_25 : decode M_R_at.2.1 25 = .ok (.iaload, 1) := by decide +kernel
theorem d_R_at_26 : decode M_R_at.2.1 26 = .ok (.ifCond .eq 29, 3) := by decide +kernel
theorem d_R_at_29 : decode M_R_at.2.1 29 = .ok (.aload_n 0, 1) := by decide +kernel
theorem d_R_at_30 : decode M_R_at.2.1 30 = .ok (.getfield 16, 3) := by decide +kernel
theorem d_R_at_33 : decode M_R_at.2.1 33 = .ok (.iload_n 1, 1) := by decide +kernel
theorem d_R_at_34 : decode M_R_at.2.1 34 = .ok (.iaload, 1) := by decide +kernel
theorem d_R_at_35 : decode M_R_at.2.1 35 = .ok (.iconst 5, 1) := by decide +kernel
theorem d_R_at_36 : decode M_R_at.2.1 36 = .ok (.if_icmp .eq 19, 3) := by decide +kernel
theorem d_R_at_39 : decode M_R_at.2.1 39 = .ok (.iload_n 2, 1) := by decide +kernel
theorem d_R_at_40 : decode M_R_at.2.1 40 = .ok (.iconst 0, 1) := by decide +kernel
theorem d_R_at_41 : decode M_R_at.2.1 41 = .ok (.aload_n 0, 1) := by decide +kernel
theorem d_R_at_42 : decode M_R_at.2.1 42 = .ok (.getfield 19, 3) := by decide +kernel
theorem d_R_at_45 : decode M_R_at.2.1 45 = .ok (.iload_n 1, 1) := by decide +kernel
theorem d_R_at_46 : decode M_R_at.2.1 46 = .ok (.iaload, 1) := by decide +kernel
theorem d_R_at_47 : decode M_R_at.2.1 47 = .ok (.iconst 1, 1) := by decide +kernel
theorem d_R_at_48 : decode M_R_at.2.1 48 = .ok (.isub, 1) := by decide +kernel
theorem d_R_at_49 : decode M_R_at.2.1 49 = .ok (.invokestatic 153, 3) := by decide +kernel
theorem d_R_at_52 : decode M_R_at.2.1 52 = .ok (.ifCond .ne 8, 3) := by decide +kernel
theorem d_R_at_55 : decode M_R_at.2.1 55 = .ok (.aload_n 0, 1) := by decide +kernel
theorem d_R_at_56 : decode M_R_at.2.1 56 = .ok (.iconst 2, 1) := by decide +kernel
theorem d_R_at_57 : decode M_R_at.2.1 57 = .ok (.putfield 146, 3) := by decide +kernel
theorem d_R_at_60 : decode M_R_at.2.1 60 = .ok (.aload_n 0, 1) := by decide +kernel
theorem d_R_at_61 : decode M_R_at.2.1 61 = .ok (.getfield 146, 3) := by decide +kernel
theorem d_R_at_64 : decode M_R_at.2.1 64 = .ok (.ifCond .ne 17, 3) := by decide +kernel
theorem d_R_at_67 : decode M_R_at.2.1 67 = .ok (.aload_n 0, 1) := by decide +kernel
theorem d_R_at_68 : decode M_R_at.2.1 68 = .ok (.getfield 22, 3) := by decide +kernel
theorem d_R_at_71 : decode M_R_at.2.1 71 = .ok (.bipush 64, 2) := by decide +kernel
theorem d_R_at_73 : decode M_R_at.2.1 73 = .ok (.iload_n 1, 1) := by decide +kernel
theorem d_R_at_74 : decode M_R_at.2.1 74 = .ok (.imul, 1) := by decide +kernel
theorem d_R_at_75 : decode M_R_at.2.1 75 = .ok (.iload_n 2, 1) := by decide +kernel
theorem d_R_at_76 : decode M_R_at.2.1 76 = .ok (.iadd, 1) := by decide +kernel
theorem d_R_at_77 : decode M_R_at.2.1 77 = .ok (.laload, 1) := by decide +kernel
theorem d_R_at_78 : decode M_R_at.2.1 78 = .ok (.goto 4, 3) := by decide +kernel
theorem d_R_at_81 : decode M_R_at.2.1 81 = .ok (.lconst 0, 1) := by decide +kernel
theorem d_R_at_82 : decode M_R_at.2.1 82 = .ok (.lreturn, 1) := by decide +kernel
theorem d_R_copy_0 : decode M_R_copy.2.1 0 = .ok (.iload_n 1, 1) := by decide +kernel
theorem d_R_copy_1 : decode M_R_copy.2.1 1 = .ok (.invokestatic 255, 3) := by decide +kernel
theorem d_R_copy_4 : decode M_R_copy.2.1 4 = .ok (.ifCond .eq 10, 3) := by decide +kernel
theorem d_R_copy_7 : decode M_R_copy.2.1 7 = .ok (.iload_n 3, 1) := by decide +kernel
theorem d_R_copy_8 : decode M_R_copy.2.1 8 = .ok (.invokestatic 255, 3) := by decide +kernel
theorem d_R_copy_11 : decode M_R_copy.2.1 11 = .ok (.ifCond .ne 5, 3) := by decide +kernel
theorem d_R_copy_14 : decode M_R_copy.2.1 14 = .ok (.iconst (-1), 1) := by decide +kernel
theorem d_R_copy_15 : decode M_R_copy.2.1 15 = .ok (.ireturn, 1) := by decide +kernel
theorem d_R_copy_16 : decode M_R_copy.2.1 16 = .ok (.aload_n 0, 1) := by decide +kernel
theorem d_R_copy_17 : decode M_R_copy.2.1 17 = .ok (.getfield 16, 3) := by decide +kernel
theorem d_R_copy_20 : decode M_R_copy.2.1 20 = .ok (.iload_n 1, 1) := by decide +kernel
theorem d_R_copy_21 : decode M_R_copy.2.1 21 = .ok (.iaload, 1) := by decide +kernel
theorem d_R_copy_22 : decode M_R_copy.2.1 22 = .ok (.ifCond .eq 12, 3) := by decide +kernel
theorem d_R_copy_25 : decode M_R_copy.2.1 25 = .ok (.aload_n 0, 1) := by decide +kernel
theorem d_R_copy_26 : decode M_R_copy.2.1 26 = .ok (.getfield 16, 3) := by decide +kernel
theorem d_R_copy_29 : decode M_R_copy.2.1 29 = .ok (.iload_n 3, 1) := by decide +kernel
theorem d_R_copy_30 : decode M_R_copy.2.1 30 = .ok (.iaload, 1) := by decide +kernel
theorem d_R_copy_31 : decode M_R_copy.2.1 31 = .ok (.ifCond .ne 10, 3) := by decide +kernel
theorem d_R_copy_34 : decode M_R_copy.2.1 34 = .ok (.aload_n 0, 1) := by decide +kernel
theorem d_R_copy_35 : decode M_R_copy.2.1 35 = .ok (.bipush (-11), 2) := by decide +kernel
theorem d_R_copy_37 : decode M_R_copy.2.1 37 = .ok (.invokevirtual 252, 3) := by decide +kernel
theorem d_R_copy_40 : decode M_R_copy.2.1 40 = .ok (.ireturn, 1) := by decide +kernel
theorem d_R_copy_41 : decode M_R_copy.2.1 41 = .ok (.aload_n 0, 1) := by decide +kernel
theorem d_R_copy_42 : decode M_R_copy.2.1 42 = .ok (.getfield 16, 3) := by decide +kernel
theorem d_R_copy_45 : decode M_R_copy.2.1 45 = .ok (.iload_n 1, 1) := by decide +kernel
theorem d_R_copy_46 : decode M_R_copy.2.1 46 = .ok (.iaload, 1) := by decide +kernel
theorem d_R_copy_47 : decode M_R_copy.2.1 47 = .ok (.iconst 5, 1) := by decide +kernel
theorem d_R_copy_48 : decode M_R_copy.2.1 48 = .ok (.if_icmp .eq 18, 3) := by decide +kernel
theorem d_R_copy_51 : decode M_R_copy.2.1 51 = .ok (.aload_n 0, 1) := by decide +kernel
theorem d_R_copy_52 : decode M_R_copy.2.1 52 = .ok (.getfield 16, 3) := by decide +kernel
theorem d_R_copy_55 : decode M_R_copy.2.1 55 = .ok (.iload_n 1, 1) := by decide +kernel
theorem d_R_copy_56 : decode M_R_copy.2.1 56 = .ok (.iaload, 1) := by decide +kernel
theorem d_R_copy_57 : decode M_R_copy.2.1 57 = .ok (.aload_n 0, 1) := by decide +kernel
theorem d_R_copy_58 : decode M_R_copy.2.1 58 = .ok (.getfield 16, 3) := by decide +kernel
theorem d_R_copy_61 : decode M_R_copy.2.1 61 = .ok (.iload_n 3, 1) := by decide +kernel
theorem d_R_copy_62 : decode M_R_copy.2.1 62 = .ok (.iaload, 1) := by decide +kernel
theorem d_R_copy_63 : decode M_R_copy.2.1 63 = .ok (.if_icmp .eq 10, 3) := by decide +kernel
theorem d_R_copy_66 : decode M_R_copy.2.1 66 = .ok (.aload_n 0, 1) := by decide +kernel
theorem d_R_copy_67 : decode M_R_copy.2.1 67 = .ok (.bipush (-12), 2) := by decide +kernel
theorem d_R_copy_69 : decode M_R_copy.2.1 69 = .ok (.invokevirtual 252, 3) := by decide +kernel
theorem d_R_copy_72 : decode M_R_copy.2.1 72 = .ok (.ireturn, 1) := by decide +kernel
theorem d_R_copy_73 : decode M_R_copy.2.1 73 = .ok (.iload 5, 2) := by decide +kernel
theorem d_R_copy_75 : decode M_R_copy.2.1 75 = .ok (.ifCond .lt 39, 3) := by decide +kernel
theorem d_R_copy_78 : decode M_R_copy.2.1 78 = .ok (.iload_n 2, 1) := by decide +kernel
theorem d_R_copy_79 : decode M_R_copy.2.1 79 = .ok (.ifCond .lt 35, 3) := by decide +kernel
theorem d_R_copy_82 : decode M_R_copy.2.1 82 = .ok (.iload 4, 2) := by decide +kernel
theorem d_R_copy_84 : decode M_R_copy.2.1 84 = .ok (.ifCond .lt 30, 3) := by decide +kernel
theorem d_R_copy_87 : decode M_R_copy.2.1 87 = .ok (.iload 5, 2) := by decide +kernel
theorem d_R_copy_89 : decode M_R_copy.2.1 89 = .ok (.aload_n 0, 1) := by decide +kernel
theorem d_R_copy_90 : decode M_R_copy.2.1 90 = .ok (.getfield 19, 3) := by decide +kernel
theorem d_R_copy_93 : decode M_R_copy.2.1 93 = .ok (.iload_n 1, 1) := by decide +kernel
theorem d_R_copy_94 : decode M_R_copy.2.1 94 = .ok (.iaload, 1) := by decide +kernel
theorem d_R_copy_95 : decode M_R_copy.2.1 95 = .ok (.iload_n 2, 1) := by decide +kernel
theorem d_R_copy_96 : decode M_R_copy.2.1 96 = .ok (.isub, 1) := by decide +kernel
theorem d_R_copy_97 : decode M_R_copy.2.1 97 = .ok (.if_icmp .gt 17, 3) := by decide +kernel
theorem d_R_copy_100 : decode M_R_copy.2.1 100 = .ok (.iload 5, 2) := by decide +kernel
theorem d_R_copy_102 : decode M_R_copy.2.1 102 = .ok (.aload_n 0, 1) := by decide +kernel
theorem d_R_copy_103 : decode M_R_copy.2.1 103 = .ok (.getfield 19, 3) := by decide +kernel
theorem d_R_copy_106 : decode M_R_copy.2.1 106 = .ok (.iload_n 3, 1) := by decide +kernel
theorem d_R_copy_107 : decode M_R_copy.2.1 107 = .ok (.iaload, 1) := by decide +kernel
theorem d_R_copy_108 : decode M_R_copy.2.1 108 = .ok (.iload 4, 2) := by decide +kernel
theorem d_R_copy_110 : decode M_R_copy.2.1 110 = .ok (.isub, 1) := by decide +kernel
theorem d_R_copy_111 : decode M_R_copy.2.1 111 = .ok (.if_icmp .le 10, 3) := by decide +kernel
theorem d_R_copy_114 : decode M_R_copy.2.1 114 = .ok (.aload_n 0, 1) := by decide +kernel
theorem d_R_copy_115 : decode M_R_copy.2.1 115 = .ok (.bipush (-13), 2) := by decide +kernel
theorem d_R_copy_117 : decode M_R_copy.2.1 117 = .ok (.invokevirtual 252, 3) := by decide +kernel
theorem d_R_copy_120 : decode M_R_copy.2.1 120 = .ok (.ireturn, 1) := by decide +kernel
theorem d_R_copy_121 : decode M_R_copy.2.1 121 = .ok (.iconst 0, 1) := by decide +kernel
theorem d_R_copy_122 : decode M_R_copy.2.1 122 = .ok (.istore 6, 2) := by decide +kernel
theorem d_R_copy_124 : decode M_R_copy.2.1 124 = .ok (.iload 6, 2) := by decide +kernel
theorem d_R_copy_126 : decode M_R_copy.2.1 126 = .ok (.iload 5, 2) := by decide +kernel
theorem d_R_copy_128 : decode M_R_copy.2.1 128 = .ok (.if_icmp .ge 58, 3) := by decide +kernel
theorem d_R_copy_131 : decode M_R_copy.2.1 131 = .ok (.iload_n 2, 1) := by decide +kernel
theorem d_R_copy_132 : decode M_R_copy.2.1 132 = .ok (.iload 4, 2) := by decide +kernel
theorem d_R_copy_134 : decode M_R_copy.2.1 134 = .ok (.if_icmp .le 8, 3) := by decide +kernel
theorem d_R_copy_137 : decode M_R_copy.2.1 137 = .ok (.iload 6, 2) := by decide +kernel
theorem d_R_copy_139 : decode M_R_copy.2.1 139 = .ok (.goto 10, 3) := by decide +kernel
theorem d_R_copy_142 : decode M_R_copy.2.1 142 = .ok (.iload 5, 2) := by decide +kernel
theorem d_R_copy_144 : decode M_R_copy.2.1 144 = .ok (.iconst 1, 1) := by decide +kernel
theorem d_R_copy_145 : decode M_R_copy.2.1 145 = .ok (.isub, 1) := by decide +kernel
theorem d_R_copy_146 : decode M_R_copy.2.1 146 = .ok (.iload 6, 2) := by decide +kernel
theorem d_R_copy_148 : decode M_R_copy.2.1 148 = .ok (.isub, 1) := by decide +kernel
theorem d_R_copy_149 : decode M_R_copy.2.1 149 = .ok (.istore 7, 2) := by decide +kernel
theorem d_R_copy_151 : decode M_R_copy.2.1 151 = .ok (.aload_n 0, 1) := by decide +kernel
theorem d_R_copy_152 : decode M_R_copy.2.1 152 = .ok (.getfield 22, 3) := by decide +kernel
theorem d_R_copy_155 : decode M_R_copy.2.1 155 = .ok (.bipush 64, 2) := by decide +kernel
theorem d_R_copy_157 : decode M_R_copy.2.1 157 = .ok (.iload_n 3, 1) := by decide +kernel
theorem d_R_copy_158 : decode M_R_copy.2.1 158 = .ok (.imul, 1) := by decide +kernel
theorem d_R_copy_159 : decode M_R_copy.2.1 159 = .ok (.iload 4, 2) := by decide +kernel
theorem d_R_copy_161 : decode M_R_copy.2.1 161 = .ok (.iadd, 1) := by decide +kernel
theorem d_R_copy_162 : decode M_R_copy.2.1 162 = .ok (.iload 7, 2) := by decide +kernel
theorem d_R_copy_164 : decode M_R_copy.2.1 164 = .ok (.iadd, 1) := by decide +kernel
theorem d_R_copy_165 : decode M_R_copy.2.1 165 = .ok (.aload_n 0, 1) := by decide +kernel
theorem d_R_copy_166 : decode M_R_copy.2.1 166 = .ok (.getfield 22, 3) := by decide +kernel
theorem d_R_copy_169 : decode M_R_copy.2.1 169 = .ok (.bipush 64, 2) := by decide +kernel
theorem d_R_copy_171 : decode M_R_copy.2.1 171 = .ok (.iload_n 1, 1) := by decide +kernel
theorem d_R_copy_172 : decode M_R_copy.2.1 172 = .ok (.imul, 1) := by decide +kernel
theorem d_R_copy_173 : decode M_R_copy.2.1 173 = .ok (.iload_n 2, 1) := by decide +kernel
theorem d_R_copy_174 : decode M_R_copy.2.1 174 = .ok (.iadd, 1) := by decide +kernel
theorem d_R_copy_175 : decode M_R_copy.2.1 175 = .ok (.iload 7, 2) := by decide +kernel
theorem d_R_copy_177 : decode M_R_copy.2.1 177 = .ok (.iadd, 1) := by decide +kernel
theorem d_R_copy_178 : decode M_R_copy.2.1 178 = .ok (.laload, 1) := by decide +kernel
theorem d_R_copy_179 : decode M_R_copy.2.1 179 = .ok (.lastore, 1) := by decide +kernel
theorem d_R_copy_180 : decode M_R_copy.2.1 180 = .ok (.iinc 6 1, 3) := by decide +kernel
theorem d_R_copy_183 : decode M_R_copy.2.1 183 = .ok (.goto (-59), 3) := by decide +kernel
theorem d_R_copy_186 : decode M_R_copy.2.1 186 = .ok (.iload 5, 2) := by decide +kernel
theorem d_R_copy_188 : decode M_R_copy.2.1 188 = .ok (.ireturn, 1) := by decide +kernel
theorem d_R_count_0 : decode M_R_count.2.1 0 = .ok (.iconst 0, 1) := by decide +kernel
theorem d_R_count_1 : decode M_R_count.2.1 1 = .ok (.istore_n 2, 1) := by decide +kernel
theorem d_R_count_2 : decode M_R_count.2.1 2 = .ok (.iload_n 1, 1) := by decide +kernel
theorem d_R_count_3 : decode M_R_count.2.1 3 = .ok (.bipush 10, 2) := by decide +kernel
theorem d_R_count_5 : decode M_R_count.2.1 5 = .ok (.bipush 12, 2) := by decide +kernel
theorem d_R_count_7 : decode M_R_count.2.1 7 = .ok (.invokestatic 153, 3) := by decide +kernel
theorem d_R_count_10 : decode M_R_count.2.1 10 = .ok (.ifCond .eq 13, 3) := by decide +kernel
theorem d_R_count_13 : decode M_R_count.2.1 13 = .ok (.aload_n 0, 1) := by decide +kernel
theorem d_R_count_14 : decode M_R_count.2.1 14 = .ok (.getfield 29, 3) := by decide +kernel
theorem d_R_count_17 : decode M_R_count.2.1 17 = .ok (.iload_n 1, 1) := by decide +kernel
theorem d_R_count_18 : decode M_R_count.2.1 18 = .ok (.bipush 10, 2) := by decide +kernel
theorem d_R_count_20 : decode M_R_count.2.1 20 = .ok (.isub, 1) := by decide +kernel
theorem d_R_count_21 : decode M_R_count.2.1 21 = .ok (.iaload, 1) := by decide +kernel
theorem d_R_count_22 : decode M_R_count.2.1 22 = .ok (.ireturn, 1) := by decide +kernel
theorem d_R_count_23 : decode M_R_count.2.1 23 = .ok (.iload_n 1, 1) := by decide +kernel
theorem d_R_count_24 : decode M_R_count.2.1 24 = .ok (.tableswitch 160 0 7 #[48, 55, 62, 69, 76, 111, 150, 155], 48) := by decide +kernel
theorem d_R_count_72 : decode M_R_count.2.1 72 = .ok (.aload_n 0, 1) := by decide +kernel
theorem d_R_count_73 : decode M_R_count.2.1 73 = .ok (.getfield 9, 3) := by decide +kernel
theorem d_R_count_76 : decode M_R_count.2.1 76 = .ok (.iconst 0, 1) := by decide +kernel
theorem d_R_count_77 : decode M_R_count.2.1 77 = .ok (.iaload, 1) := by decide +kernel
theorem d_R_count_78 : decode M_R_count.2.1 78 = .ok (.ireturn, 1) := by decide +kernel
theorem d_R_count_79 : decode M_R_count.2.1 79 = .ok (.aload_n 0, 1) := by decide +kernel
theorem d_R_count_80 : decode M_R_count.2.1 80 = .ok (.getfield 9, 3) := by decide +kernel
theorem d_R_count_83 : decode M_R_count.2.1 83 = .ok (.iconst 1, 1) := by decide +kernel
theorem d_R_count_84 : decode M_R_count.2.1 84 = .ok (.iaload, 1) := by decide +kernel
theorem d_R_count_85 : decode M_R_count.2.1 85 = .ok (.ireturn, 1) := by decide +kernel
theorem d_R_count_86 : decode M_R_count.2.1 86 = .ok (.aload_n 0, 1) := by decide +kernel
theorem d_R_count_87 : decode M_R_count.2.1 87 = .ok (.getfield 9, 3) := by decide +kernel
theorem d_R_count_90 : decode M_R_count.2.1 90 = .ok (.iconst 2, 1) := by decide +kernel
theorem d_R_count_91 : decode M_R_count.2.1 91 = .ok (.iaload, 1) := by decide +kernel
theorem d_R_count_92 : decode M_R_count.2.1 92 = .ok (.ireturn, 1) := by decide +kernel
theorem d_R_count_93 : decode M_R_count.2.1 93 = .ok (.aload_n 0, 1) := by decide +kernel
theorem d_R_count_94 : decode M_R_count.2.1 94 = .ok (.getfield 9, 3) := by decide +kernel
theorem d_R_count_97 : decode M_R_count.2.1 97 = .ok (.iconst 3, 1) := by decide +kernel
theorem d_R_count_98 : decode M_R_count.2.1 98 = .ok (.iaload, 1) := by decide +kernel
theorem d_R_count_99 : decode M_R_count.2.1 99 = .ok (.ireturn, 1) := by decide +kernel
theorem d_R_count_100 : decode M_R_count.2.1 100 = .ok (.iconst 0, 1) := by decide +kernel
theorem d_R_count_101 : decode M_R_count.2.1 101 = .ok (.istore_n 3, 1) := by decide +kernel
theorem d_R_count_102 : decode M_R_count.2.1 102 = .ok (.iload_n 3, 1) := by decide +kernel
theorem d_R_count_103 : decode M_R_count.2.1 103 = .ok (.aload_n 0, 1) := by decide +kernel
theorem d_R_count_104 : decode M_R_count.2.1 104 = .ok (.getfield 9, 3) := by decide +kernel
theorem d_R_count_107 : decode M_R_count.2.1 107 = .ok (.iconst 3, 1) := by decide +kernel
theorem d_R_count_108 : decode M_R_count.2.1 108 = .ok (.iaload, 1) := by decide +kernel
theorem d_R_count_109 : decode M_R_count.2.1 109 = .ok (.if_icmp .ge 24, 3) := by decide +kernel
theorem d_R_count_112 : decode M_R_count.2.1 112 = .ok (.iload_n 2, 1) := by decide +kernel
theorem d_R_count_113 : decode M_R_count.2.1 113 = .ok (.iconst 1, 1) := by decide +kernel
theorem d_R_count_114 : decode M_R_count.2.1 114 = .ok (.aload_n 0, 1) := by decide +kernel
theorem d_R_count_115 : decode M_R_count.2.1 115 = .ok (.getfield 9, 3) := by decide +kernel
theorem d_R_count_118 : decode M_R_count.2.1 118 = .ok (.iload_n 3, 1) := by decide +kernel
theorem d_R_count_119 : decode M_R_count.2.1 119 = .ok (.iconst 5, 1) := by decide +kernel
theorem d_R_count_120 : decode M_R_count.2.1 120 = .ok (.invokestatic 180, 3) := by decide +kernel
theorem d_R_count_123 : decode M_R_count.2.1 123 = .ok (.iaload, 1) := by decide +kernel
theorem d_R_count_124 : decode M_R_count.2.1 124 = .ok (.isub, 1) := by decide +kernel
theorem d_R_count_125 : decode M_R_count.2.1 125 = .ok (.iadd, 1) := by decide +kernel
theorem d_R_count_126 : decode M_R_count.2.1 126 = .ok (.istore_n 2, 1) := by decide +kernel
theorem d_R_count_127 : decode M_R_count.2.1 127 = .ok (.iinc 3 1, 3) := by decide +kernel
theorem d_R_count_130 : decode M_R_count.2.1 130 = .ok (.goto (-28), 3) := by decide +kernel
theorem d_R_count_133 : decode M_R_count.2.1 133 = .ok (.iload_n 2, 1) := by decide +kernel
theorem d_R_count_134 : decode M_R_count.2.1 134 = .ok (.ireturn, 1) := by decide +kernel
theorem d_R_count_135 : decode M_R_count.2.1 135 = .ok (.iconst 0, 1) := by decide +kernel
theorem d_R_count_136 : decode M_R_count.2.1 136 = .ok (.istore_n 3, 1) := by decide +kernel
theorem d_R_count_137 : decode M_R_count.2.1 137 = .ok (.iload_n 3, 1) := by decide +kernel
theorem d_R_count_138 : decode M_R_count.2.1 138 = .ok (.bipush 12, 2) := by decide +kernel
theorem d_R_count_140 : decode M_R_count.2.1 140 = .ok (.if_icmp .ge 32, 3) := by decide +kernel
theorem d_R_count_143 : decode M_R_count.2.1 143 = .ok (.iload_n 2, 1) := by decide +kernel
theorem d_R_count_144 : decode M_R_count.2.1 144 = .ok (.aload_n 0, 1) := by decide +kernel
theorem d_R_count_145 : decode M_R_count.2.1 145 = .ok (.getfield 9, 3) := by decide +kernel
theorem d_R_count_148 : decode M_R_count.2.1 148 = .ok (.bipush 16, 2) := by decide +kernel
theorem d_R_count_150 : decode M_R_count.2.1 150 = .ok (.bipush 65, 2) := by decide +kernel
theorem d_R_count_152 : decode M_R_count.2.1 152 = .ok (.iload_n 3, 1) := by decide +kernel
theorem d_R_count_153 : decode M_R_count.2.1 153 = .ok (.imul, 1) := by decide +kernel
theorem d_R_count_154 : decode M_R_count.2.1 154 = .ok (.iadd, 1) := by decide +kernel
theorem d_R_count_155 : decode M_R_count.2.1 155 = .ok (.iaload, 1) := by decide +kernel
theorem d_R_count_156 : decode M_R_count.2.1 156 = .ok (.ifCond .lt 7, 3) := by decide +kernel
theorem d_R_count_159 : decode M_R_count.2.1 159 = .ok (.iconst 1, 1) := by decide +kernel
theorem d_R_count_160 : decode M_R_count.2.1 160 = .ok (.goto 4, 3) := by decide +kernel
theorem d_R_count_163 : decode M_R_count.2.1 163 = .ok (.iconst 0, 1) := by decide +kernel
theorem d_R_count_164 : decode M_R_count.2.1 164 = .ok (.iadd, 1) := by decide +kernel
theorem d_R_count_165 : decode M_R_count.2.1 165 = .ok (.istore_n 2, 1) := by decide +kernel
theorem d_R_count_166 : decode M_R_count.2.1 166 = .ok (.iinc 3 1, 3) := by decide +kernel
theorem d_R_count_169 : decode M_R_count.2.1 169 = .ok (.goto (-32), 3) := by decide +kernel
theorem d_R_count_172 : decode M_R_count.2.1 172 = .ok (.iload_n 2, 1) := by decide +kernel
theorem d_R_count_173 : decode M_R_count.2.1 173 = .ok (.ireturn, 1) := by decide +kernel
theorem d_R_count_174 : decode M_R_count.2.1 174 = .ok (.aload_n 0, 1) := by decide +kernel
theorem d_R_count_175 : decode M_R_count.2.1 175 = .ok (.getfield 157, 3) := by decide +kernel
theorem d_R_count_178 : decode M_R_count.2.1 178 = .ok (.ireturn, 1) := by decide +kernel
theorem d_R_count_179 : decode M_R_count.2.1 179 = .ok (.aload_n 0, 1) := by decide +kernel
theorem d_R_count_180 : decode M_R_count.2.1 180 = .ok (.getfield 150, 3) := by decide +kernel
theorem d_R_count_183 : decode M_R_count.2.1 183 = .ok (.ireturn, 1) := by decide +kernel
theorem d_R_count_184 : decode M_R_count.2.1 184 = .ok (.iconst (-1), 1) := by decide +kernel
theorem d_R_count_185 : decode M_R_count.2.1 185 = .ok (.ireturn, 1) := by decide +kernel
