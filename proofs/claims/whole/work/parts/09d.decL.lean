theorem d_L_init_0 : decode M_L_init.2.1 0 = .ok (.aload_n 0, 1) := by decide +kernel
theorem d_L_init_1 : decode M_L_init.2.1 1 = .ok (.invokespecial 3, 3) := by decide +kernel
theorem d_L_init_4 : decode M_L_init.2.1 4 = .ok (.aload_n 0, 1) := by decide +kernel
theorem d_L_init_5 : decode M_L_init.2.1 5 = .ok (.bipush 27, 2) := by decide +kernel
theorem d_L_init_7 : decode M_L_init.2.1 7 = .ok (.newarray .int, 2) := by decide +kernel
theorem d_L_init_9 : decode M_L_init.2.1 9 = .ok (.putfield 9, 3) := by decide +kernel
theorem d_L_init_12 : decode M_L_init.2.1 12 = .ok (.aload_n 0, 1) := by decide +kernel
theorem d_L_init_13 : decode M_L_init.2.1 13 = .ok (.bipush 27, 2) := by decide +kernel
theorem d_L_init_15 : decode M_L_init.2.1 15 = .ok (.newarray .int, 2) := by decide +kernel
theorem d_L_init_17 : decode M_L_init.2.1 17 = .ok (.putfield 15, 3) := by decide +kernel
theorem d_L_init_20 : decode M_L_init.2.1 20 = .ok (.aload_n 0, 1) := by decide +kernel
theorem d_L_init_21 : decode M_L_init.2.1 21 = .ok (.bipush 15, 2) := by decide +kernel
theorem d_L_init_23 : decode M_L_init.2.1 23 = .ok (.newarray .int, 2) := by decide +kernel
theorem d_L_init_25 : decode M_L_init.2.1 25 = .ok (.putfield 18, 3) := by decide +kernel
theorem d_L_init_28 : decode M_L_init.2.1 28 = .ok (.aload_n 0, 1) := by decide +kernel
theorem d_L_init_29 : decode M_L_init.2.1 29 = .ok (.bipush 15, 2) := by decide +kernel
theorem d_L_init_31 : decode M_L_init.2.1 31 = .ok (.newarray .int, 2) := by decide +kernel
theorem d_L_init_33 : decode M_L_init.2.1 33 = .ok (.putfield 21, 3) := by decide +kernel
theorem d_L_init_36 : decode M_L_init.2.1 36 = .ok (.aload_n 0, 1) := by decide +kernel
theorem d_L_init_37 : decode M_L_init.2.1 37 = .ok (.iconst 3, 1) := by decide +kernel
theorem d_L_init_38 : decode M_L_init.2.1 38 = .ok (.newarray .int, 2) := by decide +kernel
theorem d_L_init_40 : decode M_L_init.2.1 40 = .ok (.putfield 24, 3) := by decide +kernel
theorem d_L_init_43 : decode M_L_init.2.1 43 = .ok (.aload_n 0, 1) := by decide +kernel
theorem d_L_init_44 : decode M_L_init.2.1 44 = .ok (.iconst 3, 1) := by decide +kernel
theorem d_L_init_45 : decode M_L_init.2.1 45 = .ok (.newarray .int, 2) := by decide +kernel
theorem d_L_init_47 : decode M_L_init.2.1 47 = .ok (.putfield 27, 3) := by decide +kernel
theorem d_L_init_50 : decode M_L_init.2.1 50 = .ok (.aload_n 0, 1) := by decide +kernel
theorem d_L_init_51 : decode M_L_init.2.1 51 = .ok (.bipush 15, 2) := by decide +kernel
theorem d_L_init_53 : decode M_L_init.2.1 53 = .ok (.newarray .int, 2) := by decide +kernel
theorem d_L_init_55 : decode M_L_init.2.1 55 = .ok (.putfield 30, 3) := by decide +kernel
theorem d_L_init_58 : decode M_L_init.2.1 58 = .ok (.aload_n 0, 1) := by decide +kernel
theorem d_L_init_59 : decode M_L_init.2.1 59 = .ok (.iconst 3, 1) := by decide +kernel
theorem d_L_init_60 : decode M_L_init.2.1 60 = .ok (.newarray .int, 2) := by decide +kernel
theorem d_L_init_62 : decode M_L_init.2.1 62 = .ok (.putfield 33, 3) := by decide +kernel
theorem d_L_init_65 : decode M_L_init.2.1 65 = .ok (.aload_n 0, 1) := by decide +kernel
theorem d_L_init_66 : decode M_L_init.2.1 66 = .ok (.aconst_null, 1) := by decide +kernel
theorem d_L_init_67 : decode M_L_init.2.1 67 = .ok (.putfield 36, 3) := by decide +kernel
theorem d_L_init_70 : decode M_L_init.2.1 70 = .ok (.aload_n 0, 1) := by decide +kernel
theorem d_L_init_71 : decode M_L_init.2.1 71 = .ok (.aload_n 1, 1) := by decide +kernel
theorem d_L_init_72 : decode M_L_init.2.1 72 = .ok (.putfield 40, 3) := by decide +kernel
theorem d_L_init_75 : decode M_L_init.2.1 75 = .ok (.return_, 1) := by decide +kernel
theorem d_L_forget_0 : decode M_L_forget.2.1 0 = .ok (.aload_n 0, 1) := by decide +kernel
theorem d_L_forget_1 : decode M_L_forget.2.1 1 = .ok (.getfield 33, 3) := by decide +kernel
theorem d_L_forget_4 : decode M_L_forget.2.1 4 = .ok (.iconst 0, 1) := by decide +kernel
theorem d_L_forget_5 : decode M_L_forget.2.1 5 = .ok (.invokestatic 44, 3) := by decide +kernel
theorem d_L_forget_8 : decode M_L_forget.2.1 8 = .ok (.return_, 1) := by decide +kernel
theorem d_L_findBest_0 : decode M_L_findBest.2.1 0 = .ok (.aload_n 0, 1) := by decide +kernel
theorem d_L_findBest_1 : decode M_L_findBest.2.1 1 = .ok (.invokevirtual 54, 3) := by decide +kernel
theorem d_L_findBest_4 : decode M_L_findBest.2.1 4 = .ok (.aload_n 1, 1) := by decide +kernel
theorem d_L_findBest_5 : decode M_L_findBest.2.1 5 = .ok (.aload_n 0, 1) := by decide +kernel
theorem d_L_findBest_6 : decode M_L_findBest.2.1 6 = .ok (.getfield 9, 3) := by decide +kernel
theorem d_L_findBest_9 : decode M_L_findBest.2.1 9 = .ok (.invokevirtual 57, 3) := by decide +kernel
theorem d_L_findBest_12 : decode M_L_findBest.2.1 12 = .ok (.aload_n 0, 1) := by decide +kernel
theorem d_L_findBest_13 : decode M_L_findBest.2.1 13 = .ok (.ldc 63, 2) := by decide +kernel
theorem d_L_findBest_15 : decode M_L_findBest.2.1 15 = .ok (.invokevirtual 64, 3) := by decide +kernel
theorem d_L_findBest_18 : decode M_L_findBest.2.1 18 = .ok (.ifCond .ne 6, 3) := by decide +kernel
theorem d_L_findBest_21 : decode M_L_findBest.2.1 21 = .ok (.bipush (-3), 2) := by decide +kernel
theorem d_L_findBest_23 : decode M_L_findBest.2.1 23 = .ok (.ireturn, 1) := by decide +kernel
theorem d_L_findBest_24 : decode M_L_findBest.2.1 24 = .ok (.aload_n 0, 1) := by decide +kernel
theorem d_L_findBest_25 : decode M_L_findBest.2.1 25 = .ok (.invokevirtual 68, 3) := by decide +kernel
theorem d_L_findBest_28 : decode M_L_findBest.2.1 28 = .ok (.istore_n 2, 1) := by decide +kernel
theorem d_L_findBest_29 : decode M_L_findBest.2.1 29 = .ok (.aload_n 0, 1) := by decide +kernel
theorem d_L_findBest_30 : decode M_L_findBest.2.1 30 = .ok (.invokevirtual 72, 3) := by decide +kernel
theorem d_L_findBest_33 : decode M_L_findBest.2.1 33 = .ok (.istore_n 3, 1) := by decide +kernel
theorem d_L_findBest_34 : decode M_L_findBest.2.1 34 = .ok (.iconst 0, 1) := by decide +kernel
theorem d_L_findBest_35 : decode M_L_findBest.2.1 35 = .ok (.istore 4, 2) := by decide +kernel
theorem d_L_findBest_37 : decode M_L_findBest.2.1 37 = .ok (.iload_n 3, 1) := by decide +kernel
theorem d_L_findBest_38 : decode M_L_findBest.2.1 38 = .ok (.iload_n 2, 1) := by decide +kernel
theorem d_L_findBest_39 : decode M_L_findBest.2.1 39 = .ok (.if_icmp .ge 54, 3) := by decide +kernel
theorem d_L_findBest_42 : decode M_L_findBest.2.1 42 = .ok (.iload 4, 2) := by decide +kernel
theorem d_L_findBest_44 : decode M_L_findBest.2.1 44 = .ok (.bipush 64, 2) := by decide +kernel
theorem d_L_findBest_46 : decode M_L_findBest.2.1 46 = .ok (.if_icmp .ge 47, 3) := by decide +kernel
theorem d_L_findBest_49 : decode M_L_findBest.2.1 49 = .ok (.iload 4, 2) := by decide +kernel
theorem d_L_findBest_51 : decode M_L_findBest.2.1 51 = .ok (.ifCond .ne 7, 3) := by decide +kernel
theorem d_L_findBest_54 : decode M_L_findBest.2.1 54 = .ok (.iload_n 3, 1) := by decide +kernel
theorem d_L_findBest_55 : decode M_L_findBest.2.1 55 = .ok (.goto 8, 3) := by decide +kernel
theorem d_L_findBest_58 : decode M_L_findBest.2.1 58 = .ok (.iload_n 3, 1) := by decide +kernel
theorem d_L_findBest_59 : decode M_L_findBest.2.1 59 = .ok (.iload_n 2, 1) := by decide +kernel
theorem d_L_findBest_60 : decode M_L_findBest.2.1 60 = .ok (.iadd, 1) := by decide +kernel
theorem d_L_findBest_61 : decode M_L_findBest.2.1 61 = .ok (.iconst 2, 1) := by decide +kernel
theorem d_L_findBest_62 : decode M_L_findBest.2.1 62 = .ok (.idiv, 1) := by decide +kernel
theorem d_L_findBest_63 : decode M_L_findBest.2.1 63 = .ok (.istore 5, 2) := by decide +kernel
theorem d_L_findBest_65 : decode M_L_findBest.2.1 65 = .ok (.aload_n 0, 1) := by decide +kernel
theorem d_L_findBest_66 : decode M_L_findBest.2.1 66 = .ok (.iload 5, 2) := by decide +kernel
theorem d_L_findBest_68 : decode M_L_findBest.2.1 68 = .ok (.invokevirtual 64, 3) := by decide +kernel
theorem d_L_findBest_71 : decode M_L_findBest.2.1 71 = .ok (.ifCond .eq 11, 3) := by decide +kernel
theorem d_L_findBest_74 : decode M_L_findBest.2.1 74 = .ok (.aload_n 0, 1) := by decide +kernel
theorem d_L_findBest_75 : decode M_L_findBest.2.1 75 = .ok (.invokevirtual 68, 3) := by decide +kernel
theorem d_L_findBest_78 : decode M_L_findBest.2.1 78 = .ok (.istore_n 2, 1) := by decide +kernel
theorem d_L_findBest_79 : decode M_L_findBest.2.1 79 = .ok (.goto 8, 3) := by decide +kernel
theorem d_L_findBest_82 : decode M_L_findBest.2.1 82 = .ok (.iload 5, 2) := by decide +kernel
theorem d_L_findBest_84 : decode M_L_findBest.2.1 84 = .ok (.iconst 1, 1) := by decide +kernel
theorem d_L_findBest_85 : decode M_L_findBest.2.1 85 = .ok (.iadd, 1) := by decide +kernel
theorem d_L_findBest_86 : decode M_L_findBest.2.1 86 = .ok (.istore_n 3, 1) := by decide +kernel
theorem d_L_findBest_87 : decode M_L_findBest.2.1 87 = .ok (.iinc 4 1, 3) := by decide +kernel
theorem d_L_findBest_90 : decode M_L_findBest.2.1 90 = .ok (.goto (-53), 3) := by decide +kernel
theorem d_L_findBest_93 : decode M_L_findBest.2.1 93 = .ok (.iload_n 2, 1) := by decide +kernel
theorem d_L_findBest_94 : decode M_L_findBest.2.1 94 = .ok (.ireturn, 1) := by decide +kernel
theorem d_L_search_0 : decode M_L_search.2.1 0 = .ok (.aload_n 0, 1) := by decide +kernel
theorem d_L_search_1 : decode M_L_search.2.1 1 = .ok (.iload_n 1, 1) := by decide +kernel
theorem d_L_search_2 : decode M_L_search.2.1 2 = .ok (.putfield 102, 3) := by decide +kernel
theorem d_L_search_5 : decode M_L_search.2.1 5 = .ok (.aload_n 0, 1) := by decide +kernel
theorem d_L_search_6 : decode M_L_search.2.1 6 = .ok (.getfield 40, 3) := by decide +kernel
theorem d_L_search_9 : decode M_L_search.2.1 9 = .ok (.getfield 75, 3) := by decide +kernel
theorem d_L_search_12 : decode M_L_search.2.1 12 = .ok (.istore_n 2, 1) := by decide +kernel
theorem d_L_search_13 : decode M_L_search.2.1 13 = .ok (.iconst 0, 1) := by decide +kernel
theorem d_L_search_14 : decode M_L_search.2.1 14 = .ok (.istore_n 3, 1) := by decide +kernel
theorem d_L_search_15 : decode M_L_search.2.1 15 = .ok (.iload_n 3, 1) := by decide +kernel
theorem d_L_search_16 : decode M_L_search.2.1 16 = .ok (.iconst 3, 1) := by decide +kernel
theorem d_L_search_17 : decode M_L_search.2.1 17 = .ok (.if_icmp .ge 83, 3) := by decide +kernel
theorem d_L_search_20 : decode M_L_search.2.1 20 = .ok (.aload_n 0, 1) := by decide +kernel
theorem d_L_search_21 : decode M_L_search.2.1 21 = .ok (.getfield 24, 3) := by decide +kernel
theorem d_L_search_24 : decode M_L_search.2.1 24 = .ok (.iload_n 3, 1) := by decide +kernel
theorem d_L_search_25 : decode M_L_search.2.1 25 = .ok (.iconst 0, 1) := by decide +kernel
theorem d_L_search_26 : decode M_L_search.2.1 26 = .ok (.iastore, 1) := by decide +kernel
theorem d_L_search_27 : decode M_L_search.2.1 27 = .ok (.aload_n 0, 1) := by decide +kernel
theorem d_L_search_28 : decode M_L_search.2.1 28 = .ok (.getfield 40, 3) := by decide +kernel
theorem d_L_search_31 : decode M_L_search.2.1 31 = .ok (.getfield 93, 3) := by decide +kernel
theorem d_L_search_34 : decode M_L_search.2.1 34 = .ok (.iload_n 3, 1) := by decide +kernel
theorem d_L_search_35 : decode M_L_search.2.1 35 = .ok (.iaload, 1) := by decide +kernel
theorem d_L_search_36 : decode M_L_search.2.1 36 = .ok (.istore 4, 2) := by decide +kernel
theorem d_L_search_38 : decode M_L_search.2.1 38 = .ok (.aload_n 0, 1) := by decide +kernel
theorem d_L_search_39 : decode M_L_search.2.1 39 = .ok (.getfield 27, 3) := by decide +kernel
theorem d_L_search_42 : decode M_L_search.2.1 42 = .ok (.iload_n 3, 1) := by decide +kernel
theorem d_L_search_43 : decode M_L_search.2.1 43 = .ok (.iload 4, 2) := by decide +kernel
theorem d_L_search_45 : decode M_L_search.2.1 45 = .ok (.ifCond .ne 7, 3) := by decide +kernel
theorem d_L_search_48 : decode M_L_search.2.1 48 = .ok (.iconst 1, 1) := by decide +kernel
theorem d_L_search_49 : decode M_L_search.2.1 49 = .ok (.goto 12, 3) := by decide +kernel
theorem d_L_search_52 : decode M_L_search.2.1 52 = .ok (.iconst 2, 1) := by decide +kernel
theorem d_L_search_53 : decode M_L_search.2.1 53 = .ok (.iload 4, 2) := by decide +kernel
theorem d_L_search_55 : decode M_L_search.2.1 55 = .ok (.iconst 1, 1) := by decide +kernel
theorem d_L_search_56 : decode M_L_search.2.1 56 = .ok (.isub, 1) := by decide +kernel
theorem d_L_search_57 : decode M_L_search.2.1 57 = .ok (.bipush 6, 2) := by decide +kernel
theorem d_L_search_59 : decode M_L_search.2.1 59 = .ok (.imul, 1) := by decide +kernel
theorem d_L_search_60 : decode M_L_search.2.1 60 = .ok (.iadd, 1) := by decide +kernel
theorem d_L_search_61 : decode M_L_search.2.1 61 = .ok (.iastore, 1) := by decide +kernel
theorem d_L_search_62 : decode M_L_search.2.1 62 = .ok (.iload_n 2, 1) := by decide +kernel
theorem d_L_search_63 : decode M_L_search.2.1 63 = .ok (.aload_n 0, 1) := by decide +kernel
theorem d_L_search_64 : decode M_L_search.2.1 64 = .ok (.getfield 27, 3) := by decide +kernel
theorem d_L_search_67 : decode M_L_search.2.1 67 = .ok (.iload_n 3, 1) := by decide +kernel
theorem d_L_search_68 : decode M_L_search.2.1 68 = .ok (.iaload, 1) := by decide +kernel
theorem d_L_search_69 : decode M_L_search.2.1 69 = .ok (.imul, 1) := by decide +kernel
theorem d_L_search_70 : decode M_L_search.2.1 70 = .ok (.istore_n 2, 1) := by decide +kernel
theorem d_L_search_71 : decode M_L_search.2.1 71 = .ok (.aload_n 0, 1) := by decide +kernel
theorem d_L_search_72 : decode M_L_search.2.1 72 = .ok (.iload_n 3, 1) := by decide +kernel
theorem d_L_search_73 : decode M_L_search.2.1 73 = .ok (.invokevirtual 105, 3) := by decide +kernel
theorem d_L_search_76 : decode M_L_search.2.1 76 = .ok (.iload 4, 2) := by decide +kernel
theorem d_L_search_78 : decode M_L_search.2.1 78 = .ok (.ifCond .le 16, 3) := by decide +kernel
theorem d_L_search_81 : decode M_L_search.2.1 81 = .ok (.aload_n 0, 1) := by decide +kernel
theorem d_L_search_82 : decode M_L_search.2.1 82 = .ok (.getfield 18, 3) := by decide +kernel
theorem d_L_search_85 : decode M_L_search.2.1 85 = .ok (.iload_n 3, 1) := by decide +kernel
theorem d_L_search_86 : decode M_L_search.2.1 86 = .ok (.iconst 5, 1) := by decide +kernel
theorem d_L_search_87 : decode M_L_search.2.1 87 = .ok (.imul, 1) := by decide +kernel
theorem d_L_search_88 : decode M_L_search.2.1 88 = .ok (.iaload, 1) := by decide +kernel
theorem d_L_search_89 : decode M_L_search.2.1 89 = .ok (.ifCond .ne 5, 3) := by decide +kernel
theorem d_L_search_92 : decode M_L_search.2.1 92 = .ok (.iconst 0, 1) := by decide +kernel
theorem d_L_search_93 : decode M_L_search.2.1 93 = .ok (.ireturn, 1) := by decide +kernel
theorem d_L_search_94 : decode M_L_search.2.1 94 = .ok (.iinc 3 1, 3) := by decide +kernel
theorem d_L_search_97 : decode M_L_search.2.1 97 = .ok (.goto (-82), 3) := by decide +kernel
theorem d_L_search_100 : decode M_L_search.2.1 100 = .ok (.aload_n 0, 1) := by decide +kernel
theorem d_L_search_101 : decode M_L_search.2.1 101 = .ok (.getfield 36, 3) := by decide +kernel
theorem d_L_search_104 : decode M_L_search.2.1 104 = .ok (.ifnonnull 12, 3) := by decide +kernel
theorem d_L_search_107 : decode M_L_search.2.1 107 = .ok (.aload_n 0, 1) := by decide +kernel
theorem d_L_search_108 : decode M_L_search.2.1 108 = .ok (.sipush 7141, 3) := by decide +kernel
theorem d_L_search_111 : decode M_L_search.2.1 111 = .ok (.newarray .long, 2) := by decide +kernel
theorem d_L_search_113 : decode M_L_search.2.1 113 = .ok (.putfield 36, 3) := by decide +kernel
theorem d_L_search_116 : decode M_L_search.2.1 116 = .ok (.iconst 0, 1) := by decide +kernel
theorem d_L_search_117 : decode M_L_search.2.1 117 = .ok (.istore_n 3, 1) := by decide +kernel
theorem d_L_search_118 : decode M_L_search.2.1 118 = .ok (.iload_n 3, 1) := by decide +kernel
theorem d_L_search_119 : decode M_L_search.2.1 119 = .ok (.iload_n 2, 1) := by decide +kernel
theorem d_L_search_120 : decode M_L_search.2.1 120 = .ok (.bipush 6, 2) := by decide +kernel
theorem d_L_search_122 : decode M_L_search.2.1 122 = .ok (.ishr, 1) := by decide +kernel
theorem d_L_search_123 : decode M_L_search.2.1 123 = .ok (.if_icmp .gt 16, 3) := by decide +kernel
theorem d_L_search_126 : decode M_L_search.2.1 126 = .ok (.aload_n 0, 1) := by decide +kernel
theorem d_L_search_127 : decode M_L_search.2.1 127 = .ok (.getfield 36, 3) := by decide +kernel
theorem d_L_search_130 : decode M_L_search.2.1 130 = .ok (.iload_n 3, 1) := by decide +kernel
theorem d_L_search_131 : decode M_L_search.2.1 131 = .ok (.lconst 0, 1) := by decide +kernel
theorem d_L_search_132 : decode M_L_search.2.1 132 = .ok (.lastore, 1) := by decide +kernel
theorem d_L_search_133 : decode M_L_search.2.1 133 = .ok (.iinc 3 1, 3) := by decide +kernel
theorem d_L_search_136 : decode M_L_search.2.1 136 = .ok (.goto (-18), 3) := by decide +kernel
theorem d_L_search_139 : decode M_L_search.2.1 139 = .ok (.aload_n 0, 1) := by decide +kernel
theorem d_L_search_140 : decode M_L_search.2.1 140 = .ok (.iconst 1, 1) := by decide +kernel
theorem d_L_search_141 : decode M_L_search.2.1 141 = .ok (.invokevirtual 109, 3) := by decide +kernel
theorem d_L_search_144 : decode M_L_search.2.1 144 = .ok (.ireturn, 1) := by decide +kernel
theorem d_L_openWeeks_0 : decode M_L_openWeeks.2.1 0 = .ok (.iconst 0, 1) := by decide +kernel
theorem d_L_openWeeks_1 : decode M_L_openWeeks.2.1 1 = .ok (.istore_n 2, 1) := by decide +kernel
theorem d_L_openWeeks_2 : decode M_L_openWeeks.2.1 2 = .ok (.aload_n 0, 1) := by decide +kernel
theorem d_L_openWeeks_3 : decode M_L_openWeeks.2.1 3 = .ok (.getfield 40, 3) := by decide +kernel
theorem d_L_openWeeks_6 : decode M_L_openWeeks.2.1 6 = .ok (.getfield 93, 3) := by decide +kernel
theorem d_L_openWeeks_9 : decode M_L_openWeeks.2.1 9 = .ok (.iload_n 1, 1) := by decide +kernel
theorem d_L_openWeeks_10 : decode M_L_openWeeks.2.1 10 = .ok (.iaload, 1) := by decide +kernel
theorem d_L_openWeeks_11 : decode M_L_openWeeks.2.1 11 = .ok (.iconst 1, 1) := by decide +kernel
theorem d_L_openWeeks_12 : decode M_L_openWeeks.2.1 12 = .ok (.isub, 1) := by decide +kernel
theorem d_L_openWeeks_13 : decode M_L_openWeeks.2.1 13 = .ok (.istore_n 3, 1) := by decide +kernel
theorem d_L_openWeeks_14 : decode M_L_openWeeks.2.1 14 = .ok (.iload_n 3, 1) := by decide +kernel
theorem d_L_openWeeks_15 : decode M_L_openWeeks.2.1 15 = .ok (.ifCond .lt 126, 3) := by decide +kernel
theorem d_L_openWeeks_18 : decode M_L_openWeeks.2.1 18 = .ok (.iload_n 1, 1) := by decide +kernel
theorem d_L_openWeeks_19 : decode M_L_openWeeks.2.1 19 = .ok (.iconst 5, 1) := by decide +kernel
theorem d_L_openWeeks_20 : decode M_L_openWeeks.2.1 20 = .ok (.imul, 1) := by decide +kernel
theorem d_L_openWeeks_21 : decode M_L_openWeeks.2.1 21 = .ok (.iload_n 3, 1) := by decide +kernel
theorem d_L_openWeeks_22 : decode M_L_openWeeks.2.1 22 = .ok (.iadd, 1) := by decide +kernel
theorem d_L_openWeeks_23 : decode M_L_openWeeks.2.1 23 = .ok (.istore 4, 2) := by decide +kernel
theorem d_L_openWeeks_25 : decode M_L_openWeeks.2.1 25 = .ok (.iconst 0, 1) := by decide +kernel
theorem d_L_openWeeks_26 : decode M_L_openWeeks.2.1 26 = .ok (.istore 5, 2) := by decide +kernel
theorem d_L_openWeeks_28 : decode M_L_openWeeks.2.1 28 = .ok (.iconst 1, 1) := by decide +kernel
theorem d_L_openWeeks_29 : decode M_L_openWeeks.2.1 29 = .ok (.istore 6, 2) := by decide +kernel
theorem d_L_openWeeks_31 : decode M_L_openWeeks.2.1 31 = .ok (.iload 6, 2) := by decide +kernel
theorem d_L_openWeeks_33 : decode M_L_openWeeks.2.1 33 = .ok (.aload_n 0, 1) := by decide +kernel
theorem d_L_openWeeks_34 : decode M_L_openWeeks.2.1 34 = .ok (.getfield 40, 3) := by decide +kernel
theorem d_L_openWeeks_37 : decode M_L_openWeeks.2.1 37 = .ok (.getfield 75, 3) := by decide +kernel
theorem d_L_openWeeks_40 : decode M_L_openWeeks.2.1 40 = .ok (.if_icmp .gt 57, 3) := by decide +kernel
theorem d_L_openWeeks_43 : decode M_L_openWeeks.2.1 43 = .ok (.aload_n 0, 1) := by decide +kernel
theorem d_L_openWeeks_44 : decode M_L_openWeeks.2.1 44 = .ok (.getfield 40, 3) := by decide +kernel
theorem d_L_openWeeks_47 : decode M_L_openWeeks.2.1 47 = .ok (.iload 4, 2) := by decide +kernel
theorem d_L_openWeeks_49 : decode M_L_openWeeks.2.1 49 = .ok (.iload 6, 2) := by decide +kernel
theorem d_L_openWeeks_51 : decode M_L_openWeeks.2.1 51 = .ok (.invokevirtual 112, 3) := by decide +kernel
theorem d_L_openWeeks_54 : decode M_L_openWeeks.2.1 54 = .ok (.ifCond .eq 37, 3) := by decide +kernel
theorem d_L_openWeeks_57 : decode M_L_openWeeks.2.1 57 = .ok (.aload_n 0, 1) := by decide +kernel
theorem d_L_openWeeks_58 : decode M_L_openWeeks.2.1 58 = .ok (.getfield 9, 3) := by decide +kernel
theorem d_L_openWeeks_61 : decode M_L_openWeeks.2.1 61 = .ok (.iload 6, 2) := by decide +kernel
theorem d_L_openWeeks_63 : decode M_L_openWeeks.2.1 63 = .ok (.iaload, 1) := by decide +kernel
theorem d_L_openWeeks_64 : decode M_L_openWeeks.2.1 64 = .ok (.aload_n 0, 1) := by decide +kernel
theorem d_L_openWeeks_65 : decode M_L_openWeeks.2.1 65 = .ok (.getfield 102, 3) := by decide +kernel
theorem d_L_openWeeks_68 : decode M_L_openWeeks.2.1 68 = .ok (.aload_n 0, 1) := by decide +kernel
theorem d_L_openWeeks_69 : decode M_L_openWeeks.2.1 69 = .ok (.getfield 40, 3) := by decide +kernel
theorem d_L_openWeeks_72 : decode M_L_openWeeks.2.1 72 = .ok (.getfield 99, 3) := by decide +kernel
theorem d_L_openWeeks_75 : decode M_L_openWeeks.2.1 75 = .ok (.iload 4, 2) := by decide +kernel
theorem d_L_openWeeks_77 : decode M_L_openWeeks.2.1 77 = .ok (.iaload, 1) := by decide +kernel
theorem d_L_openWeeks_78 : decode M_L_openWeeks.2.1 78 = .ok (.isub, 1) := by decide +kernel
theorem d_L_openWeeks_79 : decode M_L_openWeeks.2.1 79 = .ok (.if_icmp .gt 12, 3) := by decide +kernel
theorem d_L_openWeeks_82 : decode M_L_openWeeks.2.1 82 = .ok (.iload 5, 2) := by decide +kernel
theorem d_L_openWeeks_84 : decode M_L_openWeeks.2.1 84 = .ok (.iconst 1, 1) := by decide +kernel
theorem d_L_openWeeks_85 : decode M_L_openWeeks.2.1 85 = .ok (.iload 6, 2) := by decide +kernel
theorem d_L_openWeeks_87 : decode M_L_openWeeks.2.1 87 = .ok (.ishl, 1) := by decide +kernel
theorem d_L_openWeeks_88 : decode M_L_openWeeks.2.1 88 = .ok (.ior, 1) := by decide +kernel
theorem d_L_openWeeks_89 : decode M_L_openWeeks.2.1 89 = .ok (.istore 5, 2) := by decide +kernel
theorem d_L_openWeeks_91 : decode M_L_openWeeks.2.1 91 = .ok (.iinc 6 1, 3) := by decide +kernel
theorem d_L_openWeeks_94 : decode M_L_openWeeks.2.1 94 = .ok (.goto (-63), 3) := by decide +kernel
theorem d_L_openWeeks_97 : decode M_L_openWeeks.2.1 97 = .ok (.iload_n 3, 1) := by decide +kernel
theorem d_L_openWeeks_98 : decode M_L_openWeeks.2.1 98 = .ok (.aload_n 0, 1) := by decide +kernel
theorem d_L_openWeeks_99 : decode M_L_openWeeks.2.1 99 = .ok (.getfield 40, 3) := by decide +kernel
theorem d_L_openWeeks_102 : decode M_L_openWeeks.2.1 102 = .ok (.getfield 93, 3) := by decide +kernel
theorem d_L_openWeeks_105 : decode M_L_openWeeks.2.1 105 = .ok (.iload_n 1, 1) := by decide +kernel
theorem d_L_openWeeks_106 : decode M_L_openWeeks.2.1 106 = .ok (.iaload, 1) := by decide +kernel
theorem d_L_openWeeks_107 : decode M_L_openWeeks.2.1 107 = .ok (.iconst 1, 1) := by decide +kernel
theorem d_L_openWeeks_108 : decode M_L_openWeeks.2.1 108 = .ok (.isub, 1) := by decide +kernel
theorem d_L_openWeeks_109 : decode M_L_openWeeks.2.1 109 = .ok (.if_icmp .ge 14, 3) := by decide +kernel
theorem d_L_openWeeks_112 : decode M_L_openWeeks.2.1 112 = .ok (.iload 5, 2) := by decide +kernel
theorem d_L_openWeeks_114 : decode M_L_openWeeks.2.1 114 = .ok (.aload_n 0, 1) := by decide +kernel
theorem d_L_openWeeks_115 : decode M_L_openWeeks.2.1 115 = .ok (.iload_n 1, 1) := by decide +kernel
theorem d_L_openWeeks_116 : decode M_L_openWeeks.2.1 116 = .ok (.iload_n 2, 1) := by decide +kernel
theorem d_L_openWeeks_117 : decode M_L_openWeeks.2.1 117 = .ok (.invokevirtual 116, 3) := by decide +kernel
theorem d_L_openWeeks_120 : decode M_L_openWeeks.2.1 120 = .ok (.iand, 1) := by decide +kernel
theorem d_L_openWeeks_121 : decode M_L_openWeeks.2.1 121 = .ok (.istore 5, 2) := by decide +kernel
theorem d_L_openWeeks_123 : decode M_L_openWeeks.2.1 123 = .ok (.aload_n 0, 1) := by decide +kernel
theorem d_L_openWeeks_124 : decode M_L_openWeeks.2.1 124 = .ok (.getfield 18, 3) := by decide +kernel
theorem d_L_openWeeks_127 : decode M_L_openWeeks.2.1 127 = .ok (.iload 4, 2) := by decide +kernel
theorem d_L_openWeeks_129 : decode M_L_openWeeks.2.1 129 = .ok (.iload 5, 2) := by decide +kernel
theorem d_L_openWeeks_131 : decode M_L_openWeeks.2.1 131 = .ok (.iastore, 1) := by decide +kernel
theorem d_L_openWeeks_132 : decode M_L_openWeeks.2.1 132 = .ok (.iload 5, 2) := by decide +kernel
theorem d_L_openWeeks_134 : decode M_L_openWeeks.2.1 134 = .ok (.istore_n 2, 1) := by decide +kernel
theorem d_L_openWeeks_135 : decode M_L_openWeeks.2.1 135 = .ok (.iinc 3 (-1), 3) := by decide +kernel
theorem d_L_openWeeks_138 : decode M_L_openWeeks.2.1 138 = .ok (.goto (-124), 3) := by decide +kernel
theorem d_L_openWeeks_141 : decode M_L_openWeeks.2.1 141 = .ok (.return_, 1) := by decide +kernel
theorem d_L_aGapAhead_0 : decode M_L_aGapAhead.2.1 0 = .ok (.iconst 0, 1) := by decide +kernel
theorem d_L_aGapAhead_1 : decode M_L_aGapAhead.2.1 1 = .ok (.istore_n 3, 1) := by decide +kernel
theorem d_L_aGapAhead_2 : decode M_L_aGapAhead.2.1 2 = .ok (.aload_n 0, 1) := by decide +kernel
theorem d_L_aGapAhead_3 : decode M_L_aGapAhead.2.1 3 = .ok (.getfield 40, 3) := by decide +kernel
theorem d_L_aGapAhead_6 : decode M_L_aGapAhead.2.1 6 = .ok (.getfield 119, 3) := by decide +kernel
theorem d_L_aGapAhead_9 : decode M_L_aGapAhead.2.1 9 = .ok (.iload_n 1, 1) := by decide +kernel
theorem d_L_aGapAhead_10 : decode M_L_aGapAhead.2.1 10 = .ok (.iaload, 1) := by decide +kernel
theorem d_L_aGapAhead_11 : decode M_L_aGapAhead.2.1 11 = .ok (.istore 4, 2) := by decide +kernel
theorem d_L_aGapAhead_13 : decode M_L_aGapAhead.2.1 13 = .ok (.iload 4, 2) := by decide +kernel
theorem d_L_aGapAhead_15 : decode M_L_aGapAhead.2.1 15 = .ok (.aload_n 0, 1) := by decide +kernel
theorem d_L_aGapAhead_16 : decode M_L_aGapAhead.2.1 16 = .ok (.getfield 40, 3) := by decide +kernel
theorem d_L_aGapAhead_19 : decode M_L_aGapAhead.2.1 19 = .ok (.getfield 122, 3) := by decide +kernel
theorem d_L_aGapAhead_22 : decode M_L_aGapAhead.2.1 22 = .ok (.iload_n 1, 1) := by decide +kernel
theorem d_L_aGapAhead_23 : decode M_L_aGapAhead.2.1 23 = .ok (.iaload, 1) := by decide +kernel
theorem d_L_aGapAhead_24 : decode M_L_aGapAhead.2.1 24 = .ok (.if_icmp .gt 16, 3) := by decide +kernel
theorem d_L_aGapAhead_27 : decode M_L_aGapAhead.2.1 27 = .ok (.iload_n 3, 1) := by decide +kernel
theorem d_L_aGapAhead_28 : decode M_L_aGapAhead.2.1 28 = .ok (.iload_n 2, 1) := by decide +kernel
theorem d_L_aGapAhead_29 : decode M_L_aGapAhead.2.1 29 = .ok (.iload 4, 2) := by decide +kernel
theorem d_L_aGapAhead_31 : decode M_L_aGapAhead.2.1 31 = .ok (.ishr, 1) := by decide +kernel
theorem d_L_aGapAhead_32 : decode M_L_aGapAhead.2.1 32 = .ok (.ior, 1) := by decide +kernel
theorem d_L_aGapAhead_33 : decode M_L_aGapAhead.2.1 33 = .ok (.istore_n 3, 1) := by decide +kernel
theorem d_L_aGapAhead_34 : decode M_L_aGapAhead.2.1 34 = .ok (.iinc 4 1, 3) := by decide +kernel
theorem d_L_aGapAhead_37 : decode M_L_aGapAhead.2.1 37 = .ok (.goto (-24), 3) := by decide +kernel
theorem d_L_aGapAhead_40 : decode M_L_aGapAhead.2.1 40 = .ok (.iload_n 3, 1) := by decide +kernel
theorem d_L_aGapAhead_41 : decode M_L_aGapAhead.2.1 41 = .ok (.ireturn, 1) := by decide +kernel
theorem d_L_layFrom_0 : decode M_L_layFrom.2.1 0 = .ok (.iload_n 1, 1) := by decide +kernel
theorem d_L_layFrom_1 : decode M_L_layFrom.2.1 1 = .ok (.aload_n 0, 1) := by decide +kernel
theorem d_L_layFrom_2 : decode M_L_layFrom.2.1 2 = .ok (.getfield 40, 3) := by decide +kernel
theorem d_L_layFrom_5 : decode M_L_layFrom.2.1 5 = .ok (.getfield 75, 3) := by decide +kernel
theorem d_L_layFrom_8 : decode M_L_layFrom.2.1 8 = .ok (.if_icmp .le 5, 3) := by decide +kernel
theorem d_L_layFrom_11 : decode M_L_layFrom.2.1 11 = .ok (.iconst 1, 1) := by decide +kernel
theorem d_L_layFrom_12 : decode M_L_layFrom.2.1 12 = .ok (.ireturn, 1) := by decide +kernel
theorem d_L_layFrom_13 : decode M_L_layFrom.2.1 13 = .ok (.aload_n 0, 1) := by decide +kernel
theorem d_L_layFrom_14 : decode M_L_layFrom.2.1 14 = .ok (.iload_n 1, 1) := by decide +kernel
theorem d_L_layFrom_15 : decode M_L_layFrom.2.1 15 = .ok (.invokevirtual 125, 3) := by decide +kernel
theorem d_L_layFrom_18 : decode M_L_layFrom.2.1 18 = .ok (.istore_n 2, 1) := by decide +kernel
theorem d_L_layFrom_19 : decode M_L_layFrom.2.1 19 = .ok (.aload_n 0, 1) := by decide +kernel
theorem d_L_layFrom_20 : decode M_L_layFrom.2.1 20 = .ok (.getfield 36, 3) := by decide +kernel
theorem d_L_layFrom_23 : decode M_L_layFrom.2.1 23 = .ok (.iload_n 2, 1) := by decide +kernel
theorem d_L_layFrom_24 : decode M_L_layFrom.2.1 24 = .ok (.bipush 6, 2) := by decide +kernel
theorem d_L_layFrom_26 : decode M_L_layFrom.2.1 26 = .ok (.ishr, 1) := by decide +kernel
theorem d_L_layFrom_27 : decode M_L_layFrom.2.1 27 = .ok (.laload, 1) := by decide +kernel
theorem d_L_layFrom_28 : decode M_L_layFrom.2.1 28 = .ok (.iload_n 2, 1) := by decide +kernel
theorem d_L_layFrom_29 : decode M_L_layFrom.2.1 29 = .ok (.bipush 63, 2) := by decide +kernel
theorem d_L_layFrom_31 : decode M_L_layFrom.2.1 31 = .ok (.iand, 1) := by decide +kernel
theorem d_L_layFrom_32 : decode M_L_layFrom.2.1 32 = .ok (.lshr, 1) := by decide +kernel
theorem d_L_layFrom_33 : decode M_L_layFrom.2.1 33 = .ok (.lconst 1, 1) := by decide +kernel
theorem d_L_layFrom_34 : decode M_L_layFrom.2.1 34 = .ok (.land, 1) := by decide +kernel
theorem d_L_layFrom_35 : decode M_L_layFrom.2.1 35 = .ok (.lconst 1, 1) := by decide +kernel
theorem d_L_layFrom_36 : decode M_L_layFrom.2.1 36 = .ok (.lcmp, 1) := by decide +kernel
theorem d_L_layFrom_37 : decode M_L_layFrom.2.1 37 = .ok (.ifCond .ne 5, 3) := by decide +kernel
theorem d_L_layFrom_40 : decode M_L_layFrom.2.1 40 = .ok (.iconst 0, 1) := by decide +kernel
theorem d_L_layFrom_41 : decode M_L_layFrom.2.1 41 = .ok (.ireturn, 1) := by decide +kernel
theorem d_L_layFrom_42 : decode M_L_layFrom.2.1 42 = .ok (.iconst 0, 1) := by decide +kernel
theorem d_L_layFrom_43 : decode M_L_layFrom.2.1 43 = .ok (.istore_n 3, 1) := by decide +kernel
theorem d_L_layFrom_44 : decode M_L_layFrom.2.1 44 = .ok (.iconst 0, 1) := by decide +kernel
theorem d_L_layFrom_45 : decode M_L_layFrom.2.1 45 = .ok (.istore 4, 2) := by decide +kernel
theorem d_L_layFrom_47 : decode M_L_layFrom.2.1 47 = .ok (.iconst 0, 1) := by decide +kernel
theorem d_L_layFrom_48 : decode M_L_layFrom.2.1 48 = .ok (.istore 5, 2) := by decide +kernel
theorem d_L_layFrom_50 : decode M_L_layFrom.2.1 50 = .ok (.iload 5, 2) := by decide +kernel
theorem d_L_layFrom_52 : decode M_L_layFrom.2.1 52 = .ok (.iconst 3, 1) := by decide +kernel
theorem d_L_layFrom_53 : decode M_L_layFrom.2.1 53 = .ok (.if_icmp .ge 68, 3) := by decide +kernel
theorem d_L_layFrom_56 : decode M_L_layFrom.2.1 56 = .ok (.aload_n 0, 1) := by decide +kernel
theorem d_L_layFrom_57 : decode M_L_layFrom.2.1 57 = .ok (.getfield 24, 3) := by decide +kernel
theorem d_L_layFrom_60 : decode M_L_layFrom.2.1 60 = .ok (.iload 5, 2) := by decide +kernel
theorem d_L_layFrom_62 : decode M_L_layFrom.2.1 62 = .ok (.iaload, 1) := by decide +kernel
theorem d_L_layFrom_63 : decode M_L_layFrom.2.1 63 = .ok (.aload_n 0, 1) := by decide +kernel
theorem d_L_layFrom_64 : decode M_L_layFrom.2.1 64 = .ok (.getfield 40, 3) := by decide +kernel
theorem d_L_layFrom_67 : decode M_L_layFrom.2.1 67 = .ok (.getfield 93, 3) := by decide +kernel
theorem d_L_layFrom_70 : decode M_L_layFrom.2.1 70 = .ok (.iload 5, 2) := by decide +kernel
theorem d_L_layFrom_72 : decode M_L_layFrom.2.1 72 = .ok (.iaload, 1) := by decide +kernel
theorem d_L_layFrom_73 : decode M_L_layFrom.2.1 73 = .ok (.if_icmp .ge 42, 3) := by decide +kernel
theorem d_L_layFrom_76 : decode M_L_layFrom.2.1 76 = .ok (.aload_n 0, 1) := by decide +kernel
theorem d_L_layFrom_77 : decode M_L_layFrom.2.1 77 = .ok (.iload 5, 2) := by decide +kernel
theorem d_L_layFrom_79 : decode M_L_layFrom.2.1 79 = .ok (.invokevirtual 129, 3) := by decide +kernel
theorem d_L_layFrom_82 : decode M_L_layFrom.2.1 82 = .ok (.iload_n 1, 1) := by decide +kernel
theorem d_L_layFrom_83 : decode M_L_layFrom.2.1 83 = .ok (.ishr, 1) := by decide +kernel
theorem d_L_layFrom_84 : decode M_L_layFrom.2.1 84 = .ok (.istore 6, 2) := by decide +kernel
theorem d_L_layFrom_86 : decode M_L_layFrom.2.1 86 = .ok (.iload_n 3, 1) := by decide +kernel
theorem d_L_layFrom_87 : decode M_L_layFrom.2.1 87 = .ok (.iload 6, 2) := by decide +kernel
theorem d_L_layFrom_89 : decode M_L_layFrom.2.1 89 = .ok (.iconst 1, 1) := by decide +kernel
theorem d_L_layFrom_90 : decode M_L_layFrom.2.1 90 = .ok (.iand, 1) := by decide +kernel
theorem d_L_layFrom_91 : decode M_L_layFrom.2.1 91 = .ok (.iload 5, 2) := by decide +kernel
theorem d_L_layFrom_93 : decode M_L_layFrom.2.1 93 = .ok (.ishl, 1) := by decide +kernel
theorem d_L_layFrom_94 : decode M_L_layFrom.2.1 94 = .ok (.ior, 1) := by decide +kernel
theorem d_L_layFrom_95 : decode M_L_layFrom.2.1 95 = .ok (.istore_n 3, 1) := by decide +kernel
theorem d_L_layFrom_96 : decode M_L_layFrom.2.1 96 = .ok (.iload 4, 2) := by decide +kernel
theorem d_L_layFrom_98 : decode M_L_layFrom.2.1 98 = .ok (.iload 6, 2) := by decide +kernel
theorem d_L_layFrom_100 : decode M_L_layFrom.2.1 100 = .ok (.iconst 1, 1) := by decide +kernel
theorem d_L_layFrom_101 : decode M_L_layFrom.2.1 101 = .ok (.if_icmp .gt 10, 3) := by decide +kernel
theorem d_L_layFrom_104 : decode M_L_layFrom.2.1 104 = .ok (.iconst 1, 1) := by decide +kernel
theorem d_L_layFrom_105 : decode M_L_layFrom.2.1 105 = .ok (.iload 5, 2) := by decide +kernel
theorem d_L_layFrom_107 : decode M_L_layFrom.2.1 107 = .ok (.ishl, 1) := by decide +kernel
theorem d_L_layFrom_108 : decode M_L_layFrom.2.1 108 = .ok (.goto 4, 3) := by decide +kernel
theorem d_L_layFrom_111 : decode M_L_layFrom.2.1 111 = .ok (.iconst 0, 1) := by decide +kernel
theorem d_L_layFrom_112 : decode M_L_layFrom.2.1 112 = .ok (.ior, 1) := by decide +kernel
theorem d_L_layFrom_113 : decode M_L_layFrom.2.1 113 = .ok (.istore 4, 2) := by decide +kernel
theorem d_L_layFrom_115 : decode M_L_layFrom.2.1 115 = .ok (.iinc 5 1, 3) := by decide +kernel
theorem d_L_layFrom_118 : decode M_L_layFrom.2.1 118 = .ok (.goto (-68), 3) := by decide +kernel
theorem d_L_layFrom_121 : decode M_L_layFrom.2.1 121 = .ok (.iload 4, 2) := by decide +kernel
theorem d_L_layFrom_123 : decode M_L_layFrom.2.1 123 = .ok (.istore 5, 2) := by decide +kernel
theorem d_L_layFrom_125 : decode M_L_layFrom.2.1 125 = .ok (.iload 5, 2) := by decide +kernel
theorem d_L_layFrom_127 : decode M_L_layFrom.2.1 127 = .ok (.iload_n 3, 1) := by decide +kernel
theorem d_L_layFrom_128 : decode M_L_layFrom.2.1 128 = .ok (.if_icmp .gt 73, 3) := by decide +kernel
theorem d_L_layFrom_131 : decode M_L_layFrom.2.1 131 = .ok (.iload 5, 2) := by decide +kernel
theorem d_L_layFrom_133 : decode M_L_layFrom.2.1 133 = .ok (.iload_n 3, 1) := by decide +kernel
theorem d_L_layFrom_134 : decode M_L_layFrom.2.1 134 = .ok (.iconst (-1), 1) := by decide +kernel
theorem d_L_layFrom_135 : decode M_L_layFrom.2.1 135 = .ok (.ixor, 1) := by decide +kernel
theorem d_L_layFrom_136 : decode M_L_layFrom.2.1 136 = .ok (.iand, 1) := by decide +kernel
theorem d_L_layFrom_137 : decode M_L_layFrom.2.1 137 = .ok (.ifCond .ne 58, 3) := by decide +kernel
theorem d_L_layFrom_140 : decode M_L_layFrom.2.1 140 = .ok (.iload 4, 2) := by decide +kernel
theorem d_L_layFrom_142 : decode M_L_layFrom.2.1 142 = .ok (.iload 5, 2) := by decide +kernel
theorem d_L_layFrom_144 : decode M_L_layFrom.2.1 144 = .ok (.iconst (-1), 1) := by decide +kernel
theorem d_L_layFrom_145 : decode M_L_layFrom.2.1 145 = .ok (.ixor, 1) := by decide +kernel
theorem d_L_layFrom_146 : decode M_L_layFrom.2.1 146 = .ok (.iand, 1) := by decide +kernel
theorem d_L_layFrom_147 : decode M_L_layFrom.2.1 147 = .ok (.ifCond .ne 48, 3) := by decide +kernel
theorem d_L_layFrom_150 : decode M_L_layFrom.2.1 150 = .ok (.aload_n 0, 1) := by decide +kernel
theorem d_L_layFrom_151 : decode M_L_layFrom.2.1 151 = .ok (.getfield 9, 3) := by decide +kernel
theorem d_L_layFrom_154 : decode M_L_layFrom.2.1 154 = .ok (.iload_n 1, 1) := by decide +kernel
theorem d_L_layFrom_155 : decode M_L_layFrom.2.1 155 = .ok (.iaload, 1) := by decide +kernel
theorem d_L_layFrom_156 : decode M_L_layFrom.2.1 156 = .ok (.aload_n 0, 1) := by decide +kernel
theorem d_L_layFrom_157 : decode M_L_layFrom.2.1 157 = .ok (.getfield 102, 3) := by decide +kernel
theorem d_L_layFrom_160 : decode M_L_layFrom.2.1 160 = .ok (.aload_n 0, 1) := by decide +kernel
theorem d_L_layFrom_161 : decode M_L_layFrom.2.1 161 = .ok (.iload 5, 2) := by decide +kernel
theorem d_L_layFrom_163 : decode M_L_layFrom.2.1 163 = .ok (.invokevirtual 132, 3) := by decide +kernel
theorem d_L_layFrom_166 : decode M_L_layFrom.2.1 166 = .ok (.isub, 1) := by decide +kernel
theorem d_L_layFrom_167 : decode M_L_layFrom.2.1 167 = .ok (.if_icmp .gt 28, 3) := by decide +kernel
theorem d_L_layFrom_170 : decode M_L_layFrom.2.1 170 = .ok (.aload_n 0, 1) := by decide +kernel
theorem d_L_layFrom_171 : decode M_L_layFrom.2.1 171 = .ok (.iload 5, 2) := by decide +kernel
theorem d_L_layFrom_173 : decode M_L_layFrom.2.1 173 = .ok (.iload_n 1, 1) := by decide +kernel
theorem d_L_layFrom_174 : decode M_L_layFrom.2.1 174 = .ok (.invokevirtual 135, 3) := by decide +kernel
theorem d_L_layFrom_177 : decode M_L_layFrom.2.1 177 = .ok (.aload_n 0, 1) := by decide +kernel
theorem d_L_layFrom_178 : decode M_L_layFrom.2.1 178 = .ok (.iload_n 1, 1) := by decide +kernel
theorem d_L_layFrom_179 : decode M_L_layFrom.2.1 179 = .ok (.iconst 1, 1) := by decide +kernel
theorem d_L_layFrom_180 : decode M_L_layFrom.2.1 180 = .ok (.iadd, 1) := by decide +kernel
theorem d_L_layFrom_181 : decode M_L_layFrom.2.1 181 = .ok (.invokevirtual 109, 3) := by decide +kernel
theorem d_L_layFrom_184 : decode M_L_layFrom.2.1 184 = .ok (.ifCond .eq 5, 3) := by decide +kernel
theorem d_L_layFrom_187 : decode M_L_layFrom.2.1 187 = .ok (.iconst 1, 1) := by decide +kernel
theorem d_L_layFrom_188 : decode M_L_layFrom.2.1 188 = .ok (.ireturn, 1) := by decide +kernel
theorem d_L_layFrom_189 : decode M_L_layFrom.2.1 189 = .ok (.aload_n 0, 1) := by decide +kernel
theorem d_L_layFrom_190 : decode M_L_layFrom.2.1 190 = .ok (.iload 5, 2) := by decide +kernel
theorem d_L_layFrom_192 : decode M_L_layFrom.2.1 192 = .ok (.invokevirtual 139, 3) := by decide +kernel
theorem d_L_layFrom_195 : decode M_L_layFrom.2.1 195 = .ok (.iinc 5 1, 3) := by decide +kernel
theorem d_L_layFrom_198 : decode M_L_layFrom.2.1 198 = .ok (.goto (-73), 3) := by decide +kernel
theorem d_L_layFrom_201 : decode M_L_layFrom.2.1 201 = .ok (.aload_n 0, 1) := by decide +kernel
theorem d_L_layFrom_202 : decode M_L_layFrom.2.1 202 = .ok (.getfield 36, 3) := by decide +kernel
theorem d_L_layFrom_205 : decode M_L_layFrom.2.1 205 = .ok (.iload_n 2, 1) := by decide +kernel
theorem d_L_layFrom_206 : decode M_L_layFrom.2.1 206 = .ok (.bipush 6, 2) := by decide +kernel
theorem d_L_layFrom_208 : decode M_L_layFrom.2.1 208 = .ok (.ishr, 1) := by decide +kernel
theorem d_L_layFrom_209 : decode M_L_layFrom.2.1 209 = .ok (.dup2, 1) := by decide +kernel
theorem d_L_layFrom_210 : decode M_L_layFrom.2.1 210 = .ok (.laload, 1) := by decide +kernel
theorem d_L_layFrom_211 : decode M_L_layFrom.2.1 211 = .ok (.lconst 1, 1) := by decide +kernel
theorem d_L_layFrom_212 : decode M_L_layFrom.2.1 212 = .ok (.iload_n 2, 1) := by decide +kernel
theorem d_L_layFrom_213 : decode M_L_layFrom.2.1 213 = .ok (.bipush 63, 2) := by decide +kernel
theorem d_L_layFrom_215 : decode M_L_layFrom.2.1 215 = .ok (.iand, 1) := by decide +kernel
theorem d_L_layFrom_216 : decode M_L_layFrom.2.1 216 = .ok (.lshl, 1) := by decide +kernel
theorem d_L_layFrom_217 : decode M_L_layFrom.2.1 217 = .ok (.lor, 1) := by decide +kernel
theorem d_L_layFrom_218 : decode M_L_layFrom.2.1 218 = .ok (.lastore, 1) := by decide +kernel
theorem d_L_layFrom_219 : decode M_L_layFrom.2.1 219 = .ok (.iconst 0, 1) := by decide +kernel
theorem d_L_layFrom_220 : decode M_L_layFrom.2.1 220 = .ok (.ireturn, 1) := by decide +kernel
theorem d_L_stateIn_0 : decode M_L_stateIn.2.1 0 = .ok (.iload_n 1, 1) := by decide +kernel
theorem d_L_stateIn_1 : decode M_L_stateIn.2.1 1 = .ok (.iconst 1, 1) := by decide +kernel
theorem d_L_stateIn_2 : decode M_L_stateIn.2.1 2 = .ok (.isub, 1) := by decide +kernel
theorem d_L_stateIn_3 : decode M_L_stateIn.2.1 3 = .ok (.istore_n 2, 1) := by decide +kernel
theorem d_L_stateIn_4 : decode M_L_stateIn.2.1 4 = .ok (.iconst 0, 1) := by decide +kernel
theorem d_L_stateIn_5 : decode M_L_stateIn.2.1 5 = .ok (.istore_n 3, 1) := by decide +kernel
theorem d_L_stateIn_6 : decode M_L_stateIn.2.1 6 = .ok (.iload_n 3, 1) := by decide +kernel
theorem d_L_stateIn_7 : decode M_L_stateIn.2.1 7 = .ok (.iconst 3, 1) := by decide +kernel
theorem d_L_stateIn_8 : decode M_L_stateIn.2.1 8 = .ok (.if_icmp .ge 88, 3) := by decide +kernel
theorem d_L_stateIn_11 : decode M_L_stateIn.2.1 11 = .ok (.aload_n 0, 1) := by decide +kernel
theorem d_L_stateIn_12 : decode M_L_stateIn.2.1 12 = .ok (.getfield 24, 3) := by decide +kernel
theorem d_L_stateIn_15 : decode M_L_stateIn.2.1 15 = .ok (.iload_n 3, 1) := by decide +kernel
theorem d_L_stateIn_16 : decode M_L_stateIn.2.1 16 = .ok (.iaload, 1) := by decide +kernel
theorem d_L_stateIn_17 : decode M_L_stateIn.2.1 17 = .ok (.istore 4, 2) := by decide +kernel
theorem d_L_stateIn_19 : decode M_L_stateIn.2.1 19 = .ok (.iconst 0, 1) := by decide +kernel
theorem d_L_stateIn_20 : decode M_L_stateIn.2.1 20 = .ok (.istore 5, 2) := by decide +kernel
theorem d_L_stateIn_22 : decode M_L_stateIn.2.1 22 = .ok (.iload 4, 2) := by decide +kernel
theorem d_L_stateIn_24 : decode M_L_stateIn.2.1 24 = .ok (.ifCond .le 54, 3) := by decide +kernel
theorem d_L_stateIn_27 : decode M_L_stateIn.2.1 27 = .ok (.iload_n 1, 1) := by decide +kernel
theorem d_L_stateIn_28 : decode M_L_stateIn.2.1 28 = .ok (.aload_n 0, 1) := by decide +kernel
theorem d_L_stateIn_29 : decode M_L_stateIn.2.1 29 = .ok (.getfield 21, 3) := by decide +kernel
theorem d_L_stateIn_32 : decode M_L_stateIn.2.1 32 = .ok (.iload_n 3, 1) := by decide +kernel
theorem d_L_stateIn_33 : decode M_L_stateIn.2.1 33 = .ok (.iconst 5, 1) := by decide +kernel
theorem d_L_stateIn_34 : decode M_L_stateIn.2.1 34 = .ok (.imul, 1) := by decide +kernel
theorem d_L_stateIn_35 : decode M_L_stateIn.2.1 35 = .ok (.iload 4, 2) := by decide +kernel
theorem d_L_stateIn_37 : decode M_L_stateIn.2.1 37 = .ok (.iadd, 1) := by decide +kernel
theorem d_L_stateIn_38 : decode M_L_stateIn.2.1 38 = .ok (.iconst 1, 1) := by decide +kernel
theorem d_L_stateIn_39 : decode M_L_stateIn.2.1 39 = .ok (.isub, 1) := by decide +kernel
theorem d_L_stateIn_40 : decode M_L_stateIn.2.1 40 = .ok (.iaload, 1) := by decide +kernel
theorem d_L_stateIn_41 : decode M_L_stateIn.2.1 41 = .ok (.isub, 1) := by decide +kernel
theorem d_L_stateIn_42 : decode M_L_stateIn.2.1 42 = .ok (.istore 6, 2) := by decide +kernel
theorem d_L_stateIn_44 : decode M_L_stateIn.2.1 44 = .ok (.iload 4, 2) := by decide +kernel
theorem d_L_stateIn_46 : decode M_L_stateIn.2.1 46 = .ok (.aload_n 0, 1) := by decide +kernel
theorem d_L_stateIn_47 : decode M_L_stateIn.2.1 47 = .ok (.getfield 40, 3) := by decide +kernel
theorem d_L_stateIn_50 : decode M_L_stateIn.2.1 50 = .ok (.getfield 93, 3) := by decide +kernel
theorem d_L_stateIn_53 : decode M_L_stateIn.2.1 53 = .ok (.iload_n 3, 1) := by decide +kernel
theorem d_L_stateIn_54 : decode M_L_stateIn.2.1 54 = .ok (.iaload, 1) := by decide +kernel
theorem d_L_stateIn_55 : decode M_L_stateIn.2.1 55 = .ok (.if_icmp .ne 7, 3) := by decide +kernel
theorem d_L_stateIn_58 : decode M_L_stateIn.2.1 58 = .ok (.iconst 1, 1) := by decide +kernel
theorem d_L_stateIn_59 : decode M_L_stateIn.2.1 59 = .ok (.goto 17, 3) := by decide +kernel
theorem d_L_stateIn_62 : decode M_L_stateIn.2.1 62 = .ok (.iconst 2, 1) := by decide +kernel
theorem d_L_stateIn_63 : decode M_L_stateIn.2.1 63 = .ok (.iload 4, 2) := by decide +kernel
theorem d_L_stateIn_65 : decode M_L_stateIn.2.1 65 = .ok (.iconst 1, 1) := by decide +kernel
theorem d_L_stateIn_66 : decode M_L_stateIn.2.1 66 = .ok (.isub, 1) := by decide +kernel
theorem d_L_stateIn_67 : decode M_L_stateIn.2.1 67 = .ok (.bipush 6, 2) := by decide +kernel
theorem d_L_stateIn_69 : decode M_L_stateIn.2.1 69 = .ok (.imul, 1) := by decide +kernel
theorem d_L_stateIn_70 : decode M_L_stateIn.2.1 70 = .ok (.iadd, 1) := by decide +kernel
theorem d_L_stateIn_71 : decode M_L_stateIn.2.1 71 = .ok (.iload 6, 2) := by decide +kernel
theorem d_L_stateIn_73 : decode M_L_stateIn.2.1 73 = .ok (.iadd, 1) := by decide +kernel
theorem d_L_stateIn_74 : decode M_L_stateIn.2.1 74 = .ok (.iconst 1, 1) := by decide +kernel
theorem d_L_stateIn_75 : decode M_L_stateIn.2.1 75 = .ok (.isub, 1) := by decide +kernel
theorem d_L_stateIn_76 : decode M_L_stateIn.2.1 76 = .ok (.istore 5, 2) := by decide +kernel
theorem d_L_stateIn_78 : decode M_L_stateIn.2.1 78 = .ok (.iload_n 2, 1) := by decide +kernel
theorem d_L_stateIn_79 : decode M_L_stateIn.2.1 79 = .ok (.aload_n 0, 1) := by decide +kernel
theorem d_L_stateIn_80 : decode M_L_stateIn.2.1 80 = .ok (.getfield 27, 3) := by decide +kernel
theorem d_L_stateIn_83 : decode M_L_stateIn.2.1 83 = .ok (.iload_n 3, 1) := by decide +kernel
theorem d_L_stateIn_84 : decode M_L_stateIn.2.1 84 = .ok (.iaload, 1) := by decide +kernel
theorem d_L_stateIn_85 : decode M_L_stateIn.2.1 85 = .ok (.imul, 1) := by decide +kernel
theorem d_L_stateIn_86 : decode M_L_stateIn.2.1 86 = .ok (.iload 5, 2) := by decide +kernel
theorem d_L_stateIn_88 : decode M_L_stateIn.2.1 88 = .ok (.iadd, 1) := by decide +kernel
theorem d_L_stateIn_89 : decode M_L_stateIn.2.1 89 = .ok (.istore_n 2, 1) := by decide +kernel
theorem d_L_stateIn_90 : decode M_L_stateIn.2.1 90 = .ok (.iinc 3 1, 3) := by decide +kernel
theorem d_L_stateIn_93 : decode M_L_stateIn.2.1 93 = .ok (.goto (-87), 3) := by decide +kernel
theorem d_L_stateIn_96 : decode M_L_stateIn.2.1 96 = .ok (.iload_n 2, 1) := by decide +kernel
theorem d_L_stateIn_97 : decode M_L_stateIn.2.1 97 = .ok (.ireturn, 1) := by decide +kernel
theorem d_L_weeksForNext_0 : decode M_L_weeksForNext.2.1 0 = .ok (.iload_n 1, 1) := by decide +kernel
theorem d_L_weeksForNext_1 : decode M_L_weeksForNext.2.1 1 = .ok (.iconst 5, 1) := by decide +kernel
theorem d_L_weeksForNext_2 : decode M_L_weeksForNext.2.1 2 = .ok (.imul, 1) := by decide +kernel
theorem d_L_weeksForNext_3 : decode M_L_weeksForNext.2.1 3 = .ok (.aload_n 0, 1) := by decide +kernel
theorem d_L_weeksForNext_4 : decode M_L_weeksForNext.2.1 4 = .ok (.getfield 24, 3) := by decide +kernel
theorem d_L_weeksForNext_7 : decode M_L_weeksForNext.2.1 7 = .ok (.iload_n 1, 1) := by decide +kernel
theorem d_L_weeksForNext_8 : decode M_L_weeksForNext.2.1 8 = .ok (.iaload, 1) := by decide +kernel
theorem d_L_weeksForNext_9 : decode M_L_weeksForNext.2.1 9 = .ok (.iadd, 1) := by decide +kernel
theorem d_L_weeksForNext_10 : decode M_L_weeksForNext.2.1 10 = .ok (.istore_n 2, 1) := by decide +kernel
theorem d_L_weeksForNext_11 : decode M_L_weeksForNext.2.1 11 = .ok (.aload_n 0, 1) := by decide +kernel
theorem d_L_weeksForNext_12 : decode M_L_weeksForNext.2.1 12 = .ok (.getfield 24, 3) := by decide +kernel
theorem d_L_weeksForNext_15 : decode M_L_weeksForNext.2.1 15 = .ok (.iload_n 1, 1) := by decide +kernel
theorem d_L_weeksForNext_16 : decode M_L_weeksForNext.2.1 16 = .ok (.iaload, 1) := by decide +kernel
theorem d_L_weeksForNext_17 : decode M_L_weeksForNext.2.1 17 = .ok (.ifCond .ne 10, 3) := by decide +kernel
theorem d_L_weeksForNext_20 : decode M_L_weeksForNext.2.1 20 = .ok (.aload_n 0, 1) := by decide +kernel
theorem d_L_weeksForNext_21 : decode M_L_weeksForNext.2.1 21 = .ok (.getfield 18, 3) := by decide +kernel
theorem d_L_weeksForNext_24 : decode M_L_weeksForNext.2.1 24 = .ok (.iload_n 2, 1) := by decide +kernel
theorem d_L_weeksForNext_25 : decode M_L_weeksForNext.2.1 25 = .ok (.iaload, 1) := by decide +kernel
theorem d_L_weeksForNext_26 : decode M_L_weeksForNext.2.1 26 = .ok (.ireturn, 1) := by decide +kernel
theorem d_L_weeksForNext_27 : decode M_L_weeksForNext.2.1 27 = .ok (.iconst 1, 1) := by decide +kernel
theorem d_L_weeksForNext_28 : decode M_L_weeksForNext.2.1 28 = .ok (.aload_n 0, 1) := by decide +kernel
theorem d_L_weeksForNext_29 : decode M_L_weeksForNext.2.1 29 = .ok (.getfield 40, 3) := by decide +kernel
theorem d_L_weeksForNext_32 : decode M_L_weeksForNext.2.1 32 = .ok (.getfield 122, 3) := by decide +kernel
theorem d_L_weeksForNext_35 : decode M_L_weeksForNext.2.1 35 = .ok (.iload_n 1, 1) := by decide +kernel
theorem d_L_weeksForNext_36 : decode M_L_weeksForNext.2.1 36 = .ok (.iaload, 1) := by decide +kernel
theorem d_L_weeksForNext_37 : decode M_L_weeksForNext.2.1 37 = .ok (.aload_n 0, 1) := by decide +kernel
theorem d_L_weeksForNext_38 : decode M_L_weeksForNext.2.1 38 = .ok (.getfield 40, 3) := by decide +kernel
theorem d_L_weeksForNext_41 : decode M_L_weeksForNext.2.1 41 = .ok (.getfield 119, 3) := by decide +kernel
theorem d_L_weeksForNext_44 : decode M_L_weeksForNext.2.1 44 = .ok (.iload_n 1, 1) := by decide +kernel
theorem d_L_weeksForNext_45 : decode M_L_weeksForNext.2.1 45 = .ok (.iaload, 1) := by decide +kernel
theorem d_L_weeksForNext_46 : decode M_L_weeksForNext.2.1 46 = .ok (.isub, 1) := by decide +kernel
theorem d_L_weeksForNext_47 : decode M_L_weeksForNext.2.1 47 = .ok (.iconst 1, 1) := by decide +kernel
theorem d_L_weeksForNext_48 : decode M_L_weeksForNext.2.1 48 = .ok (.iadd, 1) := by decide +kernel
theorem d_L_weeksForNext_49 : decode M_L_weeksForNext.2.1 49 = .ok (.ishl, 1) := by decide +kernel
theorem d_L_weeksForNext_50 : decode M_L_weeksForNext.2.1 50 = .ok (.iconst 1, 1) := by decide +kernel
theorem d_L_weeksForNext_51 : decode M_L_weeksForNext.2.1 51 = .ok (.isub, 1) := by decide +kernel
theorem d_L_weeksForNext_52 : decode M_L_weeksForNext.2.1 52 = .ok (.istore_n 3, 1) := by decide +kernel
theorem d_L_weeksForNext_53 : decode M_L_weeksForNext.2.1 53 = .ok (.aload_n 0, 1) := by decide +kernel
theorem d_L_weeksForNext_54 : decode M_L_weeksForNext.2.1 54 = .ok (.getfield 18, 3) := by decide +kernel
theorem d_L_weeksForNext_57 : decode M_L_weeksForNext.2.1 57 = .ok (.iload_n 2, 1) := by decide +kernel
theorem d_L_weeksForNext_58 : decode M_L_weeksForNext.2.1 58 = .ok (.iaload, 1) := by decide +kernel
theorem d_L_weeksForNext_59 : decode M_L_weeksForNext.2.1 59 = .ok (.iload_n 3, 1) := by decide +kernel
theorem d_L_weeksForNext_60 : decode M_L_weeksForNext.2.1 60 = .ok (.aload_n 0, 1) := by decide +kernel
theorem d_L_weeksForNext_61 : decode M_L_weeksForNext.2.1 61 = .ok (.getfield 21, 3) := by decide +kernel
theorem d_L_weeksForNext_64 : decode M_L_weeksForNext.2.1 64 = .ok (.iload_n 2, 1) := by decide +kernel
theorem d_L_weeksForNext_65 : decode M_L_weeksForNext.2.1 65 = .ok (.iconst 1, 1) := by decide +kernel
theorem d_L_weeksForNext_66 : decode M_L_weeksForNext.2.1 66 = .ok (.isub, 1) := by decide +kernel
theorem d_L_weeksForNext_67 : decode M_L_weeksForNext.2.1 67 = .ok (.iaload, 1) := by decide +kernel
theorem d_L_weeksForNext_68 : decode M_L_weeksForNext.2.1 68 = .ok (.aload_n 0, 1) := by decide +kernel
theorem d_L_weeksForNext_69 : decode M_L_weeksForNext.2.1 69 = .ok (.getfield 40, 3) := by decide +kernel
theorem d_L_weeksForNext_72 : decode M_L_weeksForNext.2.1 72 = .ok (.getfield 119, 3) := by decide +kernel
theorem d_L_weeksForNext_75 : decode M_L_weeksForNext.2.1 75 = .ok (.iload_n 1, 1) := by decide +kernel
theorem d_L_weeksForNext_76 : decode M_L_weeksForNext.2.1 76 = .ok (.iaload, 1) := by decide +kernel
theorem d_L_weeksForNext_77 : decode M_L_weeksForNext.2.1 77 = .ok (.iadd, 1) := by decide +kernel
theorem d_L_weeksForNext_78 : decode M_L_weeksForNext.2.1 78 = .ok (.ishl, 1) := by decide +kernel
theorem d_L_weeksForNext_79 : decode M_L_weeksForNext.2.1 79 = .ok (.iand, 1) := by decide +kernel
theorem d_L_weeksForNext_80 : decode M_L_weeksForNext.2.1 80 = .ok (.ireturn, 1) := by decide +kernel
theorem d_L_minutesOfNext_0 : decode M_L_minutesOfNext.2.1 0 = .ok (.iconst 0, 1) := by decide +kernel
theorem d_L_minutesOfNext_1 : decode M_L_minutesOfNext.2.1 1 = .ok (.istore_n 2, 1) := by decide +kernel
theorem d_L_minutesOfNext_2 : decode M_L_minutesOfNext.2.1 2 = .ok (.iconst 0, 1) := by decide +kernel
theorem d_L_minutesOfNext_3 : decode M_L_minutesOfNext.2.1 3 = .ok (.istore_n 3, 1) := by decide +kernel
theorem d_L_minutesOfNext_4 : decode M_L_minutesOfNext.2.1 4 = .ok (.iload_n 3, 1) := by decide +kernel
theorem d_L_minutesOfNext_5 : decode M_L_minutesOfNext.2.1 5 = .ok (.iconst 3, 1) := by decide +kernel
theorem d_L_minutesOfNext_6 : decode M_L_minutesOfNext.2.1 6 = .ok (.if_icmp .ge 39, 3) := by decide +kernel
theorem d_L_minutesOfNext_9 : decode M_L_minutesOfNext.2.1 9 = .ok (.iload_n 1, 1) := by decide +kernel
theorem d_L_minutesOfNext_10 : decode M_L_minutesOfNext.2.1 10 = .ok (.iload_n 3, 1) := by decide +kernel
theorem d_L_minutesOfNext_11 : decode M_L_minutesOfNext.2.1 11 = .ok (.ishr, 1) := by decide +kernel
theorem d_L_minutesOfNext_12 : decode M_L_minutesOfNext.2.1 12 = .ok (.iconst 1, 1) := by decide +kernel
theorem d_L_minutesOfNext_13 : decode M_L_minutesOfNext.2.1 13 = .ok (.iand, 1) := by decide +kernel
theorem d_L_minutesOfNext_14 : decode M_L_minutesOfNext.2.1 14 = .ok (.iconst 1, 1) := by decide +kernel
theorem d_L_minutesOfNext_15 : decode M_L_minutesOfNext.2.1 15 = .ok (.if_icmp .ne 24, 3) := by decide +kernel
theorem d_L_minutesOfNext_18 : decode M_L_minutesOfNext.2.1 18 = .ok (.iload_n 2, 1) := by decide +kernel
theorem d_L_minutesOfNext_19 : decode M_L_minutesOfNext.2.1 19 = .ok (.aload_n 0, 1) := by decide +kernel
theorem d_L_minutesOfNext_20 : decode M_L_minutesOfNext.2.1 20 = .ok (.getfield 40, 3) := by decide +kernel
theorem d_L_minutesOfNext_23 : decode M_L_minutesOfNext.2.1 23 = .ok (.getfield 99, 3) := by decide +kernel
theorem d_L_minutesOfNext_26 : decode M_L_minutesOfNext.2.1 26 = .ok (.iload_n 3, 1) := by decide +kernel
theorem d_L_minutesOfNext_27 : decode M_L_minutesOfNext.2.1 27 = .ok (.iconst 5, 1) := by decide +kernel
theorem d_L_minutesOfNext_28 : decode M_L_minutesOfNext.2.1 28 = .ok (.imul, 1) := by decide +kernel
theorem d_L_minutesOfNext_29 : decode M_L_minutesOfNext.2.1 29 = .ok (.aload_n 0, 1) := by decide +kernel
theorem d_L_minutesOfNext_30 : decode M_L_minutesOfNext.2.1 30 = .ok (.getfield 24, 3) := by decide +kernel
theorem d_L_minutesOfNext_33 : decode M_L_minutesOfNext.2.1 33 = .ok (.iload_n 3, 1) := by decide +kernel
theorem d_L_minutesOfNext_34 : decode M_L_minutesOfNext.2.1 34 = .ok (.iaload, 1) := by decide +kernel
theorem d_L_minutesOfNext_35 : decode M_L_minutesOfNext.2.1 35 = .ok (.iadd, 1) := by decide +kernel
theorem d_L_minutesOfNext_36 : decode M_L_minutesOfNext.2.1 36 = .ok (.iaload, 1) := by decide +kernel
theorem d_L_minutesOfNext_37 : decode M_L_minutesOfNext.2.1 37 = .ok (.iadd, 1) := by decide +kernel
theorem d_L_minutesOfNext_38 : decode M_L_minutesOfNext.2.1 38 = .ok (.istore_n 2, 1) := by decide +kernel
theorem d_L_minutesOfNext_39 : decode M_L_minutesOfNext.2.1 39 = .ok (.iinc 3 1, 3) := by decide +kernel
theorem d_L_minutesOfNext_42 : decode M_L_minutesOfNext.2.1 42 = .ok (.goto (-38), 3) := by decide +kernel
theorem d_L_minutesOfNext_45 : decode M_L_minutesOfNext.2.1 45 = .ok (.iload_n 2, 1) := by decide +kernel
theorem d_L_minutesOfNext_46 : decode M_L_minutesOfNext.2.1 46 = .ok (.ireturn, 1) := by decide +kernel
theorem d_L_layNext_0 : decode M_L_layNext.2.1 0 = .ok (.iconst 0, 1) := by decide +kernel
theorem d_L_layNext_1 : decode M_L_layNext.2.1 1 = .ok (.istore_n 3, 1) := by decide +kernel
theorem d_L_layNext_2 : decode M_L_layNext.2.1 2 = .ok (.iload_n 3, 1) := by decide +kernel
theorem d_L_layNext_3 : decode M_L_layNext.2.1 3 = .ok (.iconst 3, 1) := by decide +kernel
theorem d_L_layNext_4 : decode M_L_layNext.2.1 4 = .ok (.if_icmp .ge 44, 3) := by decide +kernel
theorem d_L_layNext_7 : decode M_L_layNext.2.1 7 = .ok (.iload_n 1, 1) := by decide +kernel
theorem d_L_layNext_8 : decode M_L_layNext.2.1 8 = .ok (.iload_n 3, 1) := by decide +kernel
theorem d_L_layNext_9 : decode M_L_layNext.2.1 9 = .ok (.ishr, 1) := by decide +kernel
theorem d_L_layNext_10 : decode M_L_layNext.2.1 10 = .ok (.iconst 1, 1) := by decide +kernel
theorem d_L_layNext_11 : decode M_L_layNext.2.1 11 = .ok (.iand, 1) := by decide +kernel
theorem d_L_layNext_12 : decode M_L_layNext.2.1 12 = .ok (.iconst 1, 1) := by decide +kernel
theorem d_L_layNext_13 : decode M_L_layNext.2.1 13 = .ok (.if_icmp .ne 29, 3) := by decide +kernel
theorem d_L_layNext_16 : decode M_L_layNext.2.1 16 = .ok (.aload_n 0, 1) := by decide +kernel
theorem d_L_layNext_17 : decode M_L_layNext.2.1 17 = .ok (.getfield 21, 3) := by decide +kernel
theorem d_L_layNext_20 : decode M_L_layNext.2.1 20 = .ok (.iload_n 3, 1) := by decide +kernel
theorem d_L_layNext_21 : decode M_L_layNext.2.1 21 = .ok (.iconst 5, 1) := by decide +kernel
theorem d_L_layNext_22 : decode M_L_layNext.2.1 22 = .ok (.imul, 1) := by decide +kernel
theorem d_L_layNext_23 : decode M_L_layNext.2.1 23 = .ok (.aload_n 0, 1) := by decide +kernel
theorem d_L_layNext_24 : decode M_L_layNext.2.1 24 = .ok (.getfield 24, 3) := by decide +kernel
theorem d_L_layNext_27 : decode M_L_layNext.2.1 27 = .ok (.iload_n 3, 1) := by decide +kernel
theorem d_L_layNext_28 : decode M_L_layNext.2.1 28 = .ok (.iaload, 1) := by decide +kernel
theorem d_L_layNext_29 : decode M_L_layNext.2.1 29 = .ok (.iadd, 1) := by decide +kernel
theorem d_L_layNext_30 : decode M_L_layNext.2.1 30 = .ok (.iload_n 2, 1) := by decide +kernel
theorem d_L_layNext_31 : decode M_L_layNext.2.1 31 = .ok (.iastore, 1) := by decide +kernel
theorem d_L_layNext_32 : decode M_L_layNext.2.1 32 = .ok (.aload_n 0, 1) := by decide +kernel
theorem d_L_layNext_33 : decode M_L_layNext.2.1 33 = .ok (.getfield 24, 3) := by decide +kernel
theorem d_L_layNext_36 : decode M_L_layNext.2.1 36 = .ok (.iload_n 3, 1) := by decide +kernel
theorem d_L_layNext_37 : decode M_L_layNext.2.1 37 = .ok (.dup2, 1) := by decide +kernel
theorem d_L_layNext_38 : decode M_L_layNext.2.1 38 = .ok (.iaload, 1) := by decide +kernel
theorem d_L_layNext_39 : decode M_L_layNext.2.1 39 = .ok (.iconst 1, 1) := by decide +kernel
theorem d_L_layNext_40 : decode M_L_layNext.2.1 40 = .ok (.iadd, 1) := by decide +kernel
theorem d_L_layNext_41 : decode M_L_layNext.2.1 41 = .ok (.iastore, 1) := by decide +kernel
theorem d_L_layNext_42 : decode M_L_layNext.2.1 42 = .ok (.iinc 3 1, 3) := by decide +kernel
theorem d_L_layNext_45 : decode M_L_layNext.2.1 45 = .ok (.goto (-43), 3) := by decide +kernel
theorem d_L_layNext_48 : decode M_L_layNext.2.1 48 = .ok (.return_, 1) := by decide +kernel
theorem d_L_takeLast_0 : decode M_L_takeLast.2.1 0 = .ok (.iconst 0, 1) := by decide +kernel
theorem d_L_takeLast_1 : decode M_L_takeLast.2.1 1 = .ok (.istore_n 2, 1) := by decide +kernel
theorem d_L_takeLast_2 : decode M_L_takeLast.2.1 2 = .ok (.iload_n 2, 1) := by decide +kernel
theorem d_L_takeLast_3 : decode M_L_takeLast.2.1 3 = .ok (.iconst 3, 1) := by decide +kernel
theorem d_L_takeLast_4 : decode M_L_takeLast.2.1 4 = .ok (.if_icmp .ge 23, 3) := by decide +kernel
theorem d_L_takeLast_7 : decode M_L_takeLast.2.1 7 = .ok (.aload_n 0, 1) := by decide +kernel
theorem d_L_takeLast_8 : decode M_L_takeLast.2.1 8 = .ok (.getfield 24, 3) := by decide +kernel
theorem d_L_takeLast_11 : decode M_L_takeLast.2.1 11 = .ok (.iload_n 2, 1) := by decide +kernel
theorem d_L_takeLast_12 : decode M_L_takeLast.2.1 12 = .ok (.dup2, 1) := by decide +kernel
theorem d_L_takeLast_13 : decode M_L_takeLast.2.1 13 = .ok (.iaload, 1) := by decide +kernel
theorem d_L_takeLast_14 : decode M_L_takeLast.2.1 14 = .ok (.iload_n 1, 1) := by decide +kernel
theorem d_L_takeLast_15 : decode M_L_takeLast.2.1 15 = .ok (.iload_n 2, 1) := by decide +kernel
theorem d_L_takeLast_16 : decode M_L_takeLast.2.1 16 = .ok (.ishr, 1) := by decide +kernel
theorem d_L_takeLast_17 : decode M_L_takeLast.2.1 17 = .ok (.iconst 1, 1) := by decide +kernel
theorem d_L_takeLast_18 : decode M_L_takeLast.2.1 18 = .ok (.iand, 1) := by decide +kernel
theorem d_L_takeLast_19 : decode M_L_takeLast.2.1 19 = .ok (.isub, 1) := by decide +kernel
theorem d_L_takeLast_20 : decode M_L_takeLast.2.1 20 = .ok (.iastore, 1) := by decide +kernel
theorem d_L_takeLast_21 : decode M_L_takeLast.2.1 21 = .ok (.iinc 2 1, 3) := by decide +kernel
theorem d_L_takeLast_24 : decode M_L_takeLast.2.1 24 = .ok (.goto (-22), 3) := by decide +kernel
theorem d_L_takeLast_27 : decode M_L_takeLast.2.1 27 = .ok (.return_, 1) := by decide +kernel
theorem d_L_keepFound_0 : decode M_L_keepFound.2.1 0 = .ok (.aload_n 0, 1) := by decide +kernel
theorem d_L_keepFound_1 : decode M_L_keepFound.2.1 1 = .ok (.getfield 21, 3) := by decide +kernel
theorem d_L_keepFound_4 : decode M_L_keepFound.2.1 4 = .ok (.iconst 0, 1) := by decide +kernel
theorem d_L_keepFound_5 : decode M_L_keepFound.2.1 5 = .ok (.aload_n 0, 1) := by decide +kernel
theorem d_L_keepFound_6 : decode M_L_keepFound.2.1 6 = .ok (.getfield 30, 3) := by decide +kernel
theorem d_L_keepFound_9 : decode M_L_keepFound.2.1 9 = .ok (.iconst 0, 1) := by decide +kernel
theorem d_L_keepFound_10 : decode M_L_keepFound.2.1 10 = .ok (.aload_n 0, 1) := by decide +kernel
theorem d_L_keepFound_11 : decode M_L_keepFound.2.1 11 = .ok (.getfield 30, 3) := by decide +kernel
theorem d_L_keepFound_14 : decode M_L_keepFound.2.1 14 = .ok (.arraylength, 1) := by decide +kernel
theorem d_L_keepFound_15 : decode M_L_keepFound.2.1 15 = .ok (.invokestatic 87, 3) := by decide +kernel
theorem d_L_keepFound_18 : decode M_L_keepFound.2.1 18 = .ok (.aload_n 0, 1) := by decide +kernel
theorem d_L_keepFound_19 : decode M_L_keepFound.2.1 19 = .ok (.getfield 40, 3) := by decide +kernel
theorem d_L_keepFound_22 : decode M_L_keepFound.2.1 22 = .ok (.getfield 93, 3) := by decide +kernel
theorem d_L_keepFound_25 : decode M_L_keepFound.2.1 25 = .ok (.iconst 0, 1) := by decide +kernel
theorem d_L_keepFound_26 : decode M_L_keepFound.2.1 26 = .ok (.aload_n 0, 1) := by decide +kernel
theorem d_L_keepFound_27 : decode M_L_keepFound.2.1 27 = .ok (.getfield 33, 3) := by decide +kernel
theorem d_L_keepFound_30 : decode M_L_keepFound.2.1 30 = .ok (.iconst 0, 1) := by decide +kernel
theorem d_L_keepFound_31 : decode M_L_keepFound.2.1 31 = .ok (.iconst 3, 1) := by decide +kernel
theorem d_L_keepFound_32 : decode M_L_keepFound.2.1 32 = .ok (.invokestatic 87, 3) := by decide +kernel
theorem d_L_keepFound_35 : decode M_L_keepFound.2.1 35 = .ok (.aload_n 0, 1) := by decide +kernel
theorem d_L_keepFound_36 : decode M_L_keepFound.2.1 36 = .ok (.invokevirtual 96, 3) := by decide +kernel
theorem d_L_keepFound_39 : decode M_L_keepFound.2.1 39 = .ok (.ireturn, 1) := by decide +kernel
theorem d_L_greatestLoad_0 : decode M_L_greatestLoad.2.1 0 = .ok (.aload_n 0, 1) := by decide +kernel
theorem d_L_greatestLoad_1 : decode M_L_greatestLoad.2.1 1 = .ok (.getfield 9, 3) := by decide +kernel
theorem d_L_greatestLoad_4 : decode M_L_greatestLoad.2.1 4 = .ok (.iconst 0, 1) := by decide +kernel
theorem d_L_greatestLoad_5 : decode M_L_greatestLoad.2.1 5 = .ok (.aload_n 0, 1) := by decide +kernel
theorem d_L_greatestLoad_6 : decode M_L_greatestLoad.2.1 6 = .ok (.getfield 15, 3) := by decide +kernel
theorem d_L_greatestLoad_9 : decode M_L_greatestLoad.2.1 9 = .ok (.iconst 0, 1) := by decide +kernel
theorem d_L_greatestLoad_10 : decode M_L_greatestLoad.2.1 10 = .ok (.bipush 27, 2) := by decide +kernel
theorem d_L_greatestLoad_12 : decode M_L_greatestLoad.2.1 12 = .ok (.invokestatic 87, 3) := by decide +kernel
theorem d_L_greatestLoad_15 : decode M_L_greatestLoad.2.1 15 = .ok (.aload_n 0, 1) := by decide +kernel
theorem d_L_greatestLoad_16 : decode M_L_greatestLoad.2.1 16 = .ok (.invokevirtual 72, 3) := by decide +kernel
theorem d_L_greatestLoad_19 : decode M_L_greatestLoad.2.1 19 = .ok (.istore_n 1, 1) := by decide +kernel
theorem d_L_greatestLoad_20 : decode M_L_greatestLoad.2.1 20 = .ok (.iconst 0, 1) := by decide +kernel
theorem d_L_greatestLoad_21 : decode M_L_greatestLoad.2.1 21 = .ok (.istore_n 2, 1) := by decide +kernel
theorem d_L_greatestLoad_22 : decode M_L_greatestLoad.2.1 22 = .ok (.iload_n 2, 1) := by decide +kernel
theorem d_L_greatestLoad_23 : decode M_L_greatestLoad.2.1 23 = .ok (.iconst 3, 1) := by decide +kernel
theorem d_L_greatestLoad_24 : decode M_L_greatestLoad.2.1 24 = .ok (.if_icmp .ge 75, 3) := by decide +kernel
theorem d_L_greatestLoad_27 : decode M_L_greatestLoad.2.1 27 = .ok (.iload_n 2, 1) := by decide +kernel
theorem d_L_greatestLoad_28 : decode M_L_greatestLoad.2.1 28 = .ok (.iconst 5, 1) := by decide +kernel
theorem d_L_greatestLoad_29 : decode M_L_greatestLoad.2.1 29 = .ok (.imul, 1) := by decide +kernel
theorem d_L_greatestLoad_30 : decode M_L_greatestLoad.2.1 30 = .ok (.istore_n 3, 1) := by decide +kernel
theorem d_L_greatestLoad_31 : decode M_L_greatestLoad.2.1 31 = .ok (.iload_n 3, 1) := by decide +kernel
theorem d_L_greatestLoad_32 : decode M_L_greatestLoad.2.1 32 = .ok (.iload_n 2, 1) := by decide +kernel
theorem d_L_greatestLoad_33 : decode M_L_greatestLoad.2.1 33 = .ok (.iconst 5, 1) := by decide +kernel
theorem d_L_greatestLoad_34 : decode M_L_greatestLoad.2.1 34 = .ok (.imul, 1) := by decide +kernel
theorem d_L_greatestLoad_35 : decode M_L_greatestLoad.2.1 35 = .ok (.aload_n 0, 1) := by decide +kernel
theorem d_L_greatestLoad_36 : decode M_L_greatestLoad.2.1 36 = .ok (.getfield 40, 3) := by decide +kernel
theorem d_L_greatestLoad_39 : decode M_L_greatestLoad.2.1 39 = .ok (.getfield 93, 3) := by decide +kernel
theorem d_L_greatestLoad_42 : decode M_L_greatestLoad.2.1 42 = .ok (.iload_n 2, 1) := by decide +kernel
theorem d_L_greatestLoad_43 : decode M_L_greatestLoad.2.1 43 = .ok (.iaload, 1) := by decide +kernel
theorem d_L_greatestLoad_44 : decode M_L_greatestLoad.2.1 44 = .ok (.iadd, 1) := by decide +kernel
theorem d_L_greatestLoad_45 : decode M_L_greatestLoad.2.1 45 = .ok (.if_icmp .ge 48, 3) := by decide +kernel
theorem d_L_greatestLoad_48 : decode M_L_greatestLoad.2.1 48 = .ok (.aload_n 0, 1) := by decide +kernel
theorem d_L_greatestLoad_49 : decode M_L_greatestLoad.2.1 49 = .ok (.getfield 15, 3) := by decide +kernel
theorem d_L_greatestLoad_52 : decode M_L_greatestLoad.2.1 52 = .ok (.aload_n 0, 1) := by decide +kernel
theorem d_L_greatestLoad_53 : decode M_L_greatestLoad.2.1 53 = .ok (.getfield 21, 3) := by decide +kernel
theorem d_L_greatestLoad_56 : decode M_L_greatestLoad.2.1 56 = .ok (.iload_n 3, 1) := by decide +kernel
theorem d_L_greatestLoad_57 : decode M_L_greatestLoad.2.1 57 = .ok (.iaload, 1) := by decide +kernel
theorem d_L_greatestLoad_58 : decode M_L_greatestLoad.2.1 58 = .ok (.dup2, 1) := by decide +kernel
theorem d_L_greatestLoad_59 : decode M_L_greatestLoad.2.1 59 = .ok (.iaload, 1) := by decide +kernel
theorem d_L_greatestLoad_60 : decode M_L_greatestLoad.2.1 60 = .ok (.aload_n 0, 1) := by decide +kernel
theorem d_L_greatestLoad_61 : decode M_L_greatestLoad.2.1 61 = .ok (.getfield 40, 3) := by decide +kernel
theorem d_L_greatestLoad_64 : decode M_L_greatestLoad.2.1 64 = .ok (.getfield 99, 3) := by decide +kernel
theorem d_L_greatestLoad_67 : decode M_L_greatestLoad.2.1 67 = .ok (.iload_n 3, 1) := by decide +kernel
theorem d_L_greatestLoad_68 : decode M_L_greatestLoad.2.1 68 = .ok (.iaload, 1) := by decide +kernel
theorem d_L_greatestLoad_69 : decode M_L_greatestLoad.2.1 69 = .ok (.iadd, 1) := by decide +kernel
theorem d_L_greatestLoad_70 : decode M_L_greatestLoad.2.1 70 = .ok (.iastore, 1) := by decide +kernel
theorem d_L_greatestLoad_71 : decode M_L_greatestLoad.2.1 71 = .ok (.iload_n 1, 1) := by decide +kernel
theorem d_L_greatestLoad_72 : decode M_L_greatestLoad.2.1 72 = .ok (.aload_n 0, 1) := by decide +kernel
theorem d_L_greatestLoad_73 : decode M_L_greatestLoad.2.1 73 = .ok (.getfield 15, 3) := by decide +kernel
theorem d_L_greatestLoad_76 : decode M_L_greatestLoad.2.1 76 = .ok (.aload_n 0, 1) := by decide +kernel
theorem d_L_greatestLoad_77 : decode M_L_greatestLoad.2.1 77 = .ok (.getfield 21, 3) := by decide +kernel
theorem d_L_greatestLoad_80 : decode M_L_greatestLoad.2.1 80 = .ok (.iload_n 3, 1) := by decide +kernel
theorem d_L_greatestLoad_81 : decode M_L_greatestLoad.2.1 81 = .ok (.iaload, 1) := by decide +kernel
theorem d_L_greatestLoad_82 : decode M_L_greatestLoad.2.1 82 = .ok (.iaload, 1) := by decide +kernel
theorem d_L_greatestLoad_83 : decode M_L_greatestLoad.2.1 83 = .ok (.invokestatic 81, 3) := by decide +kernel
theorem d_L_greatestLoad_86 : decode M_L_greatestLoad.2.1 86 = .ok (.istore_n 1, 1) := by decide +kernel
theorem d_L_greatestLoad_87 : decode M_L_greatestLoad.2.1 87 = .ok (.iinc 3 1, 3) := by decide +kernel
theorem d_L_greatestLoad_90 : decode M_L_greatestLoad.2.1 90 = .ok (.goto (-59), 3) := by decide +kernel
theorem d_L_greatestLoad_93 : decode M_L_greatestLoad.2.1 93 = .ok (.iinc 2 1, 3) := by decide +kernel
theorem d_L_greatestLoad_96 : decode M_L_greatestLoad.2.1 96 = .ok (.goto (-74), 3) := by decide +kernel
theorem d_L_greatestLoad_99 : decode M_L_greatestLoad.2.1 99 = .ok (.iload_n 1, 1) := by decide +kernel
theorem d_L_greatestLoad_100 : decode M_L_greatestLoad.2.1 100 = .ok (.ireturn, 1) := by decide +kernel
theorem d_L_leastThinkable_0 : decode M_L_leastThinkable.2.1 0 = .ok (.iconst 0, 1) := by decide +kernel
theorem d_L_leastThinkable_1 : decode M_L_leastThinkable.2.1 1 = .ok (.istore_n 1, 1) := by decide +kernel
theorem d_L_leastThinkable_2 : decode M_L_leastThinkable.2.1 2 = .ok (.iconst 1, 1) := by decide +kernel
theorem d_L_leastThinkable_3 : decode M_L_leastThinkable.2.1 3 = .ok (.istore_n 2, 1) := by decide +kernel
theorem d_L_leastThinkable_4 : decode M_L_leastThinkable.2.1 4 = .ok (.iload_n 2, 1) := by decide +kernel
theorem d_L_leastThinkable_5 : decode M_L_leastThinkable.2.1 5 = .ok (.aload_n 0, 1) := by decide +kernel
theorem d_L_leastThinkable_6 : decode M_L_leastThinkable.2.1 6 = .ok (.getfield 40, 3) := by decide +kernel
theorem d_L_leastThinkable_9 : decode M_L_leastThinkable.2.1 9 = .ok (.getfield 75, 3) := by decide +kernel
theorem d_L_leastThinkable_12 : decode M_L_leastThinkable.2.1 12 = .ok (.if_icmp .gt 20, 3) := by decide +kernel
theorem d_L_leastThinkable_15 : decode M_L_leastThinkable.2.1 15 = .ok (.iload_n 1, 1) := by decide +kernel
theorem d_L_leastThinkable_16 : decode M_L_leastThinkable.2.1 16 = .ok (.aload_n 0, 1) := by decide +kernel
theorem d_L_leastThinkable_17 : decode M_L_leastThinkable.2.1 17 = .ok (.getfield 9, 3) := by decide +kernel
theorem d_L_leastThinkable_20 : decode M_L_leastThinkable.2.1 20 = .ok (.iload_n 2, 1) := by decide +kernel
theorem d_L_leastThinkable_21 : decode M_L_leastThinkable.2.1 21 = .ok (.iaload, 1) := by decide +kernel
theorem d_L_leastThinkable_22 : decode M_L_leastThinkable.2.1 22 = .ok (.invokestatic 81, 3) := by decide +kernel
theorem d_L_leastThinkable_25 : decode M_L_leastThinkable.2.1 25 = .ok (.istore_n 1, 1) := by decide +kernel
theorem d_L_leastThinkable_26 : decode M_L_leastThinkable.2.1 26 = .ok (.iinc 2 1, 3) := by decide +kernel
theorem d_L_leastThinkable_29 : decode M_L_leastThinkable.2.1 29 = .ok (.goto (-25), 3) := by decide +kernel
theorem d_L_leastThinkable_32 : decode M_L_leastThinkable.2.1 32 = .ok (.iload_n 1, 1) := by decide +kernel
theorem d_L_leastThinkable_33 : decode M_L_leastThinkable.2.1 33 = .ok (.ireturn, 1) := by decide +kernel
theorem d_L_keptWeek_0 : decode M_L_keptWeek.2.1 0 = .ok (.iload_n 2, 1) := by decide +kernel
theorem d_L_keptWeek_1 : decode M_L_keptWeek.2.1 1 = .ok (.iconst 0, 1) := by decide +kernel
theorem d_L_keptWeek_2 : decode M_L_keptWeek.2.1 2 = .ok (.aload_n 0, 1) := by decide +kernel
theorem d_L_keptWeek_3 : decode M_L_keptWeek.2.1 3 = .ok (.getfield 33, 3) := by decide +kernel
theorem d_L_keptWeek_6 : decode M_L_keptWeek.2.1 6 = .ok (.iload_n 1, 1) := by decide +kernel
theorem d_L_keptWeek_7 : decode M_L_keptWeek.2.1 7 = .ok (.iaload, 1) := by decide +kernel
theorem d_L_keptWeek_8 : decode M_L_keptWeek.2.1 8 = .ok (.iconst 1, 1) := by decide +kernel
theorem d_L_keptWeek_9 : decode M_L_keptWeek.2.1 9 = .ok (.isub, 1) := by decide +kernel
theorem d_L_keptWeek_10 : decode M_L_keptWeek.2.1 10 = .ok (.invokestatic 50, 3) := by decide +kernel
theorem d_L_keptWeek_13 : decode M_L_keptWeek.2.1 13 = .ok (.ifCond .eq 16, 3) := by decide +kernel
theorem d_L_keptWeek_16 : decode M_L_keptWeek.2.1 16 = .ok (.aload_n 0, 1) := by decide +kernel
theorem d_L_keptWeek_17 : decode M_L_keptWeek.2.1 17 = .ok (.getfield 30, 3) := by decide +kernel
theorem d_L_keptWeek_20 : decode M_L_keptWeek.2.1 20 = .ok (.iload_n 1, 1) := by decide +kernel
theorem d_L_keptWeek_21 : decode M_L_keptWeek.2.1 21 = .ok (.iconst 5, 1) := by decide +kernel
theorem d_L_keptWeek_22 : decode M_L_keptWeek.2.1 22 = .ok (.imul, 1) := by decide +kernel
theorem d_L_keptWeek_23 : decode M_L_keptWeek.2.1 23 = .ok (.iload_n 2, 1) := by decide +kernel
theorem d_L_keptWeek_24 : decode M_L_keptWeek.2.1 24 = .ok (.iadd, 1) := by decide +kernel
theorem d_L_keptWeek_25 : decode M_L_keptWeek.2.1 25 = .ok (.iaload, 1) := by decide +kernel
theorem d_L_keptWeek_26 : decode M_L_keptWeek.2.1 26 = .ok (.goto 4, 3) := by decide +kernel
theorem d_L_keptWeek_29 : decode M_L_keptWeek.2.1 29 = .ok (.iconst (-1), 1) := by decide +kernel
theorem d_L_keptWeek_30 : decode M_L_keptWeek.2.1 30 = .ok (.ireturn, 1) := by decide +kernel
theorem d_L_judgement_0 : decode M_L_judgement.2.1 0 = .ok (.iconst 0, 1) := by decide +kernel
theorem d_L_judgement_1 : decode M_L_judgement.2.1 1 = .ok (.istore_n 3, 1) := by decide +kernel
theorem d_L_judgement_2 : decode M_L_judgement.2.1 2 = .ok (.iconst 0, 1) := by decide +kernel
theorem d_L_judgement_3 : decode M_L_judgement.2.1 3 = .ok (.istore 4, 2) := by decide +kernel
theorem d_L_judgement_5 : decode M_L_judgement.2.1 5 = .ok (.iload 4, 2) := by decide +kernel
theorem d_L_judgement_7 : decode M_L_judgement.2.1 7 = .ok (.iconst 3, 1) := by decide +kernel
theorem d_L_judgement_8 : decode M_L_judgement.2.1 8 = .ok (.if_icmp .ge 148, 3) := by decide +kernel
theorem d_L_judgement_11 : decode M_L_judgement.2.1 11 = .ok (.iconst 0, 1) := by decide +kernel
theorem d_L_judgement_12 : decode M_L_judgement.2.1 12 = .ok (.istore 5, 2) := by decide +kernel
theorem d_L_judgement_14 : decode M_L_judgement.2.1 14 = .ok (.iload 5, 2) := by decide +kernel
theorem d_L_judgement_16 : decode M_L_judgement.2.1 16 = .ok (.aload_n 0, 1) := by decide +kernel
theorem d_L_judgement_17 : decode M_L_judgement.2.1 17 = .ok (.getfield 40, 3) := by decide +kernel
theorem d_L_judgement_20 : decode M_L_judgement.2.1 20 = .ok (.getfield 93, 3) := by decide +kernel
theorem d_L_judgement_23 : decode M_L_judgement.2.1 23 = .ok (.iload 4, 2) := by decide +kernel
theorem d_L_judgement_25 : decode M_L_judgement.2.1 25 = .ok (.iaload, 1) := by decide +kernel
theorem d_L_judgement_26 : decode M_L_judgement.2.1 26 = .ok (.if_icmp .ge 124, 3) := by decide +kernel
theorem d_L_judgement_29 : decode M_L_judgement.2.1 29 = .ok (.iload_n 3, 1) := by decide +kernel
theorem d_L_judgement_30 : decode M_L_judgement.2.1 30 = .ok (.aload_n 1, 1) := by decide +kernel
theorem d_L_judgement_31 : decode M_L_judgement.2.1 31 = .ok (.getfield 142, 3) := by decide +kernel
theorem d_L_judgement_34 : decode M_L_judgement.2.1 34 = .ok (.if_icmp .lt 6, 3) := by decide +kernel
theorem d_L_judgement_37 : decode M_L_judgement.2.1 37 = .ok (.bipush (-13), 2) := by decide +kernel
theorem d_L_judgement_39 : decode M_L_judgement.2.1 39 = .ok (.ireturn, 1) := by decide +kernel
theorem d_L_judgement_40 : decode M_L_judgement.2.1 40 = .ok (.iload 4, 2) := by decide +kernel
theorem d_L_judgement_42 : decode M_L_judgement.2.1 42 = .ok (.iconst 5, 1) := by decide +kernel
theorem d_L_judgement_43 : decode M_L_judgement.2.1 43 = .ok (.imul, 1) := by decide +kernel
theorem d_L_judgement_44 : decode M_L_judgement.2.1 44 = .ok (.iload 5, 2) := by decide +kernel
theorem d_L_judgement_46 : decode M_L_judgement.2.1 46 = .ok (.iadd, 1) := by decide +kernel
theorem d_L_judgement_47 : decode M_L_judgement.2.1 47 = .ok (.istore 6, 2) := by decide +kernel
theorem d_L_judgement_49 : decode M_L_judgement.2.1 49 = .ok (.aload_n 1, 1) := by decide +kernel
theorem d_L_judgement_50 : decode M_L_judgement.2.1 50 = .ok (.getfield 147, 3) := by decide +kernel
theorem d_L_judgement_53 : decode M_L_judgement.2.1 53 = .ok (.iload_n 3, 1) := by decide +kernel
theorem d_L_judgement_54 : decode M_L_judgement.2.1 54 = .ok (.laload, 1) := by decide +kernel
theorem d_L_judgement_55 : decode M_L_judgement.2.1 55 = .ok (.l2i, 1) := by decide +kernel
theorem d_L_judgement_56 : decode M_L_judgement.2.1 56 = .ok (.istore 7, 2) := by decide +kernel
theorem d_L_judgement_58 : decode M_L_judgement.2.1 58 = .ok (.iload 5, 2) := by decide +kernel
theorem d_L_judgement_60 : decode M_L_judgement.2.1 60 = .ok (.ifCond .eq 41, 3) := by decide +kernel
theorem d_L_judgement_63 : decode M_L_judgement.2.1 63 = .ok (.iload 7, 2) := by decide +kernel
theorem d_L_judgement_65 : decode M_L_judgement.2.1 65 = .ok (.aload_n 0, 1) := by decide +kernel
theorem d_L_judgement_66 : decode M_L_judgement.2.1 66 = .ok (.getfield 21, 3) := by decide +kernel
theorem d_L_judgement_69 : decode M_L_judgement.2.1 69 = .ok (.iload 6, 2) := by decide +kernel
theorem d_L_judgement_71 : decode M_L_judgement.2.1 71 = .ok (.iconst 1, 1) := by decide +kernel
theorem d_L_judgement_72 : decode M_L_judgement.2.1 72 = .ok (.isub, 1) := by decide +kernel
theorem d_L_judgement_73 : decode M_L_judgement.2.1 73 = .ok (.iaload, 1) := by decide +kernel
theorem d_L_judgement_74 : decode M_L_judgement.2.1 74 = .ok (.isub, 1) := by decide +kernel
theorem d_L_judgement_75 : decode M_L_judgement.2.1 75 = .ok (.aload_n 0, 1) := by decide +kernel
theorem d_L_judgement_76 : decode M_L_judgement.2.1 76 = .ok (.getfield 40, 3) := by decide +kernel
theorem d_L_judgement_79 : decode M_L_judgement.2.1 79 = .ok (.getfield 119, 3) := by decide +kernel
theorem d_L_judgement_82 : decode M_L_judgement.2.1 82 = .ok (.iload 4, 2) := by decide +kernel
theorem d_L_judgement_84 : decode M_L_judgement.2.1 84 = .ok (.iaload, 1) := by decide +kernel
theorem d_L_judgement_85 : decode M_L_judgement.2.1 85 = .ok (.aload_n 0, 1) := by decide +kernel
theorem d_L_judgement_86 : decode M_L_judgement.2.1 86 = .ok (.getfield 40, 3) := by decide +kernel
theorem d_L_judgement_89 : decode M_L_judgement.2.1 89 = .ok (.getfield 122, 3) := by decide +kernel
theorem d_L_judgement_92 : decode M_L_judgement.2.1 92 = .ok (.iload 4, 2) := by decide +kernel
theorem d_L_judgement_94 : decode M_L_judgement.2.1 94 = .ok (.iaload, 1) := by decide +kernel
theorem d_L_judgement_95 : decode M_L_judgement.2.1 95 = .ok (.invokestatic 50, 3) := by decide +kernel
theorem d_L_judgement_98 : decode M_L_judgement.2.1 98 = .ok (.ifCond .eq 7, 3) := by decide +kernel
theorem d_L_judgement_101 : decode M_L_judgement.2.1 101 = .ok (.iconst 1, 1) := by decide +kernel
theorem d_L_judgement_102 : decode M_L_judgement.2.1 102 = .ok (.goto 4, 3) := by decide +kernel
theorem d_L_judgement_105 : decode M_L_judgement.2.1 105 = .ok (.iconst 0, 1) := by decide +kernel
theorem d_L_judgement_106 : decode M_L_judgement.2.1 106 = .ok (.istore 8, 2) := by decide +kernel
theorem d_L_judgement_108 : decode M_L_judgement.2.1 108 = .ok (.iload 8, 2) := by decide +kernel
theorem d_L_judgement_110 : decode M_L_judgement.2.1 110 = .ok (.ifCond .eq 17, 3) := by decide +kernel
theorem d_L_judgement_113 : decode M_L_judgement.2.1 113 = .ok (.aload_n 0, 1) := by decide +kernel
theorem d_L_judgement_114 : decode M_L_judgement.2.1 114 = .ok (.getfield 40, 3) := by decide +kernel
theorem d_L_judgement_117 : decode M_L_judgement.2.1 117 = .ok (.iload 6, 2) := by decide +kernel
theorem d_L_judgement_119 : decode M_L_judgement.2.1 119 = .ok (.iload 7, 2) := by decide +kernel
theorem d_L_judgement_121 : decode M_L_judgement.2.1 121 = .ok (.invokevirtual 112, 3) := by decide +kernel
theorem d_L_judgement_124 : decode M_L_judgement.2.1 124 = .ok (.ifCond .ne 8, 3) := by decide +kernel
theorem d_L_judgement_127 : decode M_L_judgement.2.1 127 = .ok (.bipush (-100), 2) := by decide +kernel
theorem d_L_judgement_129 : decode M_L_judgement.2.1 129 = .ok (.iload_n 3, 1) := by decide +kernel
theorem d_L_judgement_130 : decode M_L_judgement.2.1 130 = .ok (.isub, 1) := by decide +kernel
theorem d_L_judgement_131 : decode M_L_judgement.2.1 131 = .ok (.ireturn, 1) := by decide +kernel
theorem d_L_judgement_132 : decode M_L_judgement.2.1 132 = .ok (.aload_n 0, 1) := by decide +kernel
theorem d_L_judgement_133 : decode M_L_judgement.2.1 133 = .ok (.getfield 21, 3) := by decide +kernel
theorem d_L_judgement_136 : decode M_L_judgement.2.1 136 = .ok (.iload 6, 2) := by decide +kernel
theorem d_L_judgement_138 : decode M_L_judgement.2.1 138 = .ok (.iload 7, 2) := by decide +kernel
theorem d_L_judgement_140 : decode M_L_judgement.2.1 140 = .ok (.iastore, 1) := by decide +kernel
theorem d_L_judgement_141 : decode M_L_judgement.2.1 141 = .ok (.iinc 3 1, 3) := by decide +kernel
theorem d_L_judgement_144 : decode M_L_judgement.2.1 144 = .ok (.iinc 5 1, 3) := by decide +kernel
theorem d_L_judgement_147 : decode M_L_judgement.2.1 147 = .ok (.goto (-133), 3) := by decide +kernel
theorem d_L_judgement_150 : decode M_L_judgement.2.1 150 = .ok (.iinc 4 1, 3) := by decide +kernel
theorem d_L_judgement_153 : decode M_L_judgement.2.1 153 = .ok (.goto (-148), 3) := by decide +kernel
theorem d_L_judgement_156 : decode M_L_judgement.2.1 156 = .ok (.aload_n 2, 1) := by decide +kernel
theorem d_L_judgement_157 : decode M_L_judgement.2.1 157 = .ok (.aload_n 0, 1) := by decide +kernel
theorem d_L_judgement_158 : decode M_L_judgement.2.1 158 = .ok (.getfield 9, 3) := by decide +kernel
theorem d_L_judgement_161 : decode M_L_judgement.2.1 161 = .ok (.invokevirtual 57, 3) := by decide +kernel
theorem d_L_judgement_164 : decode M_L_judgement.2.1 164 = .ok (.aload_n 0, 1) := by decide +kernel
theorem d_L_judgement_165 : decode M_L_judgement.2.1 165 = .ok (.invokevirtual 96, 3) := by decide +kernel
theorem d_L_judgement_168 : decode M_L_judgement.2.1 168 = .ok (.ireturn, 1) := by decide +kernel
