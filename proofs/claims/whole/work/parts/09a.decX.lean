theorem d_X_init_0 : decode M_X_init.2.1 0 = .ok (.aload_n 0, 1) := by decide +kernel
theorem d_X_init_1 : decode M_X_init.2.1 1 = .ok (.invokespecial 1, 3) := by decide +kernel
theorem d_X_init_4 : decode M_X_init.2.1 4 = .ok (.aload_n 0, 1) := by decide +kernel
theorem d_X_init_5 : decode M_X_init.2.1 5 = .ok (.new 7, 3) := by decide +kernel
theorem d_X_init_8 : decode M_X_init.2.1 8 = .ok (.dup, 1) := by decide +kernel
theorem d_X_init_9 : decode M_X_init.2.1 9 = .ok (.invokespecial 9, 3) := by decide +kernel
theorem d_X_init_12 : decode M_X_init.2.1 12 = .ok (.putfield 10, 3) := by decide +kernel
theorem d_X_init_15 : decode M_X_init.2.1 15 = .ok (.aload_n 0, 1) := by decide +kernel
theorem d_X_init_16 : decode M_X_init.2.1 16 = .ok (.new 16, 3) := by decide +kernel
theorem d_X_init_19 : decode M_X_init.2.1 19 = .ok (.dup, 1) := by decide +kernel
theorem d_X_init_20 : decode M_X_init.2.1 20 = .ok (.invokespecial 18, 3) := by decide +kernel
theorem d_X_init_23 : decode M_X_init.2.1 23 = .ok (.putfield 19, 3) := by decide +kernel
theorem d_X_init_26 : decode M_X_init.2.1 26 = .ok (.aload_n 0, 1) := by decide +kernel
theorem d_X_init_27 : decode M_X_init.2.1 27 = .ok (.new 23, 3) := by decide +kernel
theorem d_X_init_30 : decode M_X_init.2.1 30 = .ok (.dup, 1) := by decide +kernel
theorem d_X_init_31 : decode M_X_init.2.1 31 = .ok (.aload_n 0, 1) := by decide +kernel
theorem d_X_init_32 : decode M_X_init.2.1 32 = .ok (.getfield 19, 3) := by decide +kernel
theorem d_X_init_35 : decode M_X_init.2.1 35 = .ok (.aload_n 0, 1) := by decide +kernel
theorem d_X_init_36 : decode M_X_init.2.1 36 = .ok (.getfield 10, 3) := by decide +kernel
theorem d_X_init_39 : decode M_X_init.2.1 39 = .ok (.invokespecial 25, 3) := by decide +kernel
theorem d_X_init_42 : decode M_X_init.2.1 42 = .ok (.putfield 28, 3) := by decide +kernel
theorem d_X_init_45 : decode M_X_init.2.1 45 = .ok (.aload_n 0, 1) := by decide +kernel
theorem d_X_init_46 : decode M_X_init.2.1 46 = .ok (.new 32, 3) := by decide +kernel
theorem d_X_init_49 : decode M_X_init.2.1 49 = .ok (.dup, 1) := by decide +kernel
theorem d_X_init_50 : decode M_X_init.2.1 50 = .ok (.aload_n 0, 1) := by decide +kernel
theorem d_X_init_51 : decode M_X_init.2.1 51 = .ok (.getfield 19, 3) := by decide +kernel
theorem d_X_init_54 : decode M_X_init.2.1 54 = .ok (.invokespecial 34, 3) := by decide +kernel
theorem d_X_init_57 : decode M_X_init.2.1 57 = .ok (.putfield 37, 3) := by decide +kernel
theorem d_X_init_60 : decode M_X_init.2.1 60 = .ok (.aload_n 0, 1) := by decide +kernel
theorem d_X_init_61 : decode M_X_init.2.1 61 = .ok (.new 41, 3) := by decide +kernel
theorem d_X_init_64 : decode M_X_init.2.1 64 = .ok (.dup, 1) := by decide +kernel
theorem d_X_init_65 : decode M_X_init.2.1 65 = .ok (.invokespecial 43, 3) := by decide +kernel
theorem d_X_init_68 : decode M_X_init.2.1 68 = .ok (.putfield 44, 3) := by decide +kernel
theorem d_X_init_71 : decode M_X_init.2.1 71 = .ok (.aload_n 0, 1) := by decide +kernel
theorem d_X_init_72 : decode M_X_init.2.1 72 = .ok (.new 48, 3) := by decide +kernel
theorem d_X_init_75 : decode M_X_init.2.1 75 = .ok (.dup, 1) := by decide +kernel
theorem d_X_init_76 : decode M_X_init.2.1 76 = .ok (.aload_n 0, 1) := by decide +kernel
theorem d_X_init_77 : decode M_X_init.2.1 77 = .ok (.getfield 44, 3) := by decide +kernel
theorem d_X_init_80 : decode M_X_init.2.1 80 = .ok (.invokespecial 50, 3) := by decide +kernel
theorem d_X_init_83 : decode M_X_init.2.1 83 = .ok (.putfield 53, 3) := by decide +kernel
theorem d_X_init_86 : decode M_X_init.2.1 86 = .ok (.aload_n 0, 1) := by decide +kernel
theorem d_X_init_87 : decode M_X_init.2.1 87 = .ok (.new 57, 3) := by decide +kernel
theorem d_X_init_90 : decode M_X_init.2.1 90 = .ok (.dup, 1) := by decide +kernel
theorem d_X_init_91 : decode M_X_init.2.1 91 = .ok (.invokespecial 59, 3) := by decide +kernel
theorem d_X_init_94 : decode M_X_init.2.1 94 = .ok (.putfield 60, 3) := by decide +kernel
theorem d_X_init_97 : decode M_X_init.2.1 97 = .ok (.aload_n 0, 1) := by decide +kernel
theorem d_X_init_98 : decode M_X_init.2.1 98 = .ok (.bipush 6, 2) := by decide +kernel
theorem d_X_init_100 : decode M_X_init.2.1 100 = .ok (.anewarray 64, 3) := by decide +kernel
theorem d_X_init_103 : decode M_X_init.2.1 103 = .ok (.putfield 66, 3) := by decide +kernel
theorem d_X_init_106 : decode M_X_init.2.1 106 = .ok (.iconst 0, 1) := by decide +kernel
theorem d_X_init_107 : decode M_X_init.2.1 107 = .ok (.istore_n 1, 1) := by decide +kernel
theorem d_X_init_108 : decode M_X_init.2.1 108 = .ok (.iload_n 1, 1) := by decide +kernel
theorem d_X_init_109 : decode M_X_init.2.1 109 = .ok (.bipush 6, 2) := by decide +kernel
theorem d_X_init_111 : decode M_X_init.2.1 111 = .ok (.if_icmp .ge 22, 3) := by decide +kernel
theorem d_X_init_114 : decode M_X_init.2.1 114 = .ok (.aload_n 0, 1) := by decide +kernel
theorem d_X_init_115 : decode M_X_init.2.1 115 = .ok (.getfield 66, 3) := by decide +kernel
theorem d_X_init_118 : decode M_X_init.2.1 118 = .ok (.iload_n 1, 1) := by decide +kernel
theorem d_X_init_119 : decode M_X_init.2.1 119 = .ok (.new 64, 3) := by decide +kernel
theorem d_X_init_122 : decode M_X_init.2.1 122 = .ok (.dup, 1) := by decide +kernel
theorem d_X_init_123 : decode M_X_init.2.1 123 = .ok (.invokespecial 70, 3) := by decide +kernel
theorem d_X_init_126 : decode M_X_init.2.1 126 = .ok (.aastore, 1) := by decide +kernel
theorem d_X_init_127 : decode M_X_init.2.1 127 = .ok (.iinc 1 1, 3) := by decide +kernel
theorem d_X_init_130 : decode M_X_init.2.1 130 = .ok (.goto (-22), 3) := by decide +kernel
theorem d_X_init_133 : decode M_X_init.2.1 133 = .ok (.aload_n 0, 1) := by decide +kernel
theorem d_X_init_134 : decode M_X_init.2.1 134 = .ok (.iconst 4, 1) := by decide +kernel
theorem d_X_init_135 : decode M_X_init.2.1 135 = .ok (.iconst 2, 1) := by decide +kernel
theorem d_X_init_136 : decode M_X_init.2.1 136 = .ok (.iconst 4, 1) := by decide +kernel
theorem d_X_init_137 : decode M_X_init.2.1 137 = .ok (.invokevirtual 71, 3) := by decide +kernel
theorem d_X_init_140 : decode M_X_init.2.1 140 = .ok (.pop, 1) := by decide +kernel
theorem d_X_init_141 : decode M_X_init.2.1 141 = .ok (.return_, 1) := by decide +kernel
theorem d_X_begin_0 : decode M_X_begin.2.1 0 = .ok (.iload_n 1, 1) := by decide +kernel
theorem d_X_begin_1 : decode M_X_begin.2.1 1 = .ok (.iconst 1, 1) := by decide +kernel
theorem d_X_begin_2 : decode M_X_begin.2.1 2 = .ok (.bipush 12, 2) := by decide +kernel
theorem d_X_begin_4 : decode M_X_begin.2.1 4 = .ok (.invokestatic 75, 3) := by decide +kernel
theorem d_X_begin_7 : decode M_X_begin.2.1 7 = .ok (.ifCond .eq 23, 3) := by decide +kernel
theorem d_X_begin_10 : decode M_X_begin.2.1 10 = .ok (.iload_n 2, 1) := by decide +kernel
theorem d_X_begin_11 : decode M_X_begin.2.1 11 = .ok (.iconst 1, 1) := by decide +kernel
theorem d_X_begin_12 : decode M_X_begin.2.1 12 = .ok (.bipush 8, 2) := by decide +kernel
theorem d_X_begin_14 : decode M_X_begin.2.1 14 = .ok (.invokestatic 75, 3) := by decide +kernel
theorem d_X_begin_17 : decode M_X_begin.2.1 17 = .ok (.ifCond .eq 13, 3) := by decide +kernel
theorem d_X_begin_20 : decode M_X_begin.2.1 20 = .ok (.iload_n 3, 1) := by decide +kernel
theorem d_X_begin_21 : decode M_X_begin.2.1 21 = .ok (.iconst 1, 1) := by decide +kernel
theorem d_X_begin_22 : decode M_X_begin.2.1 22 = .ok (.bipush 24, 2) := by decide +kernel
theorem d_X_begin_24 : decode M_X_begin.2.1 24 = .ok (.invokestatic 75, 3) := by decide +kernel
theorem d_X_begin_27 : decode M_X_begin.2.1 27 = .ok (.ifCond .ne 5, 3) := by decide +kernel
theorem d_X_begin_30 : decode M_X_begin.2.1 30 = .ok (.iconst (-1), 1) := by decide +kernel
theorem d_X_begin_31 : decode M_X_begin.2.1 31 = .ok (.ireturn, 1) := by decide +kernel
theorem d_X_begin_32 : decode M_X_begin.2.1 32 = .ok (.aload_n 0, 1) := by decide +kernel
theorem d_X_begin_33 : decode M_X_begin.2.1 33 = .ok (.getfield 10, 3) := by decide +kernel
theorem d_X_begin_36 : decode M_X_begin.2.1 36 = .ok (.iload_n 1, 1) := by decide +kernel
theorem d_X_begin_37 : decode M_X_begin.2.1 37 = .ok (.iload_n 2, 1) := by decide +kernel
theorem d_X_begin_38 : decode M_X_begin.2.1 38 = .ok (.iload_n 3, 1) := by decide +kernel
theorem d_X_begin_39 : decode M_X_begin.2.1 39 = .ok (.invokevirtual 79, 3) := by decide +kernel
theorem d_X_begin_42 : decode M_X_begin.2.1 42 = .ok (.aload_n 0, 1) := by decide +kernel
theorem d_X_begin_43 : decode M_X_begin.2.1 43 = .ok (.getfield 19, 3) := by decide +kernel
theorem d_X_begin_46 : decode M_X_begin.2.1 46 = .ok (.invokevirtual 83, 3) := by decide +kernel
theorem d_X_begin_49 : decode M_X_begin.2.1 49 = .ok (.aload_n 0, 1) := by decide +kernel
theorem d_X_begin_50 : decode M_X_begin.2.1 50 = .ok (.invokevirtual 86, 3) := by decide +kernel
theorem d_X_begin_53 : decode M_X_begin.2.1 53 = .ok (.aload_n 0, 1) := by decide +kernel
theorem d_X_begin_54 : decode M_X_begin.2.1 54 = .ok (.iconst 0, 1) := by decide +kernel
theorem d_X_begin_55 : decode M_X_begin.2.1 55 = .ok (.putfield 89, 3) := by decide +kernel
theorem d_X_begin_58 : decode M_X_begin.2.1 58 = .ok (.iconst 0, 1) := by decide +kernel
theorem d_X_begin_59 : decode M_X_begin.2.1 59 = .ok (.ireturn, 1) := by decide +kernel
theorem d_X_within_0 : decode M_X_within.2.1 0 = .ok (.iload_n 0, 1) := by decide +kernel
theorem d_X_within_1 : decode M_X_within.2.1 1 = .ok (.iload_n 1, 1) := by decide +kernel
theorem d_X_within_2 : decode M_X_within.2.1 2 = .ok (.if_icmp .lt 12, 3) := by decide +kernel
theorem d_X_within_5 : decode M_X_within.2.1 5 = .ok (.iload_n 0, 1) := by decide +kernel
theorem d_X_within_6 : decode M_X_within.2.1 6 = .ok (.iload_n 2, 1) := by decide +kernel
theorem d_X_within_7 : decode M_X_within.2.1 7 = .ok (.if_icmp .gt 7, 3) := by decide +kernel
theorem d_X_within_10 : decode M_X_within.2.1 10 = .ok (.iconst 1, 1) := by decide +kernel
theorem d_X_within_11 : decode M_X_within.2.1 11 = .ok (.goto 4, 3) := by decide +kernel
theorem d_X_within_14 : decode M_X_within.2.1 14 = .ok (.iconst 0, 1) := by decide +kernel
theorem d_X_within_15 : decode M_X_within.2.1 15 = .ok (.ireturn, 1) := by decide +kernel
theorem d_X_forgetPlans_0 : decode M_X_forgetPlans.2.1 0 = .ok (.aload_n 0, 1) := by decide +kernel
theorem d_X_forgetPlans_1 : decode M_X_forgetPlans.2.1 1 = .ok (.getfield 44, 3) := by decide +kernel
theorem d_X_forgetPlans_4 : decode M_X_forgetPlans.2.1 4 = .ok (.invokevirtual 372, 3) := by decide +kernel
theorem d_X_forgetPlans_7 : decode M_X_forgetPlans.2.1 7 = .ok (.aload_n 0, 1) := by decide +kernel
theorem d_X_forgetPlans_8 : decode M_X_forgetPlans.2.1 8 = .ok (.getfield 53, 3) := by decide +kernel
theorem d_X_forgetPlans_11 : decode M_X_forgetPlans.2.1 11 = .ok (.invokevirtual 375, 3) := by decide +kernel
theorem d_X_forgetPlans_14 : decode M_X_forgetPlans.2.1 14 = .ok (.aload_n 0, 1) := by decide +kernel
theorem d_X_forgetPlans_15 : decode M_X_forgetPlans.2.1 15 = .ok (.getfield 37, 3) := by decide +kernel
theorem d_X_forgetPlans_18 : decode M_X_forgetPlans.2.1 18 = .ok (.invokevirtual 376, 3) := by decide +kernel
theorem d_X_forgetPlans_21 : decode M_X_forgetPlans.2.1 21 = .ok (.return_, 1) := by decide +kernel
theorem d_X_bible_0 : decode M_X_bible.2.1 0 = .ok (.aload_n 0, 1) := by decide +kernel
theorem d_X_bible_1 : decode M_X_bible.2.1 1 = .ok (.getfield 10, 3) := by decide +kernel
theorem d_X_bible_4 : decode M_X_bible.2.1 4 = .ok (.iload_n 1, 1) := by decide +kernel
theorem d_X_bible_5 : decode M_X_bible.2.1 5 = .ok (.invokevirtual 93, 3) := by decide +kernel
theorem d_X_bible_8 : decode M_X_bible.2.1 8 = .ok (.ifCond .eq 14, 3) := by decide +kernel
theorem d_X_bible_11 : decode M_X_bible.2.1 11 = .ok (.aload_n 0, 1) := by decide +kernel
theorem d_X_bible_12 : decode M_X_bible.2.1 12 = .ok (.getfield 10, 3) := by decide +kernel
theorem d_X_bible_15 : decode M_X_bible.2.1 15 = .ok (.iload_n 2, 1) := by decide +kernel
theorem d_X_bible_16 : decode M_X_bible.2.1 16 = .ok (.invokevirtual 97, 3) := by decide +kernel
theorem d_X_bible_19 : decode M_X_bible.2.1 19 = .ok (.ifCond .ne 5, 3) := by decide +kernel
theorem d_X_bible_22 : decode M_X_bible.2.1 22 = .ok (.iconst (-1), 1) := by decide +kernel
theorem d_X_bible_23 : decode M_X_bible.2.1 23 = .ok (.ireturn, 1) := by decide +kernel
theorem d_X_bible_24 : decode M_X_bible.2.1 24 = .ok (.aload_n 0, 1) := by decide +kernel
theorem d_X_bible_25 : decode M_X_bible.2.1 25 = .ok (.getfield 10, 3) := by decide +kernel
theorem d_X_bible_28 : decode M_X_bible.2.1 28 = .ok (.getfield 100, 3) := by decide +kernel
theorem d_X_bible_31 : decode M_X_bible.2.1 31 = .ok (.iload_n 1, 1) := by decide +kernel
theorem d_X_bible_32 : decode M_X_bible.2.1 32 = .ok (.dup2, 1) := by decide +kernel
theorem d_X_bible_33 : decode M_X_bible.2.1 33 = .ok (.iaload, 1) := by decide +kernel
theorem d_X_bible_34 : decode M_X_bible.2.1 34 = .ok (.iconst 1, 1) := by decide +kernel
theorem d_X_bible_35 : decode M_X_bible.2.1 35 = .ok (.iload_n 2, 1) := by decide +kernel
theorem d_X_bible_36 : decode M_X_bible.2.1 36 = .ok (.ishl, 1) := by decide +kernel
theorem d_X_bible_37 : decode M_X_bible.2.1 37 = .ok (.ixor, 1) := by decide +kernel
theorem d_X_bible_38 : decode M_X_bible.2.1 38 = .ok (.iastore, 1) := by decide +kernel
theorem d_X_bible_39 : decode M_X_bible.2.1 39 = .ok (.aload_n 0, 1) := by decide +kernel
theorem d_X_bible_40 : decode M_X_bible.2.1 40 = .ok (.getfield 10, 3) := by decide +kernel
theorem d_X_bible_43 : decode M_X_bible.2.1 43 = .ok (.getfield 100, 3) := by decide +kernel
theorem d_X_bible_46 : decode M_X_bible.2.1 46 = .ok (.iload_n 1, 1) := by decide +kernel
theorem d_X_bible_47 : decode M_X_bible.2.1 47 = .ok (.iaload, 1) := by decide +kernel
theorem d_X_bible_48 : decode M_X_bible.2.1 48 = .ok (.iload_n 2, 1) := by decide +kernel
theorem d_X_bible_49 : decode M_X_bible.2.1 49 = .ok (.ishr, 1) := by decide +kernel
theorem d_X_bible_50 : decode M_X_bible.2.1 50 = .ok (.iconst 1, 1) := by decide +kernel
theorem d_X_bible_51 : decode M_X_bible.2.1 51 = .ok (.iand, 1) := by decide +kernel
theorem d_X_bible_52 : decode M_X_bible.2.1 52 = .ok (.ireturn, 1) := by decide +kernel
theorem d_X_scene_0 : decode M_X_scene.2.1 0 = .ok (.iload_n 1, 1) := by decide +kernel
theorem d_X_scene_1 : decode M_X_scene.2.1 1 = .ok (.invokestatic 104, 3) := by decide +kernel
theorem d_X_scene_4 : decode M_X_scene.2.1 4 = .ok (.ifCond .eq 52, 3) := by decide +kernel
theorem d_X_scene_7 : decode M_X_scene.2.1 7 = .ok (.iload_n 2, 1) := by decide +kernel
theorem d_X_scene_8 : decode M_X_scene.2.1 8 = .ok (.iconst 0, 1) := by decide +kernel
theorem d_X_scene_9 : decode M_X_scene.2.1 9 = .ok (.aload_n 0, 1) := by decide +kernel
theorem d_X_scene_10 : decode M_X_scene.2.1 10 = .ok (.getfield 10, 3) := by decide +kernel
theorem d_X_scene_13 : decode M_X_scene.2.1 13 = .ok (.getfield 107, 3) := by decide +kernel
theorem d_X_scene_16 : decode M_X_scene.2.1 16 = .ok (.iconst 1, 1) := by decide +kernel
theorem d_X_scene_17 : decode M_X_scene.2.1 17 = .ok (.isub, 1) := by decide +kernel
theorem d_X_scene_18 : decode M_X_scene.2.1 18 = .ok (.invokestatic 75, 3) := by decide +kernel
theorem d_X_scene_21 : decode M_X_scene.2.1 21 = .ok (.ifCond .eq 35, 3) := by decide +kernel
theorem d_X_scene_24 : decode M_X_scene.2.1 24 = .ok (.iload_n 3, 1) := by decide +kernel
theorem d_X_scene_25 : decode M_X_scene.2.1 25 = .ok (.iconst 1, 1) := by decide +kernel
theorem d_X_scene_26 : decode M_X_scene.2.1 26 = .ok (.bipush 15, 2) := by decide +kernel
theorem d_X_scene_28 : decode M_X_scene.2.1 28 = .ok (.invokestatic 75, 3) := by decide +kernel
theorem d_X_scene_31 : decode M_X_scene.2.1 31 = .ok (.ifCond .eq 25, 3) := by decide +kernel
theorem d_X_scene_34 : decode M_X_scene.2.1 34 = .ok (.aload_n 0, 1) := by decide +kernel
theorem d_X_scene_35 : decode M_X_scene.2.1 35 = .ok (.getfield 10, 3) := by decide +kernel
theorem d_X_scene_38 : decode M_X_scene.2.1 38 = .ok (.iload 4, 2) := by decide +kernel
theorem d_X_scene_40 : decode M_X_scene.2.1 40 = .ok (.invokevirtual 110, 3) := by decide +kernel
theorem d_X_scene_43 : decode M_X_scene.2.1 43 = .ok (.ifCond .eq 13, 3) := by decide +kernel
theorem d_X_scene_46 : decode M_X_scene.2.1 46 = .ok (.iload 5, 2) := by decide +kernel
theorem d_X_scene_48 : decode M_X_scene.2.1 48 = .ok (.iconst 0, 1) := by decide +kernel
theorem d_X_scene_49 : decode M_X_scene.2.1 49 = .ok (.iconst 1, 1) := by decide +kernel
theorem d_X_scene_50 : decode M_X_scene.2.1 50 = .ok (.invokestatic 75, 3) := by decide +kernel
theorem d_X_scene_53 : decode M_X_scene.2.1 53 = .ok (.ifCond .ne 5, 3) := by decide +kernel
theorem d_X_scene_56 : decode M_X_scene.2.1 56 = .ok (.iconst (-1), 1) := by decide +kernel
theorem d_X_scene_57 : decode M_X_scene.2.1 57 = .ok (.ireturn, 1) := by decide +kernel
theorem d_X_scene_58 : decode M_X_scene.2.1 58 = .ok (.aload_n 0, 1) := by decide +kernel
theorem d_X_scene_59 : decode M_X_scene.2.1 59 = .ok (.getfield 10, 3) := by decide +kernel
theorem d_X_scene_62 : decode M_X_scene.2.1 62 = .ok (.getfield 113, 3) := by decide +kernel
theorem d_X_scene_65 : decode M_X_scene.2.1 65 = .ok (.bipush 100, 2) := by decide +kernel
theorem d_X_scene_67 : decode M_X_scene.2.1 67 = .ok (.if_icmp .lt 6, 3) := by decide +kernel
theorem d_X_scene_70 : decode M_X_scene.2.1 70 = .ok (.bipush (-2), 2) := by decide +kernel
theorem d_X_scene_72 : decode M_X_scene.2.1 72 = .ok (.ireturn, 1) := by decide +kernel
theorem d_X_scene_73 : decode M_X_scene.2.1 73 = .ok (.aload_n 0, 1) := by decide +kernel
theorem d_X_scene_74 : decode M_X_scene.2.1 74 = .ok (.getfield 10, 3) := by decide +kernel
theorem d_X_scene_77 : decode M_X_scene.2.1 77 = .ok (.iload_n 1, 1) := by decide +kernel
theorem d_X_scene_78 : decode M_X_scene.2.1 78 = .ok (.iload_n 2, 1) := by decide +kernel
theorem d_X_scene_79 : decode M_X_scene.2.1 79 = .ok (.iload_n 3, 1) := by decide +kernel
theorem d_X_scene_80 : decode M_X_scene.2.1 80 = .ok (.iload 4, 2) := by decide +kernel
theorem d_X_scene_82 : decode M_X_scene.2.1 82 = .ok (.iload 5, 2) := by decide +kernel
theorem d_X_scene_84 : decode M_X_scene.2.1 84 = .ok (.invokevirtual 116, 3) := by decide +kernel
theorem d_X_scene_87 : decode M_X_scene.2.1 87 = .ok (.ireturn, 1) := by decide +kernel
theorem d_X_isWeek_0 : decode M_X_isWeek.2.1 0 = .ok (.iload_n 0, 1) := by decide +kernel
theorem d_X_isWeek_1 : decode M_X_isWeek.2.1 1 = .ok (.iconst 1, 1) := by decide +kernel
theorem d_X_isWeek_2 : decode M_X_isWeek.2.1 2 = .ok (.bipush 26, 2) := by decide +kernel
theorem d_X_isWeek_4 : decode M_X_isWeek.2.1 4 = .ok (.invokestatic 75, 3) := by decide +kernel
theorem d_X_isWeek_7 : decode M_X_isWeek.2.1 7 = .ok (.ireturn, 1) := by decide +kernel
theorem d_X_act_0 : decode M_X_act.2.1 0 = .ok (.aload_n 0, 1) := by decide +kernel
theorem d_X_act_1 : decode M_X_act.2.1 1 = .ok (.getfield 10, 3) := by decide +kernel
theorem d_X_act_4 : decode M_X_act.2.1 4 = .ok (.iload_n 1, 1) := by decide +kernel
theorem d_X_act_5 : decode M_X_act.2.1 5 = .ok (.invokevirtual 120, 3) := by decide +kernel
theorem d_X_act_8 : decode M_X_act.2.1 8 = .ok (.ifCond .eq 23, 3) := by decide +kernel
theorem d_X_act_11 : decode M_X_act.2.1 11 = .ok (.iload_n 2, 1) := by decide +kernel
theorem d_X_act_12 : decode M_X_act.2.1 12 = .ok (.iconst 0, 1) := by decide +kernel
theorem d_X_act_13 : decode M_X_act.2.1 13 = .ok (.iconst 5, 1) := by decide +kernel
theorem d_X_act_14 : decode M_X_act.2.1 14 = .ok (.invokestatic 75, 3) := by decide +kernel
theorem d_X_act_17 : decode M_X_act.2.1 17 = .ok (.ifCond .eq 14, 3) := by decide +kernel
theorem d_X_act_20 : decode M_X_act.2.1 20 = .ok (.aload_n 0, 1) := by decide +kernel
theorem d_X_act_21 : decode M_X_act.2.1 21 = .ok (.getfield 10, 3) := by decide +kernel
theorem d_X_act_24 : decode M_X_act.2.1 24 = .ok (.iload_n 3, 1) := by decide +kernel
theorem d_X_act_25 : decode M_X_act.2.1 25 = .ok (.invokevirtual 93, 3) := by decide +kernel
theorem d_X_act_28 : decode M_X_act.2.1 28 = .ok (.ifCond .ne 5, 3) := by decide +kernel
theorem d_X_act_31 : decode M_X_act.2.1 31 = .ok (.iconst (-1), 1) := by decide +kernel
theorem d_X_act_32 : decode M_X_act.2.1 32 = .ok (.ireturn, 1) := by decide +kernel
theorem d_X_act_33 : decode M_X_act.2.1 33 = .ok (.iload_n 2, 1) := by decide +kernel
theorem d_X_act_34 : decode M_X_act.2.1 34 = .ok (.iconst 2, 1) := by decide +kernel
theorem d_X_act_35 : decode M_X_act.2.1 35 = .ok (.if_icmp .gt 15, 3) := by decide +kernel
theorem d_X_act_38 : decode M_X_act.2.1 38 = .ok (.aload_n 0, 1) := by decide +kernel
theorem d_X_act_39 : decode M_X_act.2.1 39 = .ok (.getfield 10, 3) := by decide +kernel
theorem d_X_act_42 : decode M_X_act.2.1 42 = .ok (.iload 4, 2) := by decide +kernel
theorem d_X_act_44 : decode M_X_act.2.1 44 = .ok (.invokevirtual 97, 3) := by decide +kernel
theorem d_X_act_47 : decode M_X_act.2.1 47 = .ok (.goto 14, 3) := by decide +kernel
theorem d_X_act_50 : decode M_X_act.2.1 50 = .ok (.iload 4, 2) := by decide +kernel
theorem d_X_act_52 : decode M_X_act.2.1 52 = .ok (.iconst (-1), 1) := by decide +kernel
theorem d_X_act_53 : decode M_X_act.2.1 53 = .ok (.if_icmp .ne 7, 3) := by decide +kernel
theorem d_X_act_56 : decode M_X_act.2.1 56 = .ok (.iconst 1, 1) := by decide +kernel
theorem d_X_act_57 : decode M_X_act.2.1 57 = .ok (.goto 4, 3) := by decide +kernel
theorem d_X_act_60 : decode M_X_act.2.1 60 = .ok (.iconst 0, 1) := by decide +kernel
theorem d_X_act_61 : decode M_X_act.2.1 61 = .ok (.istore 6, 2) := by decide +kernel
theorem d_X_act_63 : decode M_X_act.2.1 63 = .ok (.iload_n 2, 1) := by decide +kernel
theorem d_X_act_64 : decode M_X_act.2.1 64 = .ok (.iconst 1, 1) := by decide +kernel
theorem d_X_act_65 : decode M_X_act.2.1 65 = .ok (.if_icmp .ne 15, 3) := by decide +kernel
theorem d_X_act_68 : decode M_X_act.2.1 68 = .ok (.aload_n 0, 1) := by decide +kernel
theorem d_X_act_69 : decode M_X_act.2.1 69 = .ok (.getfield 10, 3) := by decide +kernel
theorem d_X_act_72 : decode M_X_act.2.1 72 = .ok (.iload 5, 2) := by decide +kernel
theorem d_X_act_74 : decode M_X_act.2.1 74 = .ok (.invokevirtual 93, 3) := by decide +kernel
theorem d_X_act_77 : decode M_X_act.2.1 77 = .ok (.goto 14, 3) := by decide +kernel
theorem d_X_act_80 : decode M_X_act.2.1 80 = .ok (.iload 5, 2) := by decide +kernel
theorem d_X_act_82 : decode M_X_act.2.1 82 = .ok (.iconst (-1), 1) := by decide +kernel
theorem d_X_act_83 : decode M_X_act.2.1 83 = .ok (.if_icmp .ne 7, 3) := by decide +kernel
theorem d_X_act_86 : decode M_X_act.2.1 86 = .ok (.iconst 1, 1) := by decide +kernel
theorem d_X_act_87 : decode M_X_act.2.1 87 = .ok (.goto 4, 3) := by decide +kernel
theorem d_X_act_90 : decode M_X_act.2.1 90 = .ok (.iconst 0, 1) := by decide +kernel
theorem d_X_act_91 : decode M_X_act.2.1 91 = .ok (.istore 7, 2) := by decide +kernel
theorem d_X_act_93 : decode M_X_act.2.1 93 = .ok (.iload 6, 2) := by decide +kernel
theorem d_X_act_95 : decode M_X_act.2.1 95 = .ok (.ifCond .eq 8, 3) := by decide +kernel
theorem d_X_act_98 : decode M_X_act.2.1 98 = .ok (.iload 7, 2) := by decide +kernel
theorem d_X_act_100 : decode M_X_act.2.1 100 = .ok (.ifCond .ne 5, 3) := by decide +kernel
theorem d_X_act_103 : decode M_X_act.2.1 103 = .ok (.iconst (-1), 1) := by decide +kernel
theorem d_X_act_104 : decode M_X_act.2.1 104 = .ok (.ireturn, 1) := by decide +kernel
theorem d_X_act_105 : decode M_X_act.2.1 105 = .ok (.aload_n 0, 1) := by decide +kernel
theorem d_X_act_106 : decode M_X_act.2.1 106 = .ok (.getfield 10, 3) := by decide +kernel
theorem d_X_act_109 : decode M_X_act.2.1 109 = .ok (.getfield 123, 3) := by decide +kernel
theorem d_X_act_112 : decode M_X_act.2.1 112 = .ok (.iload_n 1, 1) := by decide +kernel
theorem d_X_act_113 : decode M_X_act.2.1 113 = .ok (.iaload, 1) := by decide +kernel
theorem d_X_act_114 : decode M_X_act.2.1 114 = .ok (.bipush 6, 2) := by decide +kernel
theorem d_X_act_116 : decode M_X_act.2.1 116 = .ok (.if_icmp .lt 6, 3) := by decide +kernel
theorem d_X_act_119 : decode M_X_act.2.1 119 = .ok (.bipush (-2), 2) := by decide +kernel
theorem d_X_act_121 : decode M_X_act.2.1 121 = .ok (.ireturn, 1) := by decide +kernel
theorem d_X_act_122 : decode M_X_act.2.1 122 = .ok (.aload_n 0, 1) := by decide +kernel
theorem d_X_act_123 : decode M_X_act.2.1 123 = .ok (.getfield 10, 3) := by decide +kernel
theorem d_X_act_126 : decode M_X_act.2.1 126 = .ok (.iload_n 1, 1) := by decide +kernel
theorem d_X_act_127 : decode M_X_act.2.1 127 = .ok (.iload_n 2, 1) := by decide +kernel
theorem d_X_act_128 : decode M_X_act.2.1 128 = .ok (.iload_n 3, 1) := by decide +kernel
theorem d_X_act_129 : decode M_X_act.2.1 129 = .ok (.iload 4, 2) := by decide +kernel
theorem d_X_act_131 : decode M_X_act.2.1 131 = .ok (.iload 5, 2) := by decide +kernel
theorem d_X_act_133 : decode M_X_act.2.1 133 = .ok (.invokestatic 126, 3) := by decide +kernel
theorem d_X_act_136 : decode M_X_act.2.1 136 = .ok (.invokevirtual 130, 3) := by decide +kernel
theorem d_X_act_139 : decode M_X_act.2.1 139 = .ok (.ireturn, 1) := by decide +kernel
theorem d_X_packed_0 : decode M_X_packed.2.1 0 = .ok (.iload_n 0, 1) := by decide +kernel
theorem d_X_packed_1 : decode M_X_packed.2.1 1 = .ok (.iload_n 1, 1) := by decide +kernel
theorem d_X_packed_2 : decode M_X_packed.2.1 2 = .ok (.iconst 3, 1) := by decide +kernel
theorem d_X_packed_3 : decode M_X_packed.2.1 3 = .ok (.ishl, 1) := by decide +kernel
theorem d_X_packed_4 : decode M_X_packed.2.1 4 = .ok (.ior, 1) := by decide +kernel
theorem d_X_packed_5 : decode M_X_packed.2.1 5 = .ok (.iload_n 2, 1) := by decide +kernel
theorem d_X_packed_6 : decode M_X_packed.2.1 6 = .ok (.iconst 1, 1) := by decide +kernel
theorem d_X_packed_7 : decode M_X_packed.2.1 7 = .ok (.iadd, 1) := by decide +kernel
theorem d_X_packed_8 : decode M_X_packed.2.1 8 = .ok (.bipush 7, 2) := by decide +kernel
theorem d_X_packed_10 : decode M_X_packed.2.1 10 = .ok (.ishl, 1) := by decide +kernel
theorem d_X_packed_11 : decode M_X_packed.2.1 11 = .ok (.ior, 1) := by decide +kernel
theorem d_X_packed_12 : decode M_X_packed.2.1 12 = .ok (.iload_n 3, 1) := by decide +kernel
theorem d_X_packed_13 : decode M_X_packed.2.1 13 = .ok (.iconst 1, 1) := by decide +kernel
theorem d_X_packed_14 : decode M_X_packed.2.1 14 = .ok (.iadd, 1) := by decide +kernel
theorem d_X_packed_15 : decode M_X_packed.2.1 15 = .ok (.bipush 12, 2) := by decide +kernel
theorem d_X_packed_17 : decode M_X_packed.2.1 17 = .ok (.ishl, 1) := by decide +kernel
theorem d_X_packed_18 : decode M_X_packed.2.1 18 = .ok (.ior, 1) := by decide +kernel
theorem d_X_packed_19 : decode M_X_packed.2.1 19 = .ok (.ireturn, 1) := by decide +kernel
theorem d_X_bare_0 : decode M_X_bare.2.1 0 = .ok (.aload_n 0, 1) := by decide +kernel
theorem d_X_bare_1 : decode M_X_bare.2.1 1 = .ok (.getfield 10, 3) := by decide +kernel
theorem d_X_bare_4 : decode M_X_bare.2.1 4 = .ok (.iload_n 1, 1) := by decide +kernel
theorem d_X_bare_5 : decode M_X_bare.2.1 5 = .ok (.invokevirtual 120, 3) := by decide +kernel
theorem d_X_bare_8 : decode M_X_bare.2.1 8 = .ok (.ifCond .ne 5, 3) := by decide +kernel
theorem d_X_bare_11 : decode M_X_bare.2.1 11 = .ok (.iconst (-1), 1) := by decide +kernel
theorem d_X_bare_12 : decode M_X_bare.2.1 12 = .ok (.ireturn, 1) := by decide +kernel
theorem d_X_bare_13 : decode M_X_bare.2.1 13 = .ok (.aload_n 0, 1) := by decide +kernel
theorem d_X_bare_14 : decode M_X_bare.2.1 14 = .ok (.getfield 10, 3) := by decide +kernel
theorem d_X_bare_17 : decode M_X_bare.2.1 17 = .ok (.getfield 123, 3) := by decide +kernel
theorem d_X_bare_20 : decode M_X_bare.2.1 20 = .ok (.iload_n 1, 1) := by decide +kernel
theorem d_X_bare_21 : decode M_X_bare.2.1 21 = .ok (.iaload, 1) := by decide +kernel
theorem d_X_bare_22 : decode M_X_bare.2.1 22 = .ok (.istore_n 2, 1) := by decide +kernel
theorem d_X_bare_23 : decode M_X_bare.2.1 23 = .ok (.aload_n 0, 1) := by decide +kernel
theorem d_X_bare_24 : decode M_X_bare.2.1 24 = .ok (.getfield 10, 3) := by decide +kernel
theorem d_X_bare_27 : decode M_X_bare.2.1 27 = .ok (.getfield 123, 3) := by decide +kernel
theorem d_X_bare_30 : decode M_X_bare.2.1 30 = .ok (.iload_n 1, 1) := by decide +kernel
theorem d_X_bare_31 : decode M_X_bare.2.1 31 = .ok (.iconst 0, 1) := by decide +kernel
theorem d_X_bare_32 : decode M_X_bare.2.1 32 = .ok (.iastore, 1) := by decide +kernel
theorem d_X_bare_33 : decode M_X_bare.2.1 33 = .ok (.iload_n 2, 1) := by decide +kernel
theorem d_X_bare_34 : decode M_X_bare.2.1 34 = .ok (.ireturn, 1) := by decide +kernel
theorem d_X_drop_0 : decode M_X_drop.2.1 0 = .ok (.iload_n 1, 1) := by decide +kernel
theorem d_X_drop_1 : decode M_X_drop.2.1 1 = .ok (.iconst 0, 1) := by decide +kernel
theorem d_X_drop_2 : decode M_X_drop.2.1 2 = .ok (.aload_n 0, 1) := by decide +kernel
theorem d_X_drop_3 : decode M_X_drop.2.1 3 = .ok (.getfield 10, 3) := by decide +kernel
theorem d_X_drop_6 : decode M_X_drop.2.1 6 = .ok (.getfield 113, 3) := by decide +kernel
theorem d_X_drop_9 : decode M_X_drop.2.1 9 = .ok (.iconst 1, 1) := by decide +kernel
theorem d_X_drop_10 : decode M_X_drop.2.1 10 = .ok (.isub, 1) := by decide +kernel
theorem d_X_drop_11 : decode M_X_drop.2.1 11 = .ok (.invokestatic 75, 3) := by decide +kernel
theorem d_X_drop_14 : decode M_X_drop.2.1 14 = .ok (.ifCond .ne 5, 3) := by decide +kernel
theorem d_X_drop_17 : decode M_X_drop.2.1 17 = .ok (.iconst (-1), 1) := by decide +kernel
theorem d_X_drop_18 : decode M_X_drop.2.1 18 = .ok (.ireturn, 1) := by decide +kernel
theorem d_X_drop_19 : decode M_X_drop.2.1 19 = .ok (.aload_n 0, 1) := by decide +kernel
theorem d_X_drop_20 : decode M_X_drop.2.1 20 = .ok (.getfield 10, 3) := by decide +kernel
theorem d_X_drop_23 : decode M_X_drop.2.1 23 = .ok (.getfield 134, 3) := by decide +kernel
theorem d_X_drop_26 : decode M_X_drop.2.1 26 = .ok (.iload_n 1, 1) := by decide +kernel
theorem d_X_drop_27 : decode M_X_drop.2.1 27 = .ok (.dup2, 1) := by decide +kernel
theorem d_X_drop_28 : decode M_X_drop.2.1 28 = .ok (.iaload, 1) := by decide +kernel
theorem d_X_drop_29 : decode M_X_drop.2.1 29 = .ok (.iconst 1, 1) := by decide +kernel
theorem d_X_drop_30 : decode M_X_drop.2.1 30 = .ok (.ixor, 1) := by decide +kernel
theorem d_X_drop_31 : decode M_X_drop.2.1 31 = .ok (.iastore, 1) := by decide +kernel
theorem d_X_drop_32 : decode M_X_drop.2.1 32 = .ok (.aload_n 0, 1) := by decide +kernel
theorem d_X_drop_33 : decode M_X_drop.2.1 33 = .ok (.getfield 10, 3) := by decide +kernel
theorem d_X_drop_36 : decode M_X_drop.2.1 36 = .ok (.getfield 134, 3) := by decide +kernel
theorem d_X_drop_39 : decode M_X_drop.2.1 39 = .ok (.iload_n 1, 1) := by decide +kernel
theorem d_X_drop_40 : decode M_X_drop.2.1 40 = .ok (.iaload, 1) := by decide +kernel
theorem d_X_drop_41 : decode M_X_drop.2.1 41 = .ok (.ireturn, 1) := by decide +kernel
theorem d_X_move_0 : decode M_X_move.2.1 0 = .ok (.aload_n 0, 1) := by decide +kernel
theorem d_X_move_1 : decode M_X_move.2.1 1 = .ok (.getfield 10, 3) := by decide +kernel
theorem d_X_move_4 : decode M_X_move.2.1 4 = .ok (.iload_n 1, 1) := by decide +kernel
theorem d_X_move_5 : decode M_X_move.2.1 5 = .ok (.invokevirtual 120, 3) := by decide +kernel
theorem d_X_move_8 : decode M_X_move.2.1 8 = .ok (.ifCond .eq 10, 3) := by decide +kernel
theorem d_X_move_11 : decode M_X_move.2.1 11 = .ok (.iload_n 2, 1) := by decide +kernel
theorem d_X_move_12 : decode M_X_move.2.1 12 = .ok (.invokestatic 104, 3) := by decide +kernel
theorem d_X_move_15 : decode M_X_move.2.1 15 = .ok (.ifCond .ne 5, 3) := by decide +kernel
theorem d_X_move_18 : decode M_X_move.2.1 18 = .ok (.iconst (-1), 1) := by decide +kernel
theorem d_X_move_19 : decode M_X_move.2.1 19 = .ok (.ireturn, 1) := by decide +kernel
theorem d_X_move_20 : decode M_X_move.2.1 20 = .ok (.aload_n 0, 1) := by decide +kernel
theorem d_X_move_21 : decode M_X_move.2.1 21 = .ok (.getfield 10, 3) := by decide +kernel
theorem d_X_move_24 : decode M_X_move.2.1 24 = .ok (.getfield 137, 3) := by decide +kernel
theorem d_X_move_27 : decode M_X_move.2.1 27 = .ok (.iload_n 1, 1) := by decide +kernel
theorem d_X_move_28 : decode M_X_move.2.1 28 = .ok (.iaload, 1) := by decide +kernel
theorem d_X_move_29 : decode M_X_move.2.1 29 = .ok (.istore_n 3, 1) := by decide +kernel
theorem d_X_move_30 : decode M_X_move.2.1 30 = .ok (.aload_n 0, 1) := by decide +kernel
theorem d_X_move_31 : decode M_X_move.2.1 31 = .ok (.getfield 10, 3) := by decide +kernel
theorem d_X_move_34 : decode M_X_move.2.1 34 = .ok (.getfield 137, 3) := by decide +kernel
theorem d_X_move_37 : decode M_X_move.2.1 37 = .ok (.iload_n 1, 1) := by decide +kernel
theorem d_X_move_38 : decode M_X_move.2.1 38 = .ok (.iload_n 2, 1) := by decide +kernel
theorem d_X_move_39 : decode M_X_move.2.1 39 = .ok (.iastore, 1) := by decide +kernel
theorem d_X_move_40 : decode M_X_move.2.1 40 = .ok (.iload_n 3, 1) := by decide +kernel
theorem d_X_move_41 : decode M_X_move.2.1 41 = .ok (.ireturn, 1) := by decide +kernel
theorem d_X_told_0 : decode M_X_told.2.1 0 = .ok (.iload_n 1, 1) := by decide +kernel
theorem d_X_told_1 : decode M_X_told.2.1 1 = .ok (.iconst 0, 1) := by decide +kernel
theorem d_X_told_2 : decode M_X_told.2.1 2 = .ok (.aload_n 0, 1) := by decide +kernel
theorem d_X_told_3 : decode M_X_told.2.1 3 = .ok (.getfield 10, 3) := by decide +kernel
theorem d_X_told_6 : decode M_X_told.2.1 6 = .ok (.getfield 113, 3) := by decide +kernel
theorem d_X_told_9 : decode M_X_told.2.1 9 = .ok (.iconst 1, 1) := by decide +kernel
theorem d_X_told_10 : decode M_X_told.2.1 10 = .ok (.isub, 1) := by decide +kernel
theorem d_X_told_11 : decode M_X_told.2.1 11 = .ok (.invokestatic 75, 3) := by decide +kernel
theorem d_X_told_14 : decode M_X_told.2.1 14 = .ok (.ifCond .ne 5, 3) := by decide +kernel
theorem d_X_told_17 : decode M_X_told.2.1 17 = .ok (.iconst (-1), 1) := by decide +kernel
theorem d_X_told_18 : decode M_X_told.2.1 18 = .ok (.ireturn, 1) := by decide +kernel
theorem d_X_told_19 : decode M_X_told.2.1 19 = .ok (.iload_n 2, 1) := by decide +kernel
theorem d_X_told_20 : decode M_X_told.2.1 20 = .ok (.tableswitch 114 0 6 #[44, 54, 64, 74, 84, 94, 104], 44) := by decide +kernel
theorem d_X_told_64 : decode M_X_told.2.1 64 = .ok (.aload_n 0, 1) := by decide +kernel
theorem d_X_told_65 : decode M_X_told.2.1 65 = .ok (.getfield 10, 3) := by decide +kernel
theorem d_X_told_68 : decode M_X_told.2.1 68 = .ok (.getfield 137, 3) := by decide +kernel
theorem d_X_told_71 : decode M_X_told.2.1 71 = .ok (.iload_n 1, 1) := by decide +kernel
theorem d_X_told_72 : decode M_X_told.2.1 72 = .ok (.iaload, 1) := by decide +kernel
theorem d_X_told_73 : decode M_X_told.2.1 73 = .ok (.ireturn, 1) := by decide +kernel
theorem d_X_told_74 : decode M_X_told.2.1 74 = .ok (.aload_n 0, 1) := by decide +kernel
theorem d_X_told_75 : decode M_X_told.2.1 75 = .ok (.getfield 10, 3) := by decide +kernel
theorem d_X_told_78 : decode M_X_told.2.1 78 = .ok (.getfield 140, 3) := by decide +kernel
theorem d_X_told_81 : decode M_X_told.2.1 81 = .ok (.iload_n 1, 1) := by decide +kernel
theorem d_X_told_82 : decode M_X_told.2.1 82 = .ok (.iaload, 1) := by decide +kernel
theorem d_X_told_83 : decode M_X_told.2.1 83 = .ok (.ireturn, 1) := by decide +kernel
theorem d_X_told_84 : decode M_X_told.2.1 84 = .ok (.aload_n 0, 1) := by decide +kernel
theorem d_X_told_85 : decode M_X_told.2.1 85 = .ok (.getfield 10, 3) := by decide +kernel
theorem d_X_told_88 : decode M_X_told.2.1 88 = .ok (.getfield 143, 3) := by decide +kernel
theorem d_X_told_91 : decode M_X_told.2.1 91 = .ok (.iload_n 1, 1) := by decide +kernel
theorem d_X_told_92 : decode M_X_told.2.1 92 = .ok (.iaload, 1) := by decide +kernel
theorem d_X_told_93 : decode M_X_told.2.1 93 = .ok (.ireturn, 1) := by decide +kernel
theorem d_X_told_94 : decode M_X_told.2.1 94 = .ok (.aload_n 0, 1) := by decide +kernel
theorem d_X_told_95 : decode M_X_told.2.1 95 = .ok (.getfield 10, 3) := by decide +kernel
theorem d_X_told_98 : decode M_X_told.2.1 98 = .ok (.getfield 146, 3) := by decide +kernel
theorem d_X_told_101 : decode M_X_told.2.1 101 = .ok (.iload_n 1, 1) := by decide +kernel
theorem d_X_told_102 : decode M_X_told.2.1 102 = .ok (.iaload, 1) := by decide +kernel
theorem d_X_told_103 : decode M_X_told.2.1 103 = .ok (.ireturn, 1) := by decide +kernel
theorem d_X_told_104 : decode M_X_told.2.1 104 = .ok (.aload_n 0, 1) := by decide +kernel
theorem d_X_told_105 : decode M_X_told.2.1 105 = .ok (.getfield 10, 3) := by decide +kernel
theorem d_X_told_108 : decode M_X_told.2.1 108 = .ok (.getfield 149, 3) := by decide +kernel
theorem d_X_told_111 : decode M_X_told.2.1 111 = .ok (.iload_n 1, 1) := by decide +kernel
theorem d_X_told_112 : decode M_X_told.2.1 112 = .ok (.iaload, 1) := by decide +kernel
theorem d_X_told_113 : decode M_X_told.2.1 113 = .ok (.ireturn, 1) := by decide +kernel
theorem d_X_told_114 : decode M_X_told.2.1 114 = .ok (.aload_n 0, 1) := by decide +kernel
theorem d_X_told_115 : decode M_X_told.2.1 115 = .ok (.getfield 10, 3) := by decide +kernel
theorem d_X_told_118 : decode M_X_told.2.1 118 = .ok (.getfield 123, 3) := by decide +kernel
theorem d_X_told_121 : decode M_X_told.2.1 121 = .ok (.iload_n 1, 1) := by decide +kernel
theorem d_X_told_122 : decode M_X_told.2.1 122 = .ok (.iaload, 1) := by decide +kernel
theorem d_X_told_123 : decode M_X_told.2.1 123 = .ok (.ireturn, 1) := by decide +kernel
theorem d_X_told_124 : decode M_X_told.2.1 124 = .ok (.aload_n 0, 1) := by decide +kernel
theorem d_X_told_125 : decode M_X_told.2.1 125 = .ok (.getfield 10, 3) := by decide +kernel
theorem d_X_told_128 : decode M_X_told.2.1 128 = .ok (.getfield 134, 3) := by decide +kernel
theorem d_X_told_131 : decode M_X_told.2.1 131 = .ok (.iload_n 1, 1) := by decide +kernel
theorem d_X_told_132 : decode M_X_told.2.1 132 = .ok (.iaload, 1) := by decide +kernel
theorem d_X_told_133 : decode M_X_told.2.1 133 = .ok (.ireturn, 1) := by decide +kernel
theorem d_X_told_134 : decode M_X_told.2.1 134 = .ok (.iconst (-1), 1) := by decide +kernel
theorem d_X_told_135 : decode M_X_told.2.1 135 = .ok (.ireturn, 1) := by decide +kernel
theorem d_X_aired_0 : decode M_X_aired.2.1 0 = .ok (.aload_n 0, 1) := by decide +kernel
theorem d_X_aired_1 : decode M_X_aired.2.1 1 = .ok (.getfield 28, 3) := by decide +kernel
theorem d_X_aired_4 : decode M_X_aired.2.1 4 = .ok (.aload_n 0, 1) := by decide +kernel
theorem d_X_aired_5 : decode M_X_aired.2.1 5 = .ok (.getfield 10, 3) := by decide +kernel
theorem d_X_aired_8 : decode M_X_aired.2.1 8 = .ok (.invokevirtual 152, 3) := by decide +kernel
theorem d_X_aired_11 : decode M_X_aired.2.1 11 = .ok (.istore_n 2, 1) := by decide +kernel
theorem d_X_aired_12 : decode M_X_aired.2.1 12 = .ok (.iload_n 1, 1) := by decide +kernel
theorem d_X_aired_13 : decode M_X_aired.2.1 13 = .ok (.iconst 0, 1) := by decide +kernel
theorem d_X_aired_14 : decode M_X_aired.2.1 14 = .ok (.iload_n 2, 1) := by decide +kernel
theorem d_X_aired_15 : decode M_X_aired.2.1 15 = .ok (.iconst 1, 1) := by decide +kernel
theorem d_X_aired_16 : decode M_X_aired.2.1 16 = .ok (.isub, 1) := by decide +kernel
theorem d_X_aired_17 : decode M_X_aired.2.1 17 = .ok (.invokestatic 75, 3) := by decide +kernel
theorem d_X_aired_20 : decode M_X_aired.2.1 20 = .ok (.ifCond .eq 15, 3) := by decide +kernel
theorem d_X_aired_23 : decode M_X_aired.2.1 23 = .ok (.aload_n 0, 1) := by decide +kernel
theorem d_X_aired_24 : decode M_X_aired.2.1 24 = .ok (.getfield 28, 3) := by decide +kernel
theorem d_X_aired_27 : decode M_X_aired.2.1 27 = .ok (.getfield 156, 3) := by decide +kernel
theorem d_X_aired_30 : decode M_X_aired.2.1 30 = .ok (.iload_n 1, 1) := by decide +kernel
theorem d_X_aired_31 : decode M_X_aired.2.1 31 = .ok (.iaload, 1) := by decide +kernel
theorem d_X_aired_32 : decode M_X_aired.2.1 32 = .ok (.goto 4, 3) := by decide +kernel
theorem d_X_aired_35 : decode M_X_aired.2.1 35 = .ok (.iconst (-1), 1) := by decide +kernel
theorem d_X_aired_36 : decode M_X_aired.2.1 36 = .ok (.ireturn, 1) := by decide +kernel
theorem d_X_faults_0 : decode M_X_faults.2.1 0 = .ok (.aload_n 0, 1) := by decide +kernel
theorem d_X_faults_1 : decode M_X_faults.2.1 1 = .ok (.getfield 28, 3) := by decide +kernel
theorem d_X_faults_4 : decode M_X_faults.2.1 4 = .ok (.aload_n 0, 1) := by decide +kernel
theorem d_X_faults_5 : decode M_X_faults.2.1 5 = .ok (.getfield 10, 3) := by decide +kernel
theorem d_X_faults_8 : decode M_X_faults.2.1 8 = .ok (.invokevirtual 159, 3) := by decide +kernel
theorem d_X_faults_11 : decode M_X_faults.2.1 11 = .ok (.ireturn, 1) := by decide +kernel
theorem d_X_kindOf_0 : decode M_X_kindOf.2.1 0 = .ok (.iload_n 0, 1) := by decide +kernel
theorem d_X_kindOf_1 : decode M_X_kindOf.2.1 1 = .ok (.bipush 7, 2) := by decide +kernel
theorem d_X_kindOf_3 : decode M_X_kindOf.2.1 3 = .ok (.iand, 1) := by decide +kernel
theorem d_X_kindOf_4 : decode M_X_kindOf.2.1 4 = .ok (.ireturn, 1) := by decide +kernel
theorem d_X_namedBy_0 : decode M_X_namedBy.2.1 0 = .ok (.iconst 1, 1) := by decide +kernel
theorem d_X_namedBy_1 : decode M_X_namedBy.2.1 1 = .ok (.iload_n 0, 1) := by decide +kernel
theorem d_X_namedBy_2 : decode M_X_namedBy.2.1 2 = .ok (.invokestatic 386, 3) := by decide +kernel
theorem d_X_namedBy_5 : decode M_X_namedBy.2.1 5 = .ok (.ishl, 1) := by decide +kernel
theorem d_X_namedBy_6 : decode M_X_namedBy.2.1 6 = .ok (.istore_n 1, 1) := by decide +kernel
theorem d_X_namedBy_7 : decode M_X_namedBy.2.1 7 = .ok (.iload_n 0, 1) := by decide +kernel
theorem d_X_namedBy_8 : decode M_X_namedBy.2.1 8 = .ok (.invokestatic 389, 3) := by decide +kernel
theorem d_X_namedBy_11 : decode M_X_namedBy.2.1 11 = .ok (.iconst 1, 1) := by decide +kernel
theorem d_X_namedBy_12 : decode M_X_namedBy.2.1 12 = .ok (.if_icmp .ne 14, 3) := by decide +kernel
theorem d_X_namedBy_15 : decode M_X_namedBy.2.1 15 = .ok (.iload_n 1, 1) := by decide +kernel
theorem d_X_namedBy_16 : decode M_X_namedBy.2.1 16 = .ok (.iconst 1, 1) := by decide +kernel
theorem d_X_namedBy_17 : decode M_X_namedBy.2.1 17 = .ok (.iload_n 0, 1) := by decide +kernel
theorem d_X_namedBy_18 : decode M_X_namedBy.2.1 18 = .ok (.invokestatic 392, 3) := by decide +kernel
theorem d_X_namedBy_21 : decode M_X_namedBy.2.1 21 = .ok (.ishl, 1) := by decide +kernel
theorem d_X_namedBy_22 : decode M_X_namedBy.2.1 22 = .ok (.ior, 1) := by decide +kernel
theorem d_X_namedBy_23 : decode M_X_namedBy.2.1 23 = .ok (.goto 4, 3) := by decide +kernel
theorem d_X_namedBy_26 : decode M_X_namedBy.2.1 26 = .ok (.iload_n 1, 1) := by decide +kernel
theorem d_X_namedBy_27 : decode M_X_namedBy.2.1 27 = .ok (.ireturn, 1) := by decide +kernel
theorem d_X_personOf_0 : decode M_X_personOf.2.1 0 = .ok (.iload_n 0, 1) := by decide +kernel
theorem d_X_personOf_1 : decode M_X_personOf.2.1 1 = .ok (.iconst 3, 1) := by decide +kernel
theorem d_X_personOf_2 : decode M_X_personOf.2.1 2 = .ok (.ishr, 1) := by decide +kernel
theorem d_X_personOf_3 : decode M_X_personOf.2.1 3 = .ok (.bipush 15, 2) := by decide +kernel
theorem d_X_personOf_5 : decode M_X_personOf.2.1 5 = .ok (.iand, 1) := by decide +kernel
theorem d_X_personOf_6 : decode M_X_personOf.2.1 6 = .ok (.ireturn, 1) := by decide +kernel
theorem d_X_hearerOf_0 : decode M_X_hearerOf.2.1 0 = .ok (.iload_n 0, 1) := by decide +kernel
theorem d_X_hearerOf_1 : decode M_X_hearerOf.2.1 1 = .ok (.bipush 12, 2) := by decide +kernel
theorem d_X_hearerOf_3 : decode M_X_hearerOf.2.1 3 = .ok (.ishr, 1) := by decide +kernel
theorem d_X_hearerOf_4 : decode M_X_hearerOf.2.1 4 = .ok (.bipush 15, 2) := by decide +kernel
theorem d_X_hearerOf_6 : decode M_X_hearerOf.2.1 6 = .ok (.iand, 1) := by decide +kernel
theorem d_X_hearerOf_7 : decode M_X_hearerOf.2.1 7 = .ok (.iconst 1, 1) := by decide +kernel
theorem d_X_hearerOf_8 : decode M_X_hearerOf.2.1 8 = .ok (.isub, 1) := by decide +kernel
theorem d_X_hearerOf_9 : decode M_X_hearerOf.2.1 9 = .ok (.ireturn, 1) := by decide +kernel
theorem d_X_secretOf_0 : decode M_X_secretOf.2.1 0 = .ok (.iload_n 0, 1) := by decide +kernel
theorem d_X_secretOf_1 : decode M_X_secretOf.2.1 1 = .ok (.bipush 7, 2) := by decide +kernel
theorem d_X_secretOf_3 : decode M_X_secretOf.2.1 3 = .ok (.ishr, 1) := by decide +kernel
theorem d_X_secretOf_4 : decode M_X_secretOf.2.1 4 = .ok (.bipush 31, 2) := by decide +kernel
theorem d_X_secretOf_6 : decode M_X_secretOf.2.1 6 = .ok (.iand, 1) := by decide +kernel
theorem d_X_secretOf_7 : decode M_X_secretOf.2.1 7 = .ok (.iconst 1, 1) := by decide +kernel
theorem d_X_secretOf_8 : decode M_X_secretOf.2.1 8 = .ok (.isub, 1) := by decide +kernel
theorem d_X_secretOf_9 : decode M_X_secretOf.2.1 9 = .ok (.ireturn, 1) := by decide +kernel
theorem d_X_fault_0 : decode M_X_fault.2.1 0 = .ok (.iload_n 1, 1) := by decide +kernel
theorem d_X_fault_1 : decode M_X_fault.2.1 1 = .ok (.ifCond .lt 12, 3) := by decide +kernel
theorem d_X_fault_4 : decode M_X_fault.2.1 4 = .ok (.iload_n 2, 1) := by decide +kernel
theorem d_X_fault_5 : decode M_X_fault.2.1 5 = .ok (.iconst 0, 1) := by decide +kernel
theorem d_X_fault_6 : decode M_X_fault.2.1 6 = .ok (.iconst 3, 1) := by decide +kernel
theorem d_X_fault_7 : decode M_X_fault.2.1 7 = .ok (.invokestatic 75, 3) := by decide +kernel
theorem d_X_fault_10 : decode M_X_fault.2.1 10 = .ok (.ifCond .ne 5, 3) := by decide +kernel
theorem d_X_fault_13 : decode M_X_fault.2.1 13 = .ok (.iconst (-1), 1) := by decide +kernel
theorem d_X_fault_14 : decode M_X_fault.2.1 14 = .ok (.ireturn, 1) := by decide +kernel
theorem d_X_fault_15 : decode M_X_fault.2.1 15 = .ok (.aload_n 0, 1) := by decide +kernel
theorem d_X_fault_16 : decode M_X_fault.2.1 16 = .ok (.getfield 28, 3) := by decide +kernel
theorem d_X_fault_19 : decode M_X_fault.2.1 19 = .ok (.aload_n 0, 1) := by decide +kernel
theorem d_X_fault_20 : decode M_X_fault.2.1 20 = .ok (.getfield 10, 3) := by decide +kernel
theorem d_X_fault_23 : decode M_X_fault.2.1 23 = .ok (.iload_n 1, 1) := by decide +kernel
theorem d_X_fault_24 : decode M_X_fault.2.1 24 = .ok (.invokevirtual 162, 3) := by decide +kernel
theorem d_X_fault_27 : decode M_X_fault.2.1 27 = .ok (.ifCond .eq 15, 3) := by decide +kernel
theorem d_X_fault_30 : decode M_X_fault.2.1 30 = .ok (.aload_n 0, 1) := by decide +kernel
theorem d_X_fault_31 : decode M_X_fault.2.1 31 = .ok (.getfield 28, 3) := by decide +kernel
theorem d_X_fault_34 : decode M_X_fault.2.1 34 = .ok (.getfield 166, 3) := by decide +kernel
theorem d_X_fault_37 : decode M_X_fault.2.1 37 = .ok (.iload_n 2, 1) := by decide +kernel
theorem d_X_fault_38 : decode M_X_fault.2.1 38 = .ok (.iaload, 1) := by decide +kernel
theorem d_X_fault_39 : decode M_X_fault.2.1 39 = .ok (.goto 4, 3) := by decide +kernel
theorem d_X_fault_42 : decode M_X_fault.2.1 42 = .ok (.iconst (-1), 1) := by decide +kernel
theorem d_X_fault_43 : decode M_X_fault.2.1 43 = .ok (.ireturn, 1) := by decide +kernel
theorem d_X_since_0 : decode M_X_since.2.1 0 = .ok (.aload_n 0, 1) := by decide +kernel
theorem d_X_since_1 : decode M_X_since.2.1 1 = .ok (.getfield 10, 3) := by decide +kernel
theorem d_X_since_4 : decode M_X_since.2.1 4 = .ok (.iload_n 1, 1) := by decide +kernel
theorem d_X_since_5 : decode M_X_since.2.1 5 = .ok (.invokevirtual 93, 3) := by decide +kernel
theorem d_X_since_8 : decode M_X_since.2.1 8 = .ok (.ifCond .eq 14, 3) := by decide +kernel
theorem d_X_since_11 : decode M_X_since.2.1 11 = .ok (.aload_n 0, 1) := by decide +kernel
theorem d_X_since_12 : decode M_X_since.2.1 12 = .ok (.getfield 10, 3) := by decide +kernel
theorem d_X_since_15 : decode M_X_since.2.1 15 = .ok (.iload_n 2, 1) := by decide +kernel
theorem d_X_since_16 : decode M_X_since.2.1 16 = .ok (.invokevirtual 97, 3) := by decide +kernel
theorem d_X_since_19 : decode M_X_since.2.1 19 = .ok (.ifCond .ne 5, 3) := by decide +kernel
theorem d_X_since_22 : decode M_X_since.2.1 22 = .ok (.iconst (-1), 1) := by decide +kernel
theorem d_X_since_23 : decode M_X_since.2.1 23 = .ok (.ireturn, 1) := by decide +kernel
theorem d_X_since_24 : decode M_X_since.2.1 24 = .ok (.aload_n 0, 1) := by decide +kernel
theorem d_X_since_25 : decode M_X_since.2.1 25 = .ok (.getfield 28, 3) := by decide +kernel
theorem d_X_since_28 : decode M_X_since.2.1 28 = .ok (.aload_n 0, 1) := by decide +kernel
theorem d_X_since_29 : decode M_X_since.2.1 29 = .ok (.getfield 10, 3) := by decide +kernel
theorem d_X_since_32 : decode M_X_since.2.1 32 = .ok (.invokevirtual 159, 3) := by decide +kernel
theorem d_X_since_35 : decode M_X_since.2.1 35 = .ok (.pop, 1) := by decide +kernel
theorem d_X_since_36 : decode M_X_since.2.1 36 = .ok (.aload_n 0, 1) := by decide +kernel
theorem d_X_since_37 : decode M_X_since.2.1 37 = .ok (.getfield 28, 3) := by decide +kernel
theorem d_X_since_40 : decode M_X_since.2.1 40 = .ok (.getfield 169, 3) := by decide +kernel
theorem d_X_since_43 : decode M_X_since.2.1 43 = .ok (.iload_n 1, 1) := by decide +kernel
theorem d_X_since_44 : decode M_X_since.2.1 44 = .ok (.bipush 24, 2) := by decide +kernel
theorem d_X_since_46 : decode M_X_since.2.1 46 = .ok (.imul, 1) := by decide +kernel
theorem d_X_since_47 : decode M_X_since.2.1 47 = .ok (.iload_n 2, 1) := by decide +kernel
theorem d_X_since_48 : decode M_X_since.2.1 48 = .ok (.iadd, 1) := by decide +kernel
theorem d_X_since_49 : decode M_X_since.2.1 49 = .ok (.iaload, 1) := by decide +kernel
theorem d_X_since_50 : decode M_X_since.2.1 50 = .ok (.ireturn, 1) := by decide +kernel
theorem d_X_teller_0 : decode M_X_teller.2.1 0 = .ok (.aload_n 0, 1) := by decide +kernel
theorem d_X_teller_1 : decode M_X_teller.2.1 1 = .ok (.getfield 10, 3) := by decide +kernel
theorem d_X_teller_4 : decode M_X_teller.2.1 4 = .ok (.iload_n 1, 1) := by decide +kernel
theorem d_X_teller_5 : decode M_X_teller.2.1 5 = .ok (.invokevirtual 93, 3) := by decide +kernel
theorem d_X_teller_8 : decode M_X_teller.2.1 8 = .ok (.ifCond .eq 14, 3) := by decide +kernel
theorem d_X_teller_11 : decode M_X_teller.2.1 11 = .ok (.aload_n 0, 1) := by decide +kernel
theorem d_X_teller_12 : decode M_X_teller.2.1 12 = .ok (.getfield 10, 3) := by decide +kernel
theorem d_X_teller_15 : decode M_X_teller.2.1 15 = .ok (.iload_n 2, 1) := by decide +kernel
theorem d_X_teller_16 : decode M_X_teller.2.1 16 = .ok (.invokevirtual 97, 3) := by decide +kernel
theorem d_X_teller_19 : decode M_X_teller.2.1 19 = .ok (.ifCond .ne 5, 3) := by decide +kernel
theorem d_X_teller_22 : decode M_X_teller.2.1 22 = .ok (.iconst (-1), 1) := by decide +kernel
theorem d_X_teller_23 : decode M_X_teller.2.1 23 = .ok (.ireturn, 1) := by decide +kernel
theorem d_X_teller_24 : decode M_X_teller.2.1 24 = .ok (.aload_n 0, 1) := by decide +kernel
theorem d_X_teller_25 : decode M_X_teller.2.1 25 = .ok (.getfield 28, 3) := by decide +kernel
theorem d_X_teller_28 : decode M_X_teller.2.1 28 = .ok (.aload_n 0, 1) := by decide +kernel
theorem d_X_teller_29 : decode M_X_teller.2.1 29 = .ok (.getfield 10, 3) := by decide +kernel
theorem d_X_teller_32 : decode M_X_teller.2.1 32 = .ok (.invokevirtual 159, 3) := by decide +kernel
theorem d_X_teller_35 : decode M_X_teller.2.1 35 = .ok (.pop, 1) := by decide +kernel
theorem d_X_teller_36 : decode M_X_teller.2.1 36 = .ok (.aload_n 0, 1) := by decide +kernel
theorem d_X_teller_37 : decode M_X_teller.2.1 37 = .ok (.getfield 28, 3) := by decide +kernel
theorem d_X_teller_40 : decode M_X_teller.2.1 40 = .ok (.getfield 172, 3) := by decide +kernel
theorem d_X_teller_43 : decode M_X_teller.2.1 43 = .ok (.iload_n 1, 1) := by decide +kernel
theorem d_X_teller_44 : decode M_X_teller.2.1 44 = .ok (.bipush 24, 2) := by decide +kernel
theorem d_X_teller_46 : decode M_X_teller.2.1 46 = .ok (.imul, 1) := by decide +kernel
theorem d_X_teller_47 : decode M_X_teller.2.1 47 = .ok (.iload_n 2, 1) := by decide +kernel
theorem d_X_teller_48 : decode M_X_teller.2.1 48 = .ok (.iadd, 1) := by decide +kernel
theorem d_X_teller_49 : decode M_X_teller.2.1 49 = .ok (.iaload, 1) := by decide +kernel
theorem d_X_teller_50 : decode M_X_teller.2.1 50 = .ok (.ireturn, 1) := by decide +kernel
theorem d_X_tellings_0 : decode M_X_tellings.2.1 0 = .ok (.aload_n 0, 1) := by decide +kernel
theorem d_X_tellings_1 : decode M_X_tellings.2.1 1 = .ok (.getfield 10, 3) := by decide +kernel
theorem d_X_tellings_4 : decode M_X_tellings.2.1 4 = .ok (.iload_n 1, 1) := by decide +kernel
theorem d_X_tellings_5 : decode M_X_tellings.2.1 5 = .ok (.invokevirtual 93, 3) := by decide +kernel
theorem d_X_tellings_8 : decode M_X_tellings.2.1 8 = .ok (.ifCond .eq 14, 3) := by decide +kernel
theorem d_X_tellings_11 : decode M_X_tellings.2.1 11 = .ok (.aload_n 0, 1) := by decide +kernel
theorem d_X_tellings_12 : decode M_X_tellings.2.1 12 = .ok (.getfield 10, 3) := by decide +kernel
theorem d_X_tellings_15 : decode M_X_tellings.2.1 15 = .ok (.iload_n 2, 1) := by decide +kernel
theorem d_X_tellings_16 : decode M_X_tellings.2.1 16 = .ok (.invokevirtual 97, 3) := by decide +kernel
theorem d_X_tellings_19 : decode M_X_tellings.2.1 19 = .ok (.ifCond .ne 5, 3) := by decide +kernel
theorem d_X_tellings_22 : decode M_X_tellings.2.1 22 = .ok (.iconst (-1), 1) := by decide +kernel
theorem d_X_tellings_23 : decode M_X_tellings.2.1 23 = .ok (.ireturn, 1) := by decide +kernel
theorem d_X_tellings_24 : decode M_X_tellings.2.1 24 = .ok (.aload_n 0, 1) := by decide +kernel
theorem d_X_tellings_25 : decode M_X_tellings.2.1 25 = .ok (.getfield 28, 3) := by decide +kernel
theorem d_X_tellings_28 : decode M_X_tellings.2.1 28 = .ok (.aload_n 0, 1) := by decide +kernel
theorem d_X_tellings_29 : decode M_X_tellings.2.1 29 = .ok (.getfield 10, 3) := by decide +kernel
theorem d_X_tellings_32 : decode M_X_tellings.2.1 32 = .ok (.invokevirtual 159, 3) := by decide +kernel
theorem d_X_tellings_35 : decode M_X_tellings.2.1 35 = .ok (.pop, 1) := by decide +kernel
theorem d_X_tellings_36 : decode M_X_tellings.2.1 36 = .ok (.aload_n 0, 1) := by decide +kernel
theorem d_X_tellings_37 : decode M_X_tellings.2.1 37 = .ok (.getfield 28, 3) := by decide +kernel
theorem d_X_tellings_40 : decode M_X_tellings.2.1 40 = .ok (.getfield 175, 3) := by decide +kernel
theorem d_X_tellings_43 : decode M_X_tellings.2.1 43 = .ok (.iload_n 1, 1) := by decide +kernel
theorem d_X_tellings_44 : decode M_X_tellings.2.1 44 = .ok (.bipush 24, 2) := by decide +kernel
theorem d_X_tellings_46 : decode M_X_tellings.2.1 46 = .ok (.imul, 1) := by decide +kernel
theorem d_X_tellings_47 : decode M_X_tellings.2.1 47 = .ok (.iload_n 2, 1) := by decide +kernel
theorem d_X_tellings_48 : decode M_X_tellings.2.1 48 = .ok (.iadd, 1) := by decide +kernel
theorem d_X_tellings_49 : decode M_X_tellings.2.1 49 = .ok (.iaload, 1) := by decide +kernel
theorem d_X_tellings_50 : decode M_X_tellings.2.1 50 = .ok (.ireturn, 1) := by decide +kernel
theorem d_X_shown_0 : decode M_X_shown.2.1 0 = .ok (.aload_n 0, 1) := by decide +kernel
theorem d_X_shown_1 : decode M_X_shown.2.1 1 = .ok (.getfield 10, 3) := by decide +kernel
theorem d_X_shown_4 : decode M_X_shown.2.1 4 = .ok (.iload_n 1, 1) := by decide +kernel
theorem d_X_shown_5 : decode M_X_shown.2.1 5 = .ok (.invokevirtual 97, 3) := by decide +kernel
theorem d_X_shown_8 : decode M_X_shown.2.1 8 = .ok (.ifCond .ne 5, 3) := by decide +kernel
theorem d_X_shown_11 : decode M_X_shown.2.1 11 = .ok (.iconst (-1), 1) := by decide +kernel
theorem d_X_shown_12 : decode M_X_shown.2.1 12 = .ok (.ireturn, 1) := by decide +kernel
theorem d_X_shown_13 : decode M_X_shown.2.1 13 = .ok (.aload_n 0, 1) := by decide +kernel
theorem d_X_shown_14 : decode M_X_shown.2.1 14 = .ok (.getfield 28, 3) := by decide +kernel
theorem d_X_shown_17 : decode M_X_shown.2.1 17 = .ok (.aload_n 0, 1) := by decide +kernel
theorem d_X_shown_18 : decode M_X_shown.2.1 18 = .ok (.getfield 10, 3) := by decide +kernel
theorem d_X_shown_21 : decode M_X_shown.2.1 21 = .ok (.invokevirtual 159, 3) := by decide +kernel
theorem d_X_shown_24 : decode M_X_shown.2.1 24 = .ok (.pop, 1) := by decide +kernel
theorem d_X_shown_25 : decode M_X_shown.2.1 25 = .ok (.aload_n 0, 1) := by decide +kernel
theorem d_X_shown_26 : decode M_X_shown.2.1 26 = .ok (.getfield 28, 3) := by decide +kernel
theorem d_X_shown_29 : decode M_X_shown.2.1 29 = .ok (.getfield 178, 3) := by decide +kernel
theorem d_X_shown_32 : decode M_X_shown.2.1 32 = .ok (.iload_n 1, 1) := by decide +kernel
theorem d_X_shown_33 : decode M_X_shown.2.1 33 = .ok (.iaload, 1) := by decide +kernel
theorem d_X_shown_34 : decode M_X_shown.2.1 34 = .ok (.ireturn, 1) := by decide +kernel
theorem d_X_stands_0 : decode M_X_stands.2.1 0 = .ok (.aload_n 0, 1) := by decide +kernel
theorem d_X_stands_1 : decode M_X_stands.2.1 1 = .ok (.getfield 10, 3) := by decide +kernel
theorem d_X_stands_4 : decode M_X_stands.2.1 4 = .ok (.iload_n 1, 1) := by decide +kernel
theorem d_X_stands_5 : decode M_X_stands.2.1 5 = .ok (.invokevirtual 120, 3) := by decide +kernel
theorem d_X_stands_8 : decode M_X_stands.2.1 8 = .ok (.ifCond .eq 23, 3) := by decide +kernel
theorem d_X_stands_11 : decode M_X_stands.2.1 11 = .ok (.aload_n 0, 1) := by decide +kernel
theorem d_X_stands_12 : decode M_X_stands.2.1 12 = .ok (.getfield 10, 3) := by decide +kernel
theorem d_X_stands_15 : decode M_X_stands.2.1 15 = .ok (.iload_n 2, 1) := by decide +kernel
theorem d_X_stands_16 : decode M_X_stands.2.1 16 = .ok (.invokevirtual 93, 3) := by decide +kernel
theorem d_X_stands_19 : decode M_X_stands.2.1 19 = .ok (.ifCond .eq 12, 3) := by decide +kernel
theorem d_X_stands_22 : decode M_X_stands.2.1 22 = .ok (.iload_n 3, 1) := by decide +kernel
theorem d_X_stands_23 : decode M_X_stands.2.1 23 = .ok (.iconst 0, 1) := by decide +kernel
theorem d_X_stands_24 : decode M_X_stands.2.1 24 = .ok (.iconst 2, 1) := by decide +kernel
theorem d_X_stands_25 : decode M_X_stands.2.1 25 = .ok (.invokestatic 75, 3) := by decide +kernel
theorem d_X_stands_28 : decode M_X_stands.2.1 28 = .ok (.ifCond .ne 5, 3) := by decide +kernel
theorem d_X_stands_31 : decode M_X_stands.2.1 31 = .ok (.iconst (-1), 1) := by decide +kernel
theorem d_X_stands_32 : decode M_X_stands.2.1 32 = .ok (.ireturn, 1) := by decide +kernel
theorem d_X_stands_33 : decode M_X_stands.2.1 33 = .ok (.aload_n 0, 1) := by decide +kernel
theorem d_X_stands_34 : decode M_X_stands.2.1 34 = .ok (.getfield 28, 3) := by decide +kernel
theorem d_X_stands_37 : decode M_X_stands.2.1 37 = .ok (.aload_n 0, 1) := by decide +kernel
theorem d_X_stands_38 : decode M_X_stands.2.1 38 = .ok (.getfield 10, 3) := by decide +kernel
theorem d_X_stands_41 : decode M_X_stands.2.1 41 = .ok (.iload_n 1, 1) := by decide +kernel
theorem d_X_stands_42 : decode M_X_stands.2.1 42 = .ok (.invokevirtual 181, 3) := by decide +kernel
theorem d_X_stands_45 : decode M_X_stands.2.1 45 = .ok (.iload_n 3, 1) := by decide +kernel
theorem d_X_stands_46 : decode M_X_stands.2.1 46 = .ok (.ifCond .ne 15, 3) := by decide +kernel
theorem d_X_stands_49 : decode M_X_stands.2.1 49 = .ok (.aload_n 0, 1) := by decide +kernel
theorem d_X_stands_50 : decode M_X_stands.2.1 50 = .ok (.getfield 28, 3) := by decide +kernel
theorem d_X_stands_53 : decode M_X_stands.2.1 53 = .ok (.getfield 185, 3) := by decide +kernel
theorem d_X_stands_56 : decode M_X_stands.2.1 56 = .ok (.iload_n 2, 1) := by decide +kernel
theorem d_X_stands_57 : decode M_X_stands.2.1 57 = .ok (.ishr, 1) := by decide +kernel
theorem d_X_stands_58 : decode M_X_stands.2.1 58 = .ok (.iconst 1, 1) := by decide +kernel
theorem d_X_stands_59 : decode M_X_stands.2.1 59 = .ok (.iand, 1) := by decide +kernel
theorem d_X_stands_60 : decode M_X_stands.2.1 60 = .ok (.ireturn, 1) := by decide +kernel
theorem d_X_stands_61 : decode M_X_stands.2.1 61 = .ok (.iload_n 3, 1) := by decide +kernel
theorem d_X_stands_62 : decode M_X_stands.2.1 62 = .ok (.iconst 1, 1) := by decide +kernel
theorem d_X_stands_63 : decode M_X_stands.2.1 63 = .ok (.if_icmp .ne 15, 3) := by decide +kernel
theorem d_X_stands_66 : decode M_X_stands.2.1 66 = .ok (.aload_n 0, 1) := by decide +kernel
theorem d_X_stands_67 : decode M_X_stands.2.1 67 = .ok (.getfield 28, 3) := by decide +kernel
theorem d_X_stands_70 : decode M_X_stands.2.1 70 = .ok (.getfield 188, 3) := by decide +kernel
theorem d_X_stands_73 : decode M_X_stands.2.1 73 = .ok (.iload_n 2, 1) := by decide +kernel
theorem d_X_stands_74 : decode M_X_stands.2.1 74 = .ok (.iaload, 1) := by decide +kernel
theorem d_X_stands_75 : decode M_X_stands.2.1 75 = .ok (.goto 15, 3) := by decide +kernel
theorem d_X_stands_78 : decode M_X_stands.2.1 78 = .ok (.aload_n 0, 1) := by decide +kernel
theorem d_X_stands_79 : decode M_X_stands.2.1 79 = .ok (.getfield 28, 3) := by decide +kernel
theorem d_X_stands_82 : decode M_X_stands.2.1 82 = .ok (.getfield 191, 3) := by decide +kernel
theorem d_X_stands_85 : decode M_X_stands.2.1 85 = .ok (.iload_n 2, 1) := by decide +kernel
theorem d_X_stands_86 : decode M_X_stands.2.1 86 = .ok (.iaload, 1) := by decide +kernel
theorem d_X_stands_87 : decode M_X_stands.2.1 87 = .ok (.invokestatic 194, 3) := by decide +kernel
theorem d_X_stands_90 : decode M_X_stands.2.1 90 = .ok (.ireturn, 1) := by decide +kernel
theorem d_X_rule_0 : decode M_X_rule.2.1 0 = .ok (.aload_n 0, 1) := by decide +kernel
theorem d_X_rule_1 : decode M_X_rule.2.1 1 = .ok (.getfield 10, 3) := by decide +kernel
theorem d_X_rule_4 : decode M_X_rule.2.1 4 = .ok (.iload_n 1, 1) := by decide +kernel
theorem d_X_rule_5 : decode M_X_rule.2.1 5 = .ok (.invokevirtual 93, 3) := by decide +kernel
theorem d_X_rule_8 : decode M_X_rule.2.1 8 = .ok (.ifCond .eq 10, 3) := by decide +kernel
theorem d_X_rule_11 : decode M_X_rule.2.1 11 = .ok (.iload_n 2, 1) := by decide +kernel
theorem d_X_rule_12 : decode M_X_rule.2.1 12 = .ok (.invokestatic 200, 3) := by decide +kernel
theorem d_X_rule_15 : decode M_X_rule.2.1 15 = .ok (.ifCond .ne 5, 3) := by decide +kernel
theorem d_X_rule_18 : decode M_X_rule.2.1 18 = .ok (.iconst (-1), 1) := by decide +kernel
theorem d_X_rule_19 : decode M_X_rule.2.1 19 = .ok (.ireturn, 1) := by decide +kernel
theorem d_X_rule_20 : decode M_X_rule.2.1 20 = .ok (.aload_n 0, 1) := by decide +kernel
theorem d_X_rule_21 : decode M_X_rule.2.1 21 = .ok (.iload_n 2, 1) := by decide +kernel
theorem d_X_rule_22 : decode M_X_rule.2.1 22 = .ok (.iconst 1, 1) := by decide +kernel
theorem d_X_rule_23 : decode M_X_rule.2.1 23 = .ok (.invokevirtual 203, 3) := by decide +kernel
theorem d_X_rule_26 : decode M_X_rule.2.1 26 = .ok (.istore_n 3, 1) := by decide +kernel
theorem d_X_rule_27 : decode M_X_rule.2.1 27 = .ok (.iload_n 3, 1) := by decide +kernel
theorem d_X_rule_28 : decode M_X_rule.2.1 28 = .ok (.ifCond .eq 5, 3) := by decide +kernel
theorem d_X_rule_31 : decode M_X_rule.2.1 31 = .ok (.iload_n 3, 1) := by decide +kernel
theorem d_X_rule_32 : decode M_X_rule.2.1 32 = .ok (.ireturn, 1) := by decide +kernel
theorem d_X_rule_33 : decode M_X_rule.2.1 33 = .ok (.aload_n 0, 1) := by decide +kernel
theorem d_X_rule_34 : decode M_X_rule.2.1 34 = .ok (.getfield 66, 3) := by decide +kernel
theorem d_X_rule_37 : decode M_X_rule.2.1 37 = .ok (.iload_n 2, 1) := by decide +kernel
theorem d_X_rule_38 : decode M_X_rule.2.1 38 = .ok (.aaload, 1) := by decide +kernel
theorem d_X_rule_39 : decode M_X_rule.2.1 39 = .ok (.astore 4, 2) := by decide +kernel
theorem d_X_rule_41 : decode M_X_rule.2.1 41 = .ok (.aload 4, 2) := by decide +kernel
theorem d_X_rule_43 : decode M_X_rule.2.1 43 = .ok (.aload_n 0, 1) := by decide +kernel
theorem d_X_rule_44 : decode M_X_rule.2.1 44 = .ok (.getfield 10, 3) := by decide +kernel
theorem d_X_rule_47 : decode M_X_rule.2.1 47 = .ok (.invokestatic 206, 3) := by decide +kernel
theorem d_X_rule_50 : decode M_X_rule.2.1 50 = .ok (.istore 5, 2) := by decide +kernel
theorem d_X_rule_52 : decode M_X_rule.2.1 52 = .ok (.iload 5, 2) := by decide +kernel
theorem d_X_rule_54 : decode M_X_rule.2.1 54 = .ok (.ifCond .lt 9, 3) := by decide +kernel
theorem d_X_rule_57 : decode M_X_rule.2.1 57 = .ok (.bipush (-100), 2) := by decide +kernel
theorem d_X_rule_59 : decode M_X_rule.2.1 59 = .ok (.iload 5, 2) := by decide +kernel
theorem d_X_rule_61 : decode M_X_rule.2.1 61 = .ok (.isub, 1) := by decide +kernel
theorem d_X_rule_62 : decode M_X_rule.2.1 62 = .ok (.ireturn, 1) := by decide +kernel
theorem d_X_rule_63 : decode M_X_rule.2.1 63 = .ok (.aload 4, 2) := by decide +kernel
theorem d_X_rule_65 : decode M_X_rule.2.1 65 = .ok (.invokestatic 212, 3) := by decide +kernel
theorem d_X_rule_68 : decode M_X_rule.2.1 68 = .ok (.istore 6, 2) := by decide +kernel
theorem d_X_rule_70 : decode M_X_rule.2.1 70 = .ok (.iload 6, 2) := by decide +kernel
theorem d_X_rule_72 : decode M_X_rule.2.1 72 = .ok (.bipush 40, 2) := by decide +kernel
theorem d_X_rule_74 : decode M_X_rule.2.1 74 = .ok (.if_icmp .le 6, 3) := by decide +kernel
theorem d_X_rule_77 : decode M_X_rule.2.1 77 = .ok (.bipush (-2), 2) := by decide +kernel
theorem d_X_rule_79 : decode M_X_rule.2.1 79 = .ok (.ireturn, 1) := by decide +kernel
theorem d_X_rule_80 : decode M_X_rule.2.1 80 = .ok (.aload_n 0, 1) := by decide +kernel
theorem d_X_rule_81 : decode M_X_rule.2.1 81 = .ok (.getfield 10, 3) := by decide +kernel
theorem d_X_rule_84 : decode M_X_rule.2.1 84 = .ok (.iload_n 1, 1) := by decide +kernel
theorem d_X_rule_85 : decode M_X_rule.2.1 85 = .ok (.aload 4, 2) := by decide +kernel
theorem d_X_rule_87 : decode M_X_rule.2.1 87 = .ok (.iload 6, 2) := by decide +kernel
theorem d_X_rule_89 : decode M_X_rule.2.1 89 = .ok (.invokevirtual 216, 3) := by decide +kernel
theorem d_X_rule_92 : decode M_X_rule.2.1 92 = .ok (.iload 6, 2) := by decide +kernel
theorem d_X_rule_94 : decode M_X_rule.2.1 94 = .ok (.ireturn, 1) := by decide +kernel
theorem d_X_isTape_0 : decode M_X_isTape.2.1 0 = .ok (.iload_n 0, 1) := by decide +kernel
theorem d_X_isTape_1 : decode M_X_isTape.2.1 1 = .ok (.iconst 0, 1) := by decide +kernel
theorem d_X_isTape_2 : decode M_X_isTape.2.1 2 = .ok (.iconst 5, 1) := by decide +kernel
theorem d_X_isTape_3 : decode M_X_isTape.2.1 3 = .ok (.invokestatic 75, 3) := by decide +kernel
theorem d_X_isTape_6 : decode M_X_isTape.2.1 6 = .ok (.ireturn, 1) := by decide +kernel
theorem d_X_refusalUnlessHeld_0 : decode M_X_refusalUnlessHeld.2.1 0 = .ok (.aload_n 0, 1) := by decide +kernel
theorem d_X_refusalUnlessHeld_1 : decode M_X_refusalUnlessHeld.2.1 1 = .ok (.getfield 66, 3) := by decide +kernel
theorem d_X_refusalUnlessHeld_4 : decode M_X_refusalUnlessHeld.2.1 4 = .ok (.iload_n 1, 1) := by decide +kernel
theorem d_X_refusalUnlessHeld_5 : decode M_X_refusalUnlessHeld.2.1 5 = .ok (.aaload, 1) := by decide +kernel
theorem d_X_refusalUnlessHeld_6 : decode M_X_refusalUnlessHeld.2.1 6 = .ok (.getfield 323, 3) := by decide +kernel
theorem d_X_refusalUnlessHeld_9 : decode M_X_refusalUnlessHeld.2.1 9 = .ok (.iload_n 2, 1) := by decide +kernel
theorem d_X_refusalUnlessHeld_10 : decode M_X_refusalUnlessHeld.2.1 10 = .ok (.if_icmp .ne 7, 3) := by decide +kernel
theorem d_X_refusalUnlessHeld_13 : decode M_X_refusalUnlessHeld.2.1 13 = .ok (.iconst 0, 1) := by decide +kernel
theorem d_X_refusalUnlessHeld_14 : decode M_X_refusalUnlessHeld.2.1 14 = .ok (.goto 13, 3) := by decide +kernel
theorem d_X_refusalUnlessHeld_17 : decode M_X_refusalUnlessHeld.2.1 17 = .ok (.aload_n 0, 1) := by decide +kernel
theorem d_X_refusalUnlessHeld_18 : decode M_X_refusalUnlessHeld.2.1 18 = .ok (.aload_n 0, 1) := by decide +kernel
theorem d_X_refusalUnlessHeld_19 : decode M_X_refusalUnlessHeld.2.1 19 = .ok (.getfield 66, 3) := by decide +kernel
theorem d_X_refusalUnlessHeld_22 : decode M_X_refusalUnlessHeld.2.1 22 = .ok (.iload_n 1, 1) := by decide +kernel
theorem d_X_refusalUnlessHeld_23 : decode M_X_refusalUnlessHeld.2.1 23 = .ok (.aaload, 1) := by decide +kernel
theorem d_X_refusalUnlessHeld_24 : decode M_X_refusalUnlessHeld.2.1 24 = .ok (.invokevirtual 314, 3) := by decide +kernel
theorem d_X_refusalUnlessHeld_27 : decode M_X_refusalUnlessHeld.2.1 27 = .ok (.ireturn, 1) := by decide +kernel
theorem d_X_refusalOfOther_0 : decode M_X_refusalOfOther.2.1 0 = .ok (.aload_n 0, 1) := by decide +kernel
theorem d_X_refusalOfOther_1 : decode M_X_refusalOfOther.2.1 1 = .ok (.aload_n 1, 1) := by decide +kernel
theorem d_X_refusalOfOther_2 : decode M_X_refusalOfOther.2.1 2 = .ok (.getfield 323, 3) := by decide +kernel
theorem d_X_refusalOfOther_5 : decode M_X_refusalOfOther.2.1 5 = .ok (.ifCond .ne 8, 3) := by decide +kernel
theorem d_X_refusalOfOther_8 : decode M_X_refusalOfOther.2.1 8 = .ok (.bipush (-11), 2) := by decide +kernel
theorem d_X_refusalOfOther_10 : decode M_X_refusalOfOther.2.1 10 = .ok (.goto 5, 3) := by decide +kernel
theorem d_X_refusalOfOther_13 : decode M_X_refusalOfOther.2.1 13 = .ok (.bipush (-12), 2) := by decide +kernel
theorem d_X_refusalOfOther_15 : decode M_X_refusalOfOther.2.1 15 = .ok (.invokevirtual 259, 3) := by decide +kernel
theorem d_X_refusalOfOther_18 : decode M_X_refusalOfOther.2.1 18 = .ok (.ireturn, 1) := by decide +kernel
theorem d_X_counted_0 : decode M_X_counted.2.1 0 = .ok (.iload_n 1, 1) := by decide +kernel
theorem d_X_counted_1 : decode M_X_counted.2.1 1 = .ok (.bipush (-15), 2) := by decide +kernel
theorem d_X_counted_3 : decode M_X_counted.2.1 3 = .ok (.bipush (-11), 2) := by decide +kernel
theorem d_X_counted_5 : decode M_X_counted.2.1 5 = .ok (.invokestatic 75, 3) := by decide +kernel
theorem d_X_counted_8 : decode M_X_counted.2.1 8 = .ok (.ifCond .eq 13, 3) := by decide +kernel
theorem d_X_counted_11 : decode M_X_counted.2.1 11 = .ok (.aload_n 0, 1) := by decide +kernel
theorem d_X_counted_12 : decode M_X_counted.2.1 12 = .ok (.dup, 1) := by decide +kernel
theorem d_X_counted_13 : decode M_X_counted.2.1 13 = .ok (.getfield 89, 3) := by decide +kernel
theorem d_X_counted_16 : decode M_X_counted.2.1 16 = .ok (.iconst 1, 1) := by decide +kernel
theorem d_X_counted_17 : decode M_X_counted.2.1 17 = .ok (.iadd, 1) := by decide +kernel
theorem d_X_counted_18 : decode M_X_counted.2.1 18 = .ok (.putfield 89, 3) := by decide +kernel
theorem d_X_counted_21 : decode M_X_counted.2.1 21 = .ok (.iload_n 1, 1) := by decide +kernel
theorem d_X_counted_22 : decode M_X_counted.2.1 22 = .ok (.ireturn, 1) := by decide +kernel
theorem d_X_isThread_0 : decode M_X_isThread.2.1 0 = .ok (.iload_n 0, 1) := by decide +kernel
theorem d_X_isThread_1 : decode M_X_isThread.2.1 1 = .ok (.iconst 0, 1) := by decide +kernel
theorem d_X_isThread_2 : decode M_X_isThread.2.1 2 = .ok (.iconst 2, 1) := by decide +kernel
theorem d_X_isThread_3 : decode M_X_isThread.2.1 3 = .ok (.invokestatic 75, 3) := by decide +kernel
theorem d_X_isThread_6 : decode M_X_isThread.2.1 6 = .ok (.ireturn, 1) := by decide +kernel
theorem d_X_unrule_0 : decode M_X_unrule.2.1 0 = .ok (.aload_n 0, 1) := by decide +kernel
theorem d_X_unrule_1 : decode M_X_unrule.2.1 1 = .ok (.getfield 10, 3) := by decide +kernel
theorem d_X_unrule_4 : decode M_X_unrule.2.1 4 = .ok (.iload_n 1, 1) := by decide +kernel
theorem d_X_unrule_5 : decode M_X_unrule.2.1 5 = .ok (.invokevirtual 93, 3) := by decide +kernel
theorem d_X_unrule_8 : decode M_X_unrule.2.1 8 = .ok (.ifCond .ne 5, 3) := by decide +kernel
theorem d_X_unrule_11 : decode M_X_unrule.2.1 11 = .ok (.iconst (-1), 1) := by decide +kernel
theorem d_X_unrule_12 : decode M_X_unrule.2.1 12 = .ok (.ireturn, 1) := by decide +kernel
theorem d_X_unrule_13 : decode M_X_unrule.2.1 13 = .ok (.aload_n 0, 1) := by decide +kernel
theorem d_X_unrule_14 : decode M_X_unrule.2.1 14 = .ok (.getfield 10, 3) := by decide +kernel
theorem d_X_unrule_17 : decode M_X_unrule.2.1 17 = .ok (.getfield 220, 3) := by decide +kernel
theorem d_X_unrule_20 : decode M_X_unrule.2.1 20 = .ok (.iload_n 1, 1) := by decide +kernel
theorem d_X_unrule_21 : decode M_X_unrule.2.1 21 = .ok (.iaload, 1) := by decide +kernel
theorem d_X_unrule_22 : decode M_X_unrule.2.1 22 = .ok (.istore_n 2, 1) := by decide +kernel
theorem d_X_unrule_23 : decode M_X_unrule.2.1 23 = .ok (.aload_n 0, 1) := by decide +kernel
theorem d_X_unrule_24 : decode M_X_unrule.2.1 24 = .ok (.getfield 10, 3) := by decide +kernel
theorem d_X_unrule_27 : decode M_X_unrule.2.1 27 = .ok (.getfield 220, 3) := by decide +kernel
theorem d_X_unrule_30 : decode M_X_unrule.2.1 30 = .ok (.iload_n 1, 1) := by decide +kernel
theorem d_X_unrule_31 : decode M_X_unrule.2.1 31 = .ok (.iconst 0, 1) := by decide +kernel
theorem d_X_unrule_32 : decode M_X_unrule.2.1 32 = .ok (.iastore, 1) := by decide +kernel
theorem d_X_unrule_33 : decode M_X_unrule.2.1 33 = .ok (.iload_n 2, 1) := by decide +kernel
theorem d_X_unrule_34 : decode M_X_unrule.2.1 34 = .ok (.ireturn, 1) := by decide +kernel
theorem d_X_letters_0 : decode M_X_letters.2.1 0 = .ok (.iload_n 1, 1) := by decide +kernel
theorem d_X_letters_1 : decode M_X_letters.2.1 1 = .ok (.invokestatic 223, 3) := by decide +kernel
theorem d_X_letters_4 : decode M_X_letters.2.1 4 = .ok (.ifCond .eq 21, 3) := by decide +kernel
theorem d_X_letters_7 : decode M_X_letters.2.1 7 = .ok (.iload_n 2, 1) := by decide +kernel
theorem d_X_letters_8 : decode M_X_letters.2.1 8 = .ok (.invokestatic 104, 3) := by decide +kernel
theorem d_X_letters_11 : decode M_X_letters.2.1 11 = .ok (.ifCond .eq 14, 3) := by decide +kernel
theorem d_X_letters_14 : decode M_X_letters.2.1 14 = .ok (.iload_n 3, 1) := by decide +kernel
theorem d_X_letters_15 : decode M_X_letters.2.1 15 = .ok (.iconst 0, 1) := by decide +kernel
theorem d_X_letters_16 : decode M_X_letters.2.1 16 = .ok (.sipush 9999, 3) := by decide +kernel
theorem d_X_letters_19 : decode M_X_letters.2.1 19 = .ok (.invokestatic 75, 3) := by decide +kernel
theorem d_X_letters_22 : decode M_X_letters.2.1 22 = .ok (.ifCond .ne 5, 3) := by decide +kernel
theorem d_X_letters_25 : decode M_X_letters.2.1 25 = .ok (.iconst (-1), 1) := by decide +kernel
theorem d_X_letters_26 : decode M_X_letters.2.1 26 = .ok (.ireturn, 1) := by decide +kernel
theorem d_X_letters_27 : decode M_X_letters.2.1 27 = .ok (.iload_n 1, 1) := by decide +kernel
theorem d_X_letters_28 : decode M_X_letters.2.1 28 = .ok (.bipush 27, 2) := by decide +kernel
theorem d_X_letters_30 : decode M_X_letters.2.1 30 = .ok (.imul, 1) := by decide +kernel
theorem d_X_letters_31 : decode M_X_letters.2.1 31 = .ok (.iload_n 2, 1) := by decide +kernel
theorem d_X_letters_32 : decode M_X_letters.2.1 32 = .ok (.iadd, 1) := by decide +kernel
theorem d_X_letters_33 : decode M_X_letters.2.1 33 = .ok (.istore 4, 2) := by decide +kernel
theorem d_X_letters_35 : decode M_X_letters.2.1 35 = .ok (.aload_n 0, 1) := by decide +kernel
theorem d_X_letters_36 : decode M_X_letters.2.1 36 = .ok (.getfield 19, 3) := by decide +kernel
theorem d_X_letters_39 : decode M_X_letters.2.1 39 = .ok (.getfield 226, 3) := by decide +kernel
theorem d_X_letters_42 : decode M_X_letters.2.1 42 = .ok (.iload 4, 2) := by decide +kernel
theorem d_X_letters_44 : decode M_X_letters.2.1 44 = .ok (.iaload, 1) := by decide +kernel
theorem d_X_letters_45 : decode M_X_letters.2.1 45 = .ok (.istore 5, 2) := by decide +kernel
theorem d_X_letters_47 : decode M_X_letters.2.1 47 = .ok (.aload_n 0, 1) := by decide +kernel
theorem d_X_letters_48 : decode M_X_letters.2.1 48 = .ok (.getfield 19, 3) := by decide +kernel
theorem d_X_letters_51 : decode M_X_letters.2.1 51 = .ok (.getfield 226, 3) := by decide +kernel
theorem d_X_letters_54 : decode M_X_letters.2.1 54 = .ok (.iload 4, 2) := by decide +kernel
theorem d_X_letters_56 : decode M_X_letters.2.1 56 = .ok (.iload_n 3, 1) := by decide +kernel
theorem d_X_letters_57 : decode M_X_letters.2.1 57 = .ok (.iastore, 1) := by decide +kernel
theorem d_X_letters_58 : decode M_X_letters.2.1 58 = .ok (.iload 5, 2) := by decide +kernel
theorem d_X_letters_60 : decode M_X_letters.2.1 60 = .ok (.ireturn, 1) := by decide +kernel
theorem d_X_heat_0 : decode M_X_heat.2.1 0 = .ok (.iload_n 1, 1) := by decide +kernel
theorem d_X_heat_1 : decode M_X_heat.2.1 1 = .ok (.invokestatic 223, 3) := by decide +kernel
theorem d_X_heat_4 : decode M_X_heat.2.1 4 = .ok (.ifCond .eq 22, 3) := by decide +kernel
theorem d_X_heat_7 : decode M_X_heat.2.1 7 = .ok (.iload_n 2, 1) := by decide +kernel
theorem d_X_heat_8 : decode M_X_heat.2.1 8 = .ok (.invokestatic 104, 3) := by decide +kernel
theorem d_X_heat_11 : decode M_X_heat.2.1 11 = .ok (.ifCond .eq 15, 3) := by decide +kernel
theorem d_X_heat_14 : decode M_X_heat.2.1 14 = .ok (.aload_n 0, 1) := by decide +kernel
theorem d_X_heat_15 : decode M_X_heat.2.1 15 = .ok (.getfield 19, 3) := by decide +kernel
theorem d_X_heat_18 : decode M_X_heat.2.1 18 = .ok (.iload_n 1, 1) := by decide +kernel
theorem d_X_heat_19 : decode M_X_heat.2.1 19 = .ok (.iload_n 2, 1) := by decide +kernel
theorem d_X_heat_20 : decode M_X_heat.2.1 20 = .ok (.invokevirtual 229, 3) := by decide +kernel
theorem d_X_heat_23 : decode M_X_heat.2.1 23 = .ok (.goto 4, 3) := by decide +kernel
theorem d_X_heat_26 : decode M_X_heat.2.1 26 = .ok (.iconst (-1), 1) := by decide +kernel
theorem d_X_heat_27 : decode M_X_heat.2.1 27 = .ok (.ireturn, 1) := by decide +kernel
theorem d_X_turn_0 : decode M_X_turn.2.1 0 = .ok (.iload_n 1, 1) := by decide +kernel
theorem d_X_turn_1 : decode M_X_turn.2.1 1 = .ok (.invokestatic 223, 3) := by decide +kernel
theorem d_X_turn_4 : decode M_X_turn.2.1 4 = .ok (.ifCond .eq 47, 3) := by decide +kernel
theorem d_X_turn_7 : decode M_X_turn.2.1 7 = .ok (.iload_n 2, 1) := by decide +kernel
theorem d_X_turn_8 : decode M_X_turn.2.1 8 = .ok (.iconst 1, 1) := by decide +kernel
theorem d_X_turn_9 : decode M_X_turn.2.1 9 = .ok (.bipush 15, 2) := by decide +kernel
theorem d_X_turn_11 : decode M_X_turn.2.1 11 = .ok (.invokestatic 75, 3) := by decide +kernel
theorem d_X_turn_14 : decode M_X_turn.2.1 14 = .ok (.ifCond .eq 37, 3) := by decide +kernel
theorem d_X_turn_17 : decode M_X_turn.2.1 17 = .ok (.aload_n 0, 1) := by decide +kernel
theorem d_X_turn_18 : decode M_X_turn.2.1 18 = .ok (.getfield 10, 3) := by decide +kernel
theorem d_X_turn_21 : decode M_X_turn.2.1 21 = .ok (.iload_n 3, 1) := by decide +kernel
theorem d_X_turn_22 : decode M_X_turn.2.1 22 = .ok (.invokevirtual 110, 3) := by decide +kernel
theorem d_X_turn_25 : decode M_X_turn.2.1 25 = .ok (.ifCond .eq 26, 3) := by decide +kernel
theorem d_X_turn_28 : decode M_X_turn.2.1 28 = .ok (.iload 4, 2) := by decide +kernel
theorem d_X_turn_30 : decode M_X_turn.2.1 30 = .ok (.invokestatic 104, 3) := by decide +kernel
theorem d_X_turn_33 : decode M_X_turn.2.1 33 = .ok (.ifCond .eq 18, 3) := by decide +kernel
theorem d_X_turn_36 : decode M_X_turn.2.1 36 = .ok (.iload 5, 2) := by decide +kernel
theorem d_X_turn_38 : decode M_X_turn.2.1 38 = .ok (.invokestatic 104, 3) := by decide +kernel
theorem d_X_turn_41 : decode M_X_turn.2.1 41 = .ok (.ifCond .eq 10, 3) := by decide +kernel
theorem d_X_turn_44 : decode M_X_turn.2.1 44 = .ok (.iload 4, 2) := by decide +kernel
theorem d_X_turn_46 : decode M_X_turn.2.1 46 = .ok (.iload 5, 2) := by decide +kernel
theorem d_X_turn_48 : decode M_X_turn.2.1 48 = .ok (.if_icmp .le 5, 3) := by decide +kernel
theorem d_X_turn_51 : decode M_X_turn.2.1 51 = .ok (.iconst (-1), 1) := by decide +kernel
theorem d_X_turn_52 : decode M_X_turn.2.1 52 = .ok (.ireturn, 1) := by decide +kernel
theorem d_X_turn_53 : decode M_X_turn.2.1 53 = .ok (.aload_n 0, 1) := by decide +kernel
theorem d_X_turn_54 : decode M_X_turn.2.1 54 = .ok (.getfield 19, 3) := by decide +kernel
theorem d_X_turn_57 : decode M_X_turn.2.1 57 = .ok (.getfield 232, 3) := by decide +kernel
theorem d_X_turn_60 : decode M_X_turn.2.1 60 = .ok (.iload_n 1, 1) := by decide +kernel
theorem d_X_turn_61 : decode M_X_turn.2.1 61 = .ok (.iaload, 1) := by decide +kernel
theorem d_X_turn_62 : decode M_X_turn.2.1 62 = .ok (.iconst 5, 1) := by decide +kernel
theorem d_X_turn_63 : decode M_X_turn.2.1 63 = .ok (.if_icmp .lt 6, 3) := by decide +kernel
theorem d_X_turn_66 : decode M_X_turn.2.1 66 = .ok (.bipush (-2), 2) := by decide +kernel
theorem d_X_turn_68 : decode M_X_turn.2.1 68 = .ok (.ireturn, 1) := by decide +kernel
theorem d_X_turn_69 : decode M_X_turn.2.1 69 = .ok (.aload_n 0, 1) := by decide +kernel
theorem d_X_turn_70 : decode M_X_turn.2.1 70 = .ok (.getfield 19, 3) := by decide +kernel
theorem d_X_turn_73 : decode M_X_turn.2.1 73 = .ok (.iload_n 1, 1) := by decide +kernel
theorem d_X_turn_74 : decode M_X_turn.2.1 74 = .ok (.iload_n 2, 1) := by decide +kernel
theorem d_X_turn_75 : decode M_X_turn.2.1 75 = .ok (.iload_n 3, 1) := by decide +kernel
theorem d_X_turn_76 : decode M_X_turn.2.1 76 = .ok (.iload 4, 2) := by decide +kernel
theorem d_X_turn_78 : decode M_X_turn.2.1 78 = .ok (.iload 5, 2) := by decide +kernel
theorem d_X_turn_80 : decode M_X_turn.2.1 80 = .ok (.invokevirtual 235, 3) := by decide +kernel
theorem d_X_turn_83 : decode M_X_turn.2.1 83 = .ok (.ireturn, 1) := by decide +kernel
theorem d_X_unturn_0 : decode M_X_unturn.2.1 0 = .ok (.iload_n 1, 1) := by decide +kernel
theorem d_X_unturn_1 : decode M_X_unturn.2.1 1 = .ok (.invokestatic 223, 3) := by decide +kernel
theorem d_X_unturn_4 : decode M_X_unturn.2.1 4 = .ok (.ifCond .ne 5, 3) := by decide +kernel
theorem d_X_unturn_7 : decode M_X_unturn.2.1 7 = .ok (.iconst (-1), 1) := by decide +kernel
theorem d_X_unturn_8 : decode M_X_unturn.2.1 8 = .ok (.ireturn, 1) := by decide +kernel
theorem d_X_unturn_9 : decode M_X_unturn.2.1 9 = .ok (.aload_n 0, 1) := by decide +kernel
theorem d_X_unturn_10 : decode M_X_unturn.2.1 10 = .ok (.getfield 19, 3) := by decide +kernel
theorem d_X_unturn_13 : decode M_X_unturn.2.1 13 = .ok (.getfield 232, 3) := by decide +kernel
theorem d_X_unturn_16 : decode M_X_unturn.2.1 16 = .ok (.iload_n 1, 1) := by decide +kernel
theorem d_X_unturn_17 : decode M_X_unturn.2.1 17 = .ok (.iaload, 1) := by decide +kernel
theorem d_X_unturn_18 : decode M_X_unturn.2.1 18 = .ok (.istore_n 2, 1) := by decide +kernel
theorem d_X_unturn_19 : decode M_X_unturn.2.1 19 = .ok (.aload_n 0, 1) := by decide +kernel
theorem d_X_unturn_20 : decode M_X_unturn.2.1 20 = .ok (.getfield 19, 3) := by decide +kernel
theorem d_X_unturn_23 : decode M_X_unturn.2.1 23 = .ok (.getfield 232, 3) := by decide +kernel
theorem d_X_unturn_26 : decode M_X_unturn.2.1 26 = .ok (.iload_n 1, 1) := by decide +kernel
theorem d_X_unturn_27 : decode M_X_unturn.2.1 27 = .ok (.iconst 0, 1) := by decide +kernel
theorem d_X_unturn_28 : decode M_X_unturn.2.1 28 = .ok (.iastore, 1) := by decide +kernel
theorem d_X_unturn_29 : decode M_X_unturn.2.1 29 = .ok (.iload_n 2, 1) := by decide +kernel
theorem d_X_unturn_30 : decode M_X_unturn.2.1 30 = .ok (.ireturn, 1) := by decide +kernel
theorem d_X_gap_0 : decode M_X_gap.2.1 0 = .ok (.iload_n 1, 1) := by decide +kernel
theorem d_X_gap_1 : decode M_X_gap.2.1 1 = .ok (.invokestatic 223, 3) := by decide +kernel
theorem d_X_gap_4 : decode M_X_gap.2.1 4 = .ok (.ifCond .eq 23, 3) := by decide +kernel
theorem d_X_gap_7 : decode M_X_gap.2.1 7 = .ok (.iload_n 2, 1) := by decide +kernel
theorem d_X_gap_8 : decode M_X_gap.2.1 8 = .ok (.iconst 1, 1) := by decide +kernel
theorem d_X_gap_9 : decode M_X_gap.2.1 9 = .ok (.bipush 6, 2) := by decide +kernel
theorem d_X_gap_11 : decode M_X_gap.2.1 11 = .ok (.invokestatic 75, 3) := by decide +kernel
theorem d_X_gap_14 : decode M_X_gap.2.1 14 = .ok (.ifCond .eq 13, 3) := by decide +kernel
theorem d_X_gap_17 : decode M_X_gap.2.1 17 = .ok (.iload_n 3, 1) := by decide +kernel
theorem d_X_gap_18 : decode M_X_gap.2.1 18 = .ok (.iload_n 2, 1) := by decide +kernel
theorem d_X_gap_19 : decode M_X_gap.2.1 19 = .ok (.bipush 6, 2) := by decide +kernel
theorem d_X_gap_21 : decode M_X_gap.2.1 21 = .ok (.invokestatic 75, 3) := by decide +kernel
theorem d_X_gap_24 : decode M_X_gap.2.1 24 = .ok (.ifCond .ne 5, 3) := by decide +kernel
theorem d_X_gap_27 : decode M_X_gap.2.1 27 = .ok (.iconst (-1), 1) := by decide +kernel
theorem d_X_gap_28 : decode M_X_gap.2.1 28 = .ok (.ireturn, 1) := by decide +kernel
theorem d_X_gap_29 : decode M_X_gap.2.1 29 = .ok (.aload_n 0, 1) := by decide +kernel
theorem d_X_gap_30 : decode M_X_gap.2.1 30 = .ok (.getfield 19, 3) := by decide +kernel
theorem d_X_gap_33 : decode M_X_gap.2.1 33 = .ok (.getfield 238, 3) := by decide +kernel
theorem d_X_gap_36 : decode M_X_gap.2.1 36 = .ok (.iload_n 1, 1) := by decide +kernel
theorem d_X_gap_37 : decode M_X_gap.2.1 37 = .ok (.iload_n 2, 1) := by decide +kernel
theorem d_X_gap_38 : decode M_X_gap.2.1 38 = .ok (.iastore, 1) := by decide +kernel
theorem d_X_gap_39 : decode M_X_gap.2.1 39 = .ok (.aload_n 0, 1) := by decide +kernel
theorem d_X_gap_40 : decode M_X_gap.2.1 40 = .ok (.getfield 19, 3) := by decide +kernel
theorem d_X_gap_43 : decode M_X_gap.2.1 43 = .ok (.getfield 241, 3) := by decide +kernel
theorem d_X_gap_46 : decode M_X_gap.2.1 46 = .ok (.iload_n 1, 1) := by decide +kernel
theorem d_X_gap_47 : decode M_X_gap.2.1 47 = .ok (.iload_n 3, 1) := by decide +kernel
theorem d_X_gap_48 : decode M_X_gap.2.1 48 = .ok (.iastore, 1) := by decide +kernel
theorem d_X_gap_49 : decode M_X_gap.2.1 49 = .ok (.iconst 0, 1) := by decide +kernel
theorem d_X_gap_50 : decode M_X_gap.2.1 50 = .ok (.ireturn, 1) := by decide +kernel
theorem d_X_away_0 : decode M_X_away.2.1 0 = .ok (.aload_n 0, 1) := by decide +kernel
theorem d_X_away_1 : decode M_X_away.2.1 1 = .ok (.getfield 10, 3) := by decide +kernel
theorem d_X_away_4 : decode M_X_away.2.1 4 = .ok (.iload_n 1, 1) := by decide +kernel
theorem d_X_away_5 : decode M_X_away.2.1 5 = .ok (.invokevirtual 93, 3) := by decide +kernel
theorem d_X_away_8 : decode M_X_away.2.1 8 = .ok (.ifCond .eq 10, 3) := by decide +kernel
theorem d_X_away_11 : decode M_X_away.2.1 11 = .ok (.iload_n 2, 1) := by decide +kernel
theorem d_X_away_12 : decode M_X_away.2.1 12 = .ok (.invokestatic 104, 3) := by decide +kernel
theorem d_X_away_15 : decode M_X_away.2.1 15 = .ok (.ifCond .ne 5, 3) := by decide +kernel
theorem d_X_away_18 : decode M_X_away.2.1 18 = .ok (.iconst (-1), 1) := by decide +kernel
theorem d_X_away_19 : decode M_X_away.2.1 19 = .ok (.ireturn, 1) := by decide +kernel
theorem d_X_away_20 : decode M_X_away.2.1 20 = .ok (.aload_n 0, 1) := by decide +kernel
theorem d_X_away_21 : decode M_X_away.2.1 21 = .ok (.getfield 19, 3) := by decide +kernel
theorem d_X_away_24 : decode M_X_away.2.1 24 = .ok (.getfield 244, 3) := by decide +kernel
theorem d_X_away_27 : decode M_X_away.2.1 27 = .ok (.iload_n 2, 1) := by decide +kernel
theorem d_X_away_28 : decode M_X_away.2.1 28 = .ok (.dup2, 1) := by decide +kernel
theorem d_X_away_29 : decode M_X_away.2.1 29 = .ok (.iaload, 1) := by decide +kernel
theorem d_X_away_30 : decode M_X_away.2.1 30 = .ok (.iconst 1, 1) := by decide +kernel
theorem d_X_away_31 : decode M_X_away.2.1 31 = .ok (.iload_n 1, 1) := by decide +kernel
theorem d_X_away_32 : decode M_X_away.2.1 32 = .ok (.ishl, 1) := by decide +kernel
theorem d_X_away_33 : decode M_X_away.2.1 33 = .ok (.ixor, 1) := by decide +kernel
theorem d_X_away_34 : decode M_X_away.2.1 34 = .ok (.iastore, 1) := by decide +kernel
theorem d_X_away_35 : decode M_X_away.2.1 35 = .ok (.aload_n 0, 1) := by decide +kernel
theorem d_X_away_36 : decode M_X_away.2.1 36 = .ok (.getfield 19, 3) := by decide +kernel
theorem d_X_away_39 : decode M_X_away.2.1 39 = .ok (.getfield 244, 3) := by decide +kernel
theorem d_X_away_42 : decode M_X_away.2.1 42 = .ok (.iload_n 2, 1) := by decide +kernel
theorem d_X_away_43 : decode M_X_away.2.1 43 = .ok (.iaload, 1) := by decide +kernel
theorem d_X_away_44 : decode M_X_away.2.1 44 = .ok (.iload_n 1, 1) := by decide +kernel
theorem d_X_away_45 : decode M_X_away.2.1 45 = .ok (.ishr, 1) := by decide +kernel
theorem d_X_away_46 : decode M_X_away.2.1 46 = .ok (.iconst 1, 1) := by decide +kernel
theorem d_X_away_47 : decode M_X_away.2.1 47 = .ok (.iand, 1) := by decide +kernel
theorem d_X_away_48 : decode M_X_away.2.1 48 = .ok (.ireturn, 1) := by decide +kernel
theorem d_X_weeks_0 : decode M_X_weeks.2.1 0 = .ok (.iload_n 1, 1) := by decide +kernel
theorem d_X_weeks_1 : decode M_X_weeks.2.1 1 = .ok (.invokestatic 104, 3) := by decide +kernel
theorem d_X_weeks_4 : decode M_X_weeks.2.1 4 = .ok (.ifCond .ne 5, 3) := by decide +kernel
theorem d_X_weeks_7 : decode M_X_weeks.2.1 7 = .ok (.iconst (-1), 1) := by decide +kernel
theorem d_X_weeks_8 : decode M_X_weeks.2.1 8 = .ok (.ireturn, 1) := by decide +kernel
theorem d_X_weeks_9 : decode M_X_weeks.2.1 9 = .ok (.aload_n 0, 1) := by decide +kernel
theorem d_X_weeks_10 : decode M_X_weeks.2.1 10 = .ok (.getfield 19, 3) := by decide +kernel
theorem d_X_weeks_13 : decode M_X_weeks.2.1 13 = .ok (.getfield 247, 3) := by decide +kernel
theorem d_X_weeks_16 : decode M_X_weeks.2.1 16 = .ok (.istore_n 2, 1) := by decide +kernel
theorem d_X_weeks_17 : decode M_X_weeks.2.1 17 = .ok (.aload_n 0, 1) := by decide +kernel
theorem d_X_weeks_18 : decode M_X_weeks.2.1 18 = .ok (.getfield 19, 3) := by decide +kernel
theorem d_X_weeks_21 : decode M_X_weeks.2.1 21 = .ok (.iload_n 1, 1) := by decide +kernel
theorem d_X_weeks_22 : decode M_X_weeks.2.1 22 = .ok (.putfield 247, 3) := by decide +kernel
theorem d_X_weeks_25 : decode M_X_weeks.2.1 25 = .ok (.iload_n 2, 1) := by decide +kernel
theorem d_X_weeks_26 : decode M_X_weeks.2.1 26 = .ok (.ireturn, 1) := by decide +kernel
theorem d_X_lay_0 : decode M_X_lay.2.1 0 = .ok (.aload_n 0, 1) := by decide +kernel
theorem d_X_lay_1 : decode M_X_lay.2.1 1 = .ok (.getfield 37, 3) := by decide +kernel
theorem d_X_lay_4 : decode M_X_lay.2.1 4 = .ok (.aload_n 0, 1) := by decide +kernel
theorem d_X_lay_5 : decode M_X_lay.2.1 5 = .ok (.getfield 10, 3) := by decide +kernel
theorem d_X_lay_8 : decode M_X_lay.2.1 8 = .ok (.invokevirtual 250, 3) := by decide +kernel
theorem d_X_lay_11 : decode M_X_lay.2.1 11 = .ok (.ireturn, 1) := by decide +kernel
theorem d_X_laid_0 : decode M_X_laid.2.1 0 = .ok (.iload_n 1, 1) := by decide +kernel
theorem d_X_laid_1 : decode M_X_laid.2.1 1 = .ok (.invokestatic 223, 3) := by decide +kernel
theorem d_X_laid_4 : decode M_X_laid.2.1 4 = .ok (.ifCond .eq 15, 3) := by decide +kernel
theorem d_X_laid_7 : decode M_X_laid.2.1 7 = .ok (.aload_n 0, 1) := by decide +kernel
theorem d_X_laid_8 : decode M_X_laid.2.1 8 = .ok (.getfield 37, 3) := by decide +kernel
theorem d_X_laid_11 : decode M_X_laid.2.1 11 = .ok (.iload_n 1, 1) := by decide +kernel
theorem d_X_laid_12 : decode M_X_laid.2.1 12 = .ok (.iload_n 2, 1) := by decide +kernel
theorem d_X_laid_13 : decode M_X_laid.2.1 13 = .ok (.invokevirtual 253, 3) := by decide +kernel
theorem d_X_laid_16 : decode M_X_laid.2.1 16 = .ok (.goto 4, 3) := by decide +kernel
theorem d_X_laid_19 : decode M_X_laid.2.1 19 = .ok (.iconst (-1), 1) := by decide +kernel
theorem d_X_laid_20 : decode M_X_laid.2.1 20 = .ok (.ireturn, 1) := by decide +kernel
theorem d_X_judge_0 : decode M_X_judge.2.1 0 = .ok (.iload_n 1, 1) := by decide +kernel
theorem d_X_judge_1 : decode M_X_judge.2.1 1 = .ok (.invokestatic 200, 3) := by decide +kernel
theorem d_X_judge_4 : decode M_X_judge.2.1 4 = .ok (.ifCond .ne 5, 3) := by decide +kernel
theorem d_X_judge_7 : decode M_X_judge.2.1 7 = .ok (.iconst (-1), 1) := by decide +kernel
theorem d_X_judge_8 : decode M_X_judge.2.1 8 = .ok (.ireturn, 1) := by decide +kernel
theorem d_X_judge_9 : decode M_X_judge.2.1 9 = .ok (.aload_n 0, 1) := by decide +kernel
theorem d_X_judge_10 : decode M_X_judge.2.1 10 = .ok (.iload_n 1, 1) := by decide +kernel
theorem d_X_judge_11 : decode M_X_judge.2.1 11 = .ok (.iconst 2, 1) := by decide +kernel
theorem d_X_judge_12 : decode M_X_judge.2.1 12 = .ok (.invokevirtual 203, 3) := by decide +kernel
theorem d_X_judge_15 : decode M_X_judge.2.1 15 = .ok (.istore_n 2, 1) := by decide +kernel
theorem d_X_judge_16 : decode M_X_judge.2.1 16 = .ok (.iload_n 2, 1) := by decide +kernel
theorem d_X_judge_17 : decode M_X_judge.2.1 17 = .ok (.ifCond .eq 5, 3) := by decide +kernel
theorem d_X_judge_20 : decode M_X_judge.2.1 20 = .ok (.iload_n 2, 1) := by decide +kernel
theorem d_X_judge_21 : decode M_X_judge.2.1 21 = .ok (.ireturn, 1) := by decide +kernel
theorem d_X_judge_22 : decode M_X_judge.2.1 22 = .ok (.aload_n 0, 1) := by decide +kernel
theorem d_X_judge_23 : decode M_X_judge.2.1 23 = .ok (.aload_n 0, 1) := by decide +kernel
theorem d_X_judge_24 : decode M_X_judge.2.1 24 = .ok (.getfield 37, 3) := by decide +kernel
theorem d_X_judge_27 : decode M_X_judge.2.1 27 = .ok (.aload_n 0, 1) := by decide +kernel
theorem d_X_judge_28 : decode M_X_judge.2.1 28 = .ok (.getfield 66, 3) := by decide +kernel
theorem d_X_judge_31 : decode M_X_judge.2.1 31 = .ok (.iload_n 1, 1) := by decide +kernel
theorem d_X_judge_32 : decode M_X_judge.2.1 32 = .ok (.aaload, 1) := by decide +kernel
theorem d_X_judge_33 : decode M_X_judge.2.1 33 = .ok (.aload_n 0, 1) := by decide +kernel
theorem d_X_judge_34 : decode M_X_judge.2.1 34 = .ok (.getfield 10, 3) := by decide +kernel
theorem d_X_judge_37 : decode M_X_judge.2.1 37 = .ok (.invokevirtual 256, 3) := by decide +kernel
theorem d_X_judge_40 : decode M_X_judge.2.1 40 = .ok (.invokevirtual 259, 3) := by decide +kernel
theorem d_X_judge_43 : decode M_X_judge.2.1 43 = .ok (.ireturn, 1) := by decide +kernel
theorem d_X_off_0 : decode M_X_off.2.1 0 = .ok (.aload_n 0, 1) := by decide +kernel
theorem d_X_off_1 : decode M_X_off.2.1 1 = .ok (.getfield 10, 3) := by decide +kernel
theorem d_X_off_4 : decode M_X_off.2.1 4 = .ok (.iload_n 1, 1) := by decide +kernel
theorem d_X_off_5 : decode M_X_off.2.1 5 = .ok (.invokevirtual 93, 3) := by decide +kernel
theorem d_X_off_8 : decode M_X_off.2.1 8 = .ok (.ifCond .eq 12, 3) := by decide +kernel
theorem d_X_off_11 : decode M_X_off.2.1 11 = .ok (.iload_n 2, 1) := by decide +kernel
theorem d_X_off_12 : decode M_X_off.2.1 12 = .ok (.iconst 0, 1) := by decide +kernel
theorem d_X_off_13 : decode M_X_off.2.1 13 = .ok (.iconst 5, 1) := by decide +kernel
theorem d_X_off_14 : decode M_X_off.2.1 14 = .ok (.invokestatic 75, 3) := by decide +kernel
theorem d_X_off_17 : decode M_X_off.2.1 17 = .ok (.ifCond .ne 5, 3) := by decide +kernel
theorem d_X_off_20 : decode M_X_off.2.1 20 = .ok (.iconst (-1), 1) := by decide +kernel
theorem d_X_off_21 : decode M_X_off.2.1 21 = .ok (.ireturn, 1) := by decide +kernel
theorem d_X_off_22 : decode M_X_off.2.1 22 = .ok (.aload_n 0, 1) := by decide +kernel
theorem d_X_off_23 : decode M_X_off.2.1 23 = .ok (.getfield 44, 3) := by decide +kernel
theorem d_X_off_26 : decode M_X_off.2.1 26 = .ok (.getfield 262, 3) := by decide +kernel
theorem d_X_off_29 : decode M_X_off.2.1 29 = .ok (.iload_n 2, 1) := by decide +kernel
theorem d_X_off_30 : decode M_X_off.2.1 30 = .ok (.dup2, 1) := by decide +kernel
theorem d_X_off_31 : decode M_X_off.2.1 31 = .ok (.iaload, 1) := by decide +kernel
theorem d_X_off_32 : decode M_X_off.2.1 32 = .ok (.iconst 1, 1) := by decide +kernel
theorem d_X_off_33 : decode M_X_off.2.1 33 = .ok (.iload_n 1, 1) := by decide +kernel
theorem d_X_off_34 : decode M_X_off.2.1 34 = .ok (.ishl, 1) := by decide +kernel
theorem d_X_off_35 : decode M_X_off.2.1 35 = .ok (.ixor, 1) := by decide +kernel
theorem d_X_off_36 : decode M_X_off.2.1 36 = .ok (.iastore, 1) := by decide +kernel
theorem d_X_off_37 : decode M_X_off.2.1 37 = .ok (.aload_n 0, 1) := by decide +kernel
theorem d_X_off_38 : decode M_X_off.2.1 38 = .ok (.getfield 44, 3) := by decide +kernel
theorem d_X_off_41 : decode M_X_off.2.1 41 = .ok (.getfield 262, 3) := by decide +kernel
theorem d_X_off_44 : decode M_X_off.2.1 44 = .ok (.iload_n 2, 1) := by decide +kernel
theorem d_X_off_45 : decode M_X_off.2.1 45 = .ok (.iaload, 1) := by decide +kernel
theorem d_X_off_46 : decode M_X_off.2.1 46 = .ok (.iload_n 1, 1) := by decide +kernel
theorem d_X_off_47 : decode M_X_off.2.1 47 = .ok (.ishr, 1) := by decide +kernel
theorem d_X_off_48 : decode M_X_off.2.1 48 = .ok (.iconst 1, 1) := by decide +kernel
theorem d_X_off_49 : decode M_X_off.2.1 49 = .ok (.iand, 1) := by decide +kernel
theorem d_X_off_50 : decode M_X_off.2.1 50 = .ok (.ireturn, 1) := by decide +kernel
theorem d_X_block_0 : decode M_X_block.2.1 0 = .ok (.iload_n 1, 1) := by decide +kernel
theorem d_X_block_1 : decode M_X_block.2.1 1 = .ok (.invokestatic 104, 3) := by decide +kernel
theorem d_X_block_4 : decode M_X_block.2.1 4 = .ok (.ifCond .eq 46, 3) := by decide +kernel
theorem d_X_block_7 : decode M_X_block.2.1 7 = .ok (.iload_n 2, 1) := by decide +kernel
theorem d_X_block_8 : decode M_X_block.2.1 8 = .ok (.iload_n 1, 1) := by decide +kernel
theorem d_X_block_9 : decode M_X_block.2.1 9 = .ok (.bipush 26, 2) := by decide +kernel
theorem d_X_block_11 : decode M_X_block.2.1 11 = .ok (.invokestatic 75, 3) := by decide +kernel
theorem d_X_block_14 : decode M_X_block.2.1 14 = .ok (.ifCond .eq 36, 3) := by decide +kernel
theorem d_X_block_17 : decode M_X_block.2.1 17 = .ok (.iload_n 3, 1) := by decide +kernel
theorem d_X_block_18 : decode M_X_block.2.1 18 = .ok (.iconst 1, 1) := by decide +kernel
theorem d_X_block_19 : decode M_X_block.2.1 19 = .ok (.bipush 6, 2) := by decide +kernel
theorem d_X_block_21 : decode M_X_block.2.1 21 = .ok (.invokestatic 75, 3) := by decide +kernel
theorem d_X_block_24 : decode M_X_block.2.1 24 = .ok (.ifCond .eq 26, 3) := by decide +kernel
theorem d_X_block_27 : decode M_X_block.2.1 27 = .ok (.iload 4, 2) := by decide +kernel
theorem d_X_block_29 : decode M_X_block.2.1 29 = .ok (.iconst 1, 1) := by decide +kernel
theorem d_X_block_30 : decode M_X_block.2.1 30 = .ok (.sipush 200, 3) := by decide +kernel
theorem d_X_block_33 : decode M_X_block.2.1 33 = .ok (.invokestatic 75, 3) := by decide +kernel
theorem d_X_block_36 : decode M_X_block.2.1 36 = .ok (.ifCond .eq 14, 3) := by decide +kernel
theorem d_X_block_39 : decode M_X_block.2.1 39 = .ok (.iload 5, 2) := by decide +kernel
theorem d_X_block_41 : decode M_X_block.2.1 41 = .ok (.iconst 1, 1) := by decide +kernel
theorem d_X_block_42 : decode M_X_block.2.1 42 = .ok (.bipush 8, 2) := by decide +kernel
theorem d_X_block_44 : decode M_X_block.2.1 44 = .ok (.invokestatic 75, 3) := by decide +kernel
theorem d_X_block_47 : decode M_X_block.2.1 47 = .ok (.ifCond .ne 5, 3) := by decide +kernel
theorem d_X_block_50 : decode M_X_block.2.1 50 = .ok (.iconst (-1), 1) := by decide +kernel
theorem d_X_block_51 : decode M_X_block.2.1 51 = .ok (.ireturn, 1) := by decide +kernel
theorem d_X_block_52 : decode M_X_block.2.1 52 = .ok (.aload_n 0, 1) := by decide +kernel
theorem d_X_block_53 : decode M_X_block.2.1 53 = .ok (.getfield 10, 3) := by decide +kernel
theorem d_X_block_56 : decode M_X_block.2.1 56 = .ok (.iload_n 1, 1) := by decide +kernel
theorem d_X_block_57 : decode M_X_block.2.1 57 = .ok (.iload_n 2, 1) := by decide +kernel
theorem d_X_block_58 : decode M_X_block.2.1 58 = .ok (.invokevirtual 265, 3) := by decide +kernel
theorem d_X_block_61 : decode M_X_block.2.1 61 = .ok (.istore 6, 2) := by decide +kernel
theorem d_X_block_63 : decode M_X_block.2.1 63 = .ok (.iload 6, 2) := by decide +kernel
theorem d_X_block_65 : decode M_X_block.2.1 65 = .ok (.bipush 8, 2) := by decide +kernel
theorem d_X_block_67 : decode M_X_block.2.1 67 = .ok (.if_icmp .le 6, 3) := by decide +kernel
theorem d_X_block_70 : decode M_X_block.2.1 70 = .ok (.bipush (-4), 2) := by decide +kernel
theorem d_X_block_72 : decode M_X_block.2.1 72 = .ok (.ireturn, 1) := by decide +kernel
theorem d_X_block_73 : decode M_X_block.2.1 73 = .ok (.aload_n 0, 1) := by decide +kernel
theorem d_X_block_74 : decode M_X_block.2.1 74 = .ok (.getfield 44, 3) := by decide +kernel
theorem d_X_block_77 : decode M_X_block.2.1 77 = .ok (.iload_n 1, 1) := by decide +kernel
theorem d_X_block_78 : decode M_X_block.2.1 78 = .ok (.iload_n 2, 1) := by decide +kernel
theorem d_X_block_79 : decode M_X_block.2.1 79 = .ok (.iload_n 3, 1) := by decide +kernel
theorem d_X_block_80 : decode M_X_block.2.1 80 = .ok (.iload 4, 2) := by decide +kernel
theorem d_X_block_82 : decode M_X_block.2.1 82 = .ok (.iload 5, 2) := by decide +kernel
theorem d_X_block_84 : decode M_X_block.2.1 84 = .ok (.invokevirtual 268, 3) := by decide +kernel
theorem d_X_block_87 : decode M_X_block.2.1 87 = .ok (.iload 6, 2) := by decide +kernel
theorem d_X_block_89 : decode M_X_block.2.1 89 = .ok (.ireturn, 1) := by decide +kernel
theorem d_X_plan_0 : decode M_X_plan.2.1 0 = .ok (.aload_n 0, 1) := by decide +kernel
theorem d_X_plan_1 : decode M_X_plan.2.1 1 = .ok (.invokevirtual 272, 3) := by decide +kernel
theorem d_X_plan_4 : decode M_X_plan.2.1 4 = .ok (.istore_n 1, 1) := by decide +kernel
theorem d_X_plan_5 : decode M_X_plan.2.1 5 = .ok (.iload_n 1, 1) := by decide +kernel
theorem d_X_plan_6 : decode M_X_plan.2.1 6 = .ok (.ifCond .eq 5, 3) := by decide +kernel
theorem d_X_plan_9 : decode M_X_plan.2.1 9 = .ok (.iload_n 1, 1) := by decide +kernel
theorem d_X_plan_10 : decode M_X_plan.2.1 10 = .ok (.ireturn, 1) := by decide +kernel
theorem d_X_plan_11 : decode M_X_plan.2.1 11 = .ok (.aload_n 0, 1) := by decide +kernel
theorem d_X_plan_12 : decode M_X_plan.2.1 12 = .ok (.getfield 44, 3) := by decide +kernel
theorem d_X_plan_15 : decode M_X_plan.2.1 15 = .ok (.aload_n 0, 1) := by decide +kernel
theorem d_X_plan_16 : decode M_X_plan.2.1 16 = .ok (.getfield 10, 3) := by decide +kernel
theorem d_X_plan_19 : decode M_X_plan.2.1 19 = .ok (.aload_n 0, 1) := by decide +kernel
theorem d_X_plan_20 : decode M_X_plan.2.1 20 = .ok (.getfield 28, 3) := by decide +kernel
theorem d_X_plan_23 : decode M_X_plan.2.1 23 = .ok (.invokevirtual 276, 3) := by decide +kernel
theorem d_X_plan_26 : decode M_X_plan.2.1 26 = .ok (.aload_n 0, 1) := by decide +kernel
theorem d_X_plan_27 : decode M_X_plan.2.1 27 = .ok (.getfield 53, 3) := by decide +kernel
theorem d_X_plan_30 : decode M_X_plan.2.1 30 = .ok (.aload_n 0, 1) := by decide +kernel
theorem d_X_plan_31 : decode M_X_plan.2.1 31 = .ok (.getfield 10, 3) := by decide +kernel
theorem d_X_plan_34 : decode M_X_plan.2.1 34 = .ok (.invokevirtual 280, 3) := by decide +kernel
theorem d_X_plan_37 : decode M_X_plan.2.1 37 = .ok (.ireturn, 1) := by decide +kernel
theorem d_X_refusalOfBlock_0 : decode M_X_refusalOfBlock.2.1 0 = .ok (.aload_n 0, 1) := by decide +kernel
theorem d_X_refusalOfBlock_1 : decode M_X_refusalOfBlock.2.1 1 = .ok (.getfield 44, 3) := by decide +kernel
theorem d_X_refusalOfBlock_4 : decode M_X_refusalOfBlock.2.1 4 = .ok (.invokevirtual 377, 3) := by decide +kernel
theorem d_X_refusalOfBlock_7 : decode M_X_refusalOfBlock.2.1 7 = .ok (.ifCond .ne 5, 3) := by decide +kernel
theorem d_X_refusalOfBlock_10 : decode M_X_refusalOfBlock.2.1 10 = .ok (.iconst (-1), 1) := by decide +kernel
theorem d_X_refusalOfBlock_11 : decode M_X_refusalOfBlock.2.1 11 = .ok (.ireturn, 1) := by decide +kernel
theorem d_X_refusalOfBlock_12 : decode M_X_refusalOfBlock.2.1 12 = .ok (.aload_n 0, 1) := by decide +kernel
theorem d_X_refusalOfBlock_13 : decode M_X_refusalOfBlock.2.1 13 = .ok (.getfield 10, 3) := by decide +kernel
theorem d_X_refusalOfBlock_16 : decode M_X_refusalOfBlock.2.1 16 = .ok (.aload_n 0, 1) := by decide +kernel
theorem d_X_refusalOfBlock_17 : decode M_X_refusalOfBlock.2.1 17 = .ok (.getfield 44, 3) := by decide +kernel
theorem d_X_refusalOfBlock_20 : decode M_X_refusalOfBlock.2.1 20 = .ok (.getfield 380, 3) := by decide +kernel
theorem d_X_refusalOfBlock_23 : decode M_X_refusalOfBlock.2.1 23 = .ok (.aload_n 0, 1) := by decide +kernel
theorem d_X_refusalOfBlock_24 : decode M_X_refusalOfBlock.2.1 24 = .ok (.getfield 44, 3) := by decide +kernel
theorem d_X_refusalOfBlock_27 : decode M_X_refusalOfBlock.2.1 27 = .ok (.getfield 383, 3) := by decide +kernel
theorem d_X_refusalOfBlock_30 : decode M_X_refusalOfBlock.2.1 30 = .ok (.invokevirtual 265, 3) := by decide +kernel
theorem d_X_refusalOfBlock_33 : decode M_X_refusalOfBlock.2.1 33 = .ok (.bipush 8, 2) := by decide +kernel
theorem d_X_refusalOfBlock_35 : decode M_X_refusalOfBlock.2.1 35 = .ok (.if_icmp .le 8, 3) := by decide +kernel
theorem d_X_refusalOfBlock_38 : decode M_X_refusalOfBlock.2.1 38 = .ok (.bipush (-4), 2) := by decide +kernel
theorem d_X_refusalOfBlock_40 : decode M_X_refusalOfBlock.2.1 40 = .ok (.goto 4, 3) := by decide +kernel
theorem d_X_refusalOfBlock_43 : decode M_X_refusalOfBlock.2.1 43 = .ok (.iconst 0, 1) := by decide +kernel
theorem d_X_refusalOfBlock_44 : decode M_X_refusalOfBlock.2.1 44 = .ok (.ireturn, 1) := by decide +kernel
theorem d_X_taped_0 : decode M_X_taped.2.1 0 = .ok (.iload_n 1, 1) := by decide +kernel
theorem d_X_taped_1 : decode M_X_taped.2.1 1 = .ok (.iconst 0, 1) := by decide +kernel
theorem d_X_taped_2 : decode M_X_taped.2.1 2 = .ok (.aload_n 0, 1) := by decide +kernel
theorem d_X_taped_3 : decode M_X_taped.2.1 3 = .ok (.getfield 53, 3) := by decide +kernel
theorem d_X_taped_6 : decode M_X_taped.2.1 6 = .ok (.getfield 281, 3) := by decide +kernel
theorem d_X_taped_9 : decode M_X_taped.2.1 9 = .ok (.iconst 1, 1) := by decide +kernel
theorem d_X_taped_10 : decode M_X_taped.2.1 10 = .ok (.isub, 1) := by decide +kernel
theorem d_X_taped_11 : decode M_X_taped.2.1 11 = .ok (.invokestatic 75, 3) := by decide +kernel
theorem d_X_taped_14 : decode M_X_taped.2.1 14 = .ok (.ifCond .eq 12, 3) := by decide +kernel
theorem d_X_taped_17 : decode M_X_taped.2.1 17 = .ok (.iload_n 2, 1) := by decide +kernel
theorem d_X_taped_18 : decode M_X_taped.2.1 18 = .ok (.iconst 0, 1) := by decide +kernel
theorem d_X_taped_19 : decode M_X_taped.2.1 19 = .ok (.iconst 1, 1) := by decide +kernel
theorem d_X_taped_20 : decode M_X_taped.2.1 20 = .ok (.invokestatic 75, 3) := by decide +kernel
theorem d_X_taped_23 : decode M_X_taped.2.1 23 = .ok (.ifCond .ne 5, 3) := by decide +kernel
theorem d_X_taped_26 : decode M_X_taped.2.1 26 = .ok (.iconst (-1), 1) := by decide +kernel
theorem d_X_taped_27 : decode M_X_taped.2.1 27 = .ok (.ireturn, 1) := by decide +kernel
theorem d_X_taped_28 : decode M_X_taped.2.1 28 = .ok (.iload_n 2, 1) := by decide +kernel
theorem d_X_taped_29 : decode M_X_taped.2.1 29 = .ok (.ifCond .ne 15, 3) := by decide +kernel
theorem d_X_taped_32 : decode M_X_taped.2.1 32 = .ok (.aload_n 0, 1) := by decide +kernel
theorem d_X_taped_33 : decode M_X_taped.2.1 33 = .ok (.getfield 53, 3) := by decide +kernel
theorem d_X_taped_36 : decode M_X_taped.2.1 36 = .ok (.getfield 284, 3) := by decide +kernel
theorem d_X_taped_39 : decode M_X_taped.2.1 39 = .ok (.iload_n 1, 1) := by decide +kernel
theorem d_X_taped_40 : decode M_X_taped.2.1 40 = .ok (.iaload, 1) := by decide +kernel
theorem d_X_taped_41 : decode M_X_taped.2.1 41 = .ok (.goto 12, 3) := by decide +kernel
theorem d_X_taped_44 : decode M_X_taped.2.1 44 = .ok (.aload_n 0, 1) := by decide +kernel
theorem d_X_taped_45 : decode M_X_taped.2.1 45 = .ok (.getfield 53, 3) := by decide +kernel
theorem d_X_taped_48 : decode M_X_taped.2.1 48 = .ok (.getfield 287, 3) := by decide +kernel
theorem d_X_taped_51 : decode M_X_taped.2.1 51 = .ok (.iload_n 1, 1) := by decide +kernel
theorem d_X_taped_52 : decode M_X_taped.2.1 52 = .ok (.iaload, 1) := by decide +kernel
theorem d_X_taped_53 : decode M_X_taped.2.1 53 = .ok (.ireturn, 1) := by decide +kernel
theorem d_X_proof_0 : decode M_X_proof.2.1 0 = .ok (.iload_n 1, 1) := by decide +kernel
theorem d_X_proof_1 : decode M_X_proof.2.1 1 = .ok (.invokestatic 200, 3) := by decide +kernel
theorem d_X_proof_4 : decode M_X_proof.2.1 4 = .ok (.ifCond .ne 5, 3) := by decide +kernel
theorem d_X_proof_7 : decode M_X_proof.2.1 7 = .ok (.iconst (-1), 1) := by decide +kernel
theorem d_X_proof_8 : decode M_X_proof.2.1 8 = .ok (.ireturn, 1) := by decide +kernel
theorem d_X_proof_9 : decode M_X_proof.2.1 9 = .ok (.aload_n 0, 1) := by decide +kernel
theorem d_X_proof_10 : decode M_X_proof.2.1 10 = .ok (.invokevirtual 272, 3) := by decide +kernel
theorem d_X_proof_13 : decode M_X_proof.2.1 13 = .ok (.istore_n 2, 1) := by decide +kernel
theorem d_X_proof_14 : decode M_X_proof.2.1 14 = .ok (.iload_n 2, 1) := by decide +kernel
theorem d_X_proof_15 : decode M_X_proof.2.1 15 = .ok (.ifCond .ne 10, 3) := by decide +kernel
theorem d_X_proof_18 : decode M_X_proof.2.1 18 = .ok (.aload_n 0, 1) := by decide +kernel
theorem d_X_proof_19 : decode M_X_proof.2.1 19 = .ok (.iload_n 1, 1) := by decide +kernel
theorem d_X_proof_20 : decode M_X_proof.2.1 20 = .ok (.iconst 1, 1) := by decide +kernel
theorem d_X_proof_21 : decode M_X_proof.2.1 21 = .ok (.invokevirtual 203, 3) := by decide +kernel
theorem d_X_proof_24 : decode M_X_proof.2.1 24 = .ok (.istore_n 2, 1) := by decide +kernel
theorem d_X_proof_25 : decode M_X_proof.2.1 25 = .ok (.iload_n 2, 1) := by decide +kernel
theorem d_X_proof_26 : decode M_X_proof.2.1 26 = .ok (.ifCond .eq 5, 3) := by decide +kernel
theorem d_X_proof_29 : decode M_X_proof.2.1 29 = .ok (.iload_n 2, 1) := by decide +kernel
theorem d_X_proof_30 : decode M_X_proof.2.1 30 = .ok (.ireturn, 1) := by decide +kernel
theorem d_X_proof_31 : decode M_X_proof.2.1 31 = .ok (.aload_n 0, 1) := by decide +kernel
theorem d_X_proof_32 : decode M_X_proof.2.1 32 = .ok (.getfield 44, 3) := by decide +kernel
theorem d_X_proof_35 : decode M_X_proof.2.1 35 = .ok (.aload_n 0, 1) := by decide +kernel
theorem d_X_proof_36 : decode M_X_proof.2.1 36 = .ok (.getfield 10, 3) := by decide +kernel
theorem d_X_proof_39 : decode M_X_proof.2.1 39 = .ok (.aload_n 0, 1) := by decide +kernel
theorem d_X_proof_40 : decode M_X_proof.2.1 40 = .ok (.getfield 28, 3) := by decide +kernel
theorem d_X_proof_43 : decode M_X_proof.2.1 43 = .ok (.invokevirtual 276, 3) := by decide +kernel
theorem d_X_proof_46 : decode M_X_proof.2.1 46 = .ok (.aload_n 0, 1) := by decide +kernel
theorem d_X_proof_47 : decode M_X_proof.2.1 47 = .ok (.aload_n 0, 1) := by decide +kernel
theorem d_X_proof_48 : decode M_X_proof.2.1 48 = .ok (.getfield 44, 3) := by decide +kernel
theorem d_X_proof_51 : decode M_X_proof.2.1 51 = .ok (.aload_n 0, 1) := by decide +kernel
theorem d_X_proof_52 : decode M_X_proof.2.1 52 = .ok (.getfield 66, 3) := by decide +kernel
theorem d_X_proof_55 : decode M_X_proof.2.1 55 = .ok (.iload_n 1, 1) := by decide +kernel
theorem d_X_proof_56 : decode M_X_proof.2.1 56 = .ok (.aaload, 1) := by decide +kernel
theorem d_X_proof_57 : decode M_X_proof.2.1 57 = .ok (.aload_n 0, 1) := by decide +kernel
theorem d_X_proof_58 : decode M_X_proof.2.1 58 = .ok (.getfield 10, 3) := by decide +kernel
theorem d_X_proof_61 : decode M_X_proof.2.1 61 = .ok (.invokevirtual 290, 3) := by decide +kernel
theorem d_X_proof_64 : decode M_X_proof.2.1 64 = .ok (.invokevirtual 259, 3) := by decide +kernel
theorem d_X_proof_67 : decode M_X_proof.2.1 67 = .ok (.ireturn, 1) := by decide +kernel
theorem d_X_cut_0 : decode M_X_cut.2.1 0 = .ok (.iload_n 1, 1) := by decide +kernel
theorem d_X_cut_1 : decode M_X_cut.2.1 1 = .ok (.invokestatic 104, 3) := by decide +kernel
theorem d_X_cut_4 : decode M_X_cut.2.1 4 = .ok (.ifCond .eq 18, 3) := by decide +kernel
theorem d_X_cut_7 : decode M_X_cut.2.1 7 = .ok (.aload_n 0, 1) := by decide +kernel
theorem d_X_cut_8 : decode M_X_cut.2.1 8 = .ok (.getfield 60, 3) := by decide +kernel
theorem d_X_cut_11 : decode M_X_cut.2.1 11 = .ok (.aload_n 0, 1) := by decide +kernel
theorem d_X_cut_12 : decode M_X_cut.2.1 12 = .ok (.getfield 10, 3) := by decide +kernel
theorem d_X_cut_15 : decode M_X_cut.2.1 15 = .ok (.iload_n 1, 1) := by decide +kernel
theorem d_X_cut_16 : decode M_X_cut.2.1 16 = .ok (.invokevirtual 291, 3) := by decide +kernel
theorem d_X_cut_19 : decode M_X_cut.2.1 19 = .ok (.goto 4, 3) := by decide +kernel
theorem d_X_cut_22 : decode M_X_cut.2.1 22 = .ok (.iconst (-1), 1) := by decide +kernel
theorem d_X_cut_23 : decode M_X_cut.2.1 23 = .ok (.ireturn, 1) := by decide +kernel
theorem d_X_part_0 : decode M_X_part.2.1 0 = .ok (.iload_n 1, 1) := by decide +kernel
theorem d_X_part_1 : decode M_X_part.2.1 1 = .ok (.invokestatic 104, 3) := by decide +kernel
theorem d_X_part_4 : decode M_X_part.2.1 4 = .ok (.ifCond .eq 12, 3) := by decide +kernel
theorem d_X_part_7 : decode M_X_part.2.1 7 = .ok (.iload_n 2, 1) := by decide +kernel
theorem d_X_part_8 : decode M_X_part.2.1 8 = .ok (.iconst 0, 1) := by decide +kernel
theorem d_X_part_9 : decode M_X_part.2.1 9 = .ok (.iconst 4, 1) := by decide +kernel
theorem d_X_part_10 : decode M_X_part.2.1 10 = .ok (.invokestatic 75, 3) := by decide +kernel
theorem d_X_part_13 : decode M_X_part.2.1 13 = .ok (.ifCond .ne 5, 3) := by decide +kernel
theorem d_X_part_16 : decode M_X_part.2.1 16 = .ok (.iconst (-1), 1) := by decide +kernel
theorem d_X_part_17 : decode M_X_part.2.1 17 = .ok (.ireturn, 1) := by decide +kernel
theorem d_X_part_18 : decode M_X_part.2.1 18 = .ok (.aload_n 0, 1) := by decide +kernel
theorem d_X_part_19 : decode M_X_part.2.1 19 = .ok (.getfield 60, 3) := by decide +kernel
theorem d_X_part_22 : decode M_X_part.2.1 22 = .ok (.aload_n 0, 1) := by decide +kernel
theorem d_X_part_23 : decode M_X_part.2.1 23 = .ok (.getfield 10, 3) := by decide +kernel
theorem d_X_part_26 : decode M_X_part.2.1 26 = .ok (.iload_n 1, 1) := by decide +kernel
theorem d_X_part_27 : decode M_X_part.2.1 27 = .ok (.invokevirtual 291, 3) := by decide +kernel
theorem d_X_part_30 : decode M_X_part.2.1 30 = .ok (.istore_n 3, 1) := by decide +kernel
theorem d_X_part_31 : decode M_X_part.2.1 31 = .ok (.iload_n 3, 1) := by decide +kernel
theorem d_X_part_32 : decode M_X_part.2.1 32 = .ok (.bipush (-3), 2) := by decide +kernel
theorem d_X_part_34 : decode M_X_part.2.1 34 = .ok (.if_icmp .ne 8, 3) := by decide +kernel
theorem d_X_part_37 : decode M_X_part.2.1 37 = .ok (.bipush (-3), 2) := by decide +kernel
theorem d_X_part_39 : decode M_X_part.2.1 39 = .ok (.goto 12, 3) := by decide +kernel
theorem d_X_part_42 : decode M_X_part.2.1 42 = .ok (.aload_n 0, 1) := by decide +kernel
theorem d_X_part_43 : decode M_X_part.2.1 43 = .ok (.getfield 60, 3) := by decide +kernel
theorem d_X_part_46 : decode M_X_part.2.1 46 = .ok (.iload_n 2, 1) := by decide +kernel
theorem d_X_part_47 : decode M_X_part.2.1 47 = .ok (.iload_n 3, 1) := by decide +kernel
theorem d_X_part_48 : decode M_X_part.2.1 48 = .ok (.invokevirtual 295, 3) := by decide +kernel
theorem d_X_part_51 : decode M_X_part.2.1 51 = .ok (.ireturn, 1) := by decide +kernel
theorem d_X_leave_0 : decode M_X_leave.2.1 0 = .ok (.aload_n 0, 1) := by decide +kernel
theorem d_X_leave_1 : decode M_X_leave.2.1 1 = .ok (.getfield 10, 3) := by decide +kernel
theorem d_X_leave_4 : decode M_X_leave.2.1 4 = .ok (.iload_n 1, 1) := by decide +kernel
theorem d_X_leave_5 : decode M_X_leave.2.1 5 = .ok (.invokevirtual 93, 3) := by decide +kernel
theorem d_X_leave_8 : decode M_X_leave.2.1 8 = .ok (.ifCond .eq 26, 3) := by decide +kernel
theorem d_X_leave_11 : decode M_X_leave.2.1 11 = .ok (.iload_n 2, 1) := by decide +kernel
theorem d_X_leave_12 : decode M_X_leave.2.1 12 = .ok (.invokestatic 104, 3) := by decide +kernel
theorem d_X_leave_15 : decode M_X_leave.2.1 15 = .ok (.ifCond .eq 19, 3) := by decide +kernel
theorem d_X_leave_18 : decode M_X_leave.2.1 18 = .ok (.aload_n 0, 1) := by decide +kernel
theorem d_X_leave_19 : decode M_X_leave.2.1 19 = .ok (.getfield 28, 3) := by decide +kernel
theorem d_X_leave_22 : decode M_X_leave.2.1 22 = .ok (.aload_n 0, 1) := by decide +kernel
theorem d_X_leave_23 : decode M_X_leave.2.1 23 = .ok (.getfield 10, 3) := by decide +kernel
theorem d_X_leave_26 : decode M_X_leave.2.1 26 = .ok (.iload_n 1, 1) := by decide +kernel
theorem d_X_leave_27 : decode M_X_leave.2.1 27 = .ok (.iload_n 2, 1) := by decide +kernel
theorem d_X_leave_28 : decode M_X_leave.2.1 28 = .ok (.invokevirtual 298, 3) := by decide +kernel
theorem d_X_leave_31 : decode M_X_leave.2.1 31 = .ok (.goto 4, 3) := by decide +kernel
theorem d_X_leave_34 : decode M_X_leave.2.1 34 = .ok (.iconst (-1), 1) := by decide +kernel
theorem d_X_leave_35 : decode M_X_leave.2.1 35 = .ok (.ireturn, 1) := by decide +kernel
theorem d_X_tape_0 : decode M_X_tape.2.1 0 = .ok (.iload_n 1, 1) := by decide +kernel
theorem d_X_tape_1 : decode M_X_tape.2.1 1 = .ok (.invokestatic 200, 3) := by decide +kernel
theorem d_X_tape_4 : decode M_X_tape.2.1 4 = .ok (.ifCond .eq 18, 3) := by decide +kernel
theorem d_X_tape_7 : decode M_X_tape.2.1 7 = .ok (.iload_n 2, 1) := by decide +kernel
theorem d_X_tape_8 : decode M_X_tape.2.1 8 = .ok (.iconst 1, 1) := by decide +kernel
theorem d_X_tape_9 : decode M_X_tape.2.1 9 = .ok (.iconst 4, 1) := by decide +kernel
theorem d_X_tape_10 : decode M_X_tape.2.1 10 = .ok (.invokestatic 75, 3) := by decide +kernel
theorem d_X_tape_13 : decode M_X_tape.2.1 13 = .ok (.ifCond .eq 9, 3) := by decide +kernel
theorem d_X_tape_16 : decode M_X_tape.2.1 16 = .ok (.iload_n 3, 1) := by decide +kernel
theorem d_X_tape_17 : decode M_X_tape.2.1 17 = .ok (.bipush 64, 2) := by decide +kernel
theorem d_X_tape_19 : decode M_X_tape.2.1 19 = .ok (.if_icmp .le 5, 3) := by decide +kernel
theorem d_X_tape_22 : decode M_X_tape.2.1 22 = .ok (.iconst (-1), 1) := by decide +kernel
theorem d_X_tape_23 : decode M_X_tape.2.1 23 = .ok (.ireturn, 1) := by decide +kernel
theorem d_X_tape_24 : decode M_X_tape.2.1 24 = .ok (.iload_n 3, 1) := by decide +kernel
theorem d_X_tape_25 : decode M_X_tape.2.1 25 = .ok (.ifCond .ge 10, 3) := by decide +kernel
theorem d_X_tape_28 : decode M_X_tape.2.1 28 = .ok (.aload_n 0, 1) := by decide +kernel
theorem d_X_tape_29 : decode M_X_tape.2.1 29 = .ok (.bipush (-14), 2) := by decide +kernel
theorem d_X_tape_31 : decode M_X_tape.2.1 31 = .ok (.invokevirtual 259, 3) := by decide +kernel
theorem d_X_tape_34 : decode M_X_tape.2.1 34 = .ok (.ireturn, 1) := by decide +kernel
theorem d_X_tape_35 : decode M_X_tape.2.1 35 = .ok (.aload_n 0, 1) := by decide +kernel
theorem d_X_tape_36 : decode M_X_tape.2.1 36 = .ok (.getfield 66, 3) := by decide +kernel
theorem d_X_tape_39 : decode M_X_tape.2.1 39 = .ok (.iload_n 1, 1) := by decide +kernel
theorem d_X_tape_40 : decode M_X_tape.2.1 40 = .ok (.aaload, 1) := by decide +kernel
theorem d_X_tape_41 : decode M_X_tape.2.1 41 = .ok (.iload_n 2, 1) := by decide +kernel
theorem d_X_tape_42 : decode M_X_tape.2.1 42 = .ok (.iload_n 3, 1) := by decide +kernel
theorem d_X_tape_43 : decode M_X_tape.2.1 43 = .ok (.invokevirtual 302, 3) := by decide +kernel
theorem d_X_tape_46 : decode M_X_tape.2.1 46 = .ok (.iload_n 3, 1) := by decide +kernel
theorem d_X_tape_47 : decode M_X_tape.2.1 47 = .ok (.ireturn, 1) := by decide +kernel
theorem d_X_keep_0 : decode M_X_keep.2.1 0 = .ok (.iload_n 1, 1) := by decide +kernel
theorem d_X_keep_1 : decode M_X_keep.2.1 1 = .ok (.invokestatic 200, 3) := by decide +kernel
theorem d_X_keep_4 : decode M_X_keep.2.1 4 = .ok (.ifCond .ne 5, 3) := by decide +kernel
theorem d_X_keep_7 : decode M_X_keep.2.1 7 = .ok (.iconst (-1), 1) := by decide +kernel
theorem d_X_keep_8 : decode M_X_keep.2.1 8 = .ok (.ireturn, 1) := by decide +kernel
theorem d_X_keep_9 : decode M_X_keep.2.1 9 = .ok (.aload_n 0, 1) := by decide +kernel
theorem d_X_keep_10 : decode M_X_keep.2.1 10 = .ok (.getfield 66, 3) := by decide +kernel
theorem d_X_keep_13 : decode M_X_keep.2.1 13 = .ok (.iload_n 1, 1) := by decide +kernel
theorem d_X_keep_14 : decode M_X_keep.2.1 14 = .ok (.aaload, 1) := by decide +kernel
theorem d_X_keep_15 : decode M_X_keep.2.1 15 = .ok (.aload_n 0, 1) := by decide +kernel
theorem d_X_keep_16 : decode M_X_keep.2.1 16 = .ok (.getfield 10, 3) := by decide +kernel
theorem d_X_keep_19 : decode M_X_keep.2.1 19 = .ok (.invokevirtual 306, 3) := by decide +kernel
theorem d_X_keep_22 : decode M_X_keep.2.1 22 = .ok (.aload_n 0, 1) := by decide +kernel
theorem d_X_keep_23 : decode M_X_keep.2.1 23 = .ok (.getfield 10, 3) := by decide +kernel
theorem d_X_keep_26 : decode M_X_keep.2.1 26 = .ok (.getfield 113, 3) := by decide +kernel
theorem d_X_keep_29 : decode M_X_keep.2.1 29 = .ok (.ireturn, 1) := by decide +kernel
theorem d_X_back_0 : decode M_X_back.2.1 0 = .ok (.iload_n 1, 1) := by decide +kernel
theorem d_X_back_1 : decode M_X_back.2.1 1 = .ok (.invokestatic 200, 3) := by decide +kernel
theorem d_X_back_4 : decode M_X_back.2.1 4 = .ok (.ifCond .ne 5, 3) := by decide +kernel
theorem d_X_back_7 : decode M_X_back.2.1 7 = .ok (.iconst (-1), 1) := by decide +kernel
theorem d_X_back_8 : decode M_X_back.2.1 8 = .ok (.ireturn, 1) := by decide +kernel
theorem d_X_back_9 : decode M_X_back.2.1 9 = .ok (.aload_n 0, 1) := by decide +kernel
theorem d_X_back_10 : decode M_X_back.2.1 10 = .ok (.getfield 66, 3) := by decide +kernel
theorem d_X_back_13 : decode M_X_back.2.1 13 = .ok (.iload_n 1, 1) := by decide +kernel
theorem d_X_back_14 : decode M_X_back.2.1 14 = .ok (.aaload, 1) := by decide +kernel
theorem d_X_back_15 : decode M_X_back.2.1 15 = .ok (.invokevirtual 310, 3) := by decide +kernel
theorem d_X_back_18 : decode M_X_back.2.1 18 = .ok (.astore_n 2, 1) := by decide +kernel
theorem d_X_back_19 : decode M_X_back.2.1 19 = .ok (.aload_n 2, 1) := by decide +kernel
theorem d_X_back_20 : decode M_X_back.2.1 20 = .ok (.ifnonnull 14, 3) := by decide +kernel
theorem d_X_back_23 : decode M_X_back.2.1 23 = .ok (.aload_n 0, 1) := by decide +kernel
theorem d_X_back_24 : decode M_X_back.2.1 24 = .ok (.aload_n 0, 1) := by decide +kernel
theorem d_X_back_25 : decode M_X_back.2.1 25 = .ok (.getfield 66, 3) := by decide +kernel
theorem d_X_back_28 : decode M_X_back.2.1 28 = .ok (.iload_n 1, 1) := by decide +kernel
theorem d_X_back_29 : decode M_X_back.2.1 29 = .ok (.aaload, 1) := by decide +kernel
theorem d_X_back_30 : decode M_X_back.2.1 30 = .ok (.invokevirtual 314, 3) := by decide +kernel
theorem d_X_back_33 : decode M_X_back.2.1 33 = .ok (.ireturn, 1) := by decide +kernel
theorem d_X_back_34 : decode M_X_back.2.1 34 = .ok (.aload_n 0, 1) := by decide +kernel
theorem d_X_back_35 : decode M_X_back.2.1 35 = .ok (.getfield 10, 3) := by decide +kernel
theorem d_X_back_38 : decode M_X_back.2.1 38 = .ok (.aload_n 2, 1) := by decide +kernel
theorem d_X_back_39 : decode M_X_back.2.1 39 = .ok (.invokevirtual 317, 3) := by decide +kernel
theorem d_X_back_42 : decode M_X_back.2.1 42 = .ok (.aload_n 0, 1) := by decide +kernel
theorem d_X_back_43 : decode M_X_back.2.1 43 = .ok (.getfield 19, 3) := by decide +kernel
theorem d_X_back_46 : decode M_X_back.2.1 46 = .ok (.invokevirtual 320, 3) := by decide +kernel
theorem d_X_back_49 : decode M_X_back.2.1 49 = .ok (.aload_n 0, 1) := by decide +kernel
theorem d_X_back_50 : decode M_X_back.2.1 50 = .ok (.invokevirtual 86, 3) := by decide +kernel
theorem d_X_back_53 : decode M_X_back.2.1 53 = .ok (.aload_n 0, 1) := by decide +kernel
theorem d_X_back_54 : decode M_X_back.2.1 54 = .ok (.getfield 10, 3) := by decide +kernel
theorem d_X_back_57 : decode M_X_back.2.1 57 = .ok (.getfield 113, 3) := by decide +kernel
theorem d_X_back_60 : decode M_X_back.2.1 60 = .ok (.ireturn, 1) := by decide +kernel
theorem d_X_toss_0 : decode M_X_toss.2.1 0 = .ok (.iload_n 1, 1) := by decide +kernel
theorem d_X_toss_1 : decode M_X_toss.2.1 1 = .ok (.invokestatic 200, 3) := by decide +kernel
theorem d_X_toss_4 : decode M_X_toss.2.1 4 = .ok (.ifCond .ne 5, 3) := by decide +kernel
theorem d_X_toss_7 : decode M_X_toss.2.1 7 = .ok (.iconst (-1), 1) := by decide +kernel
theorem d_X_toss_8 : decode M_X_toss.2.1 8 = .ok (.ireturn, 1) := by decide +kernel
theorem d_X_toss_9 : decode M_X_toss.2.1 9 = .ok (.aload_n 0, 1) := by decide +kernel
theorem d_X_toss_10 : decode M_X_toss.2.1 10 = .ok (.getfield 66, 3) := by decide +kernel
theorem d_X_toss_13 : decode M_X_toss.2.1 13 = .ok (.iload_n 1, 1) := by decide +kernel
theorem d_X_toss_14 : decode M_X_toss.2.1 14 = .ok (.aaload, 1) := by decide +kernel
theorem d_X_toss_15 : decode M_X_toss.2.1 15 = .ok (.invokevirtual 310, 3) := by decide +kernel
theorem d_X_toss_18 : decode M_X_toss.2.1 18 = .ok (.astore_n 2, 1) := by decide +kernel
theorem d_X_toss_19 : decode M_X_toss.2.1 19 = .ok (.aload_n 2, 1) := by decide +kernel
theorem d_X_toss_20 : decode M_X_toss.2.1 20 = .ok (.ifnonnull 14, 3) := by decide +kernel
theorem d_X_toss_23 : decode M_X_toss.2.1 23 = .ok (.aload_n 0, 1) := by decide +kernel
theorem d_X_toss_24 : decode M_X_toss.2.1 24 = .ok (.aload_n 0, 1) := by decide +kernel
theorem d_X_toss_25 : decode M_X_toss.2.1 25 = .ok (.getfield 66, 3) := by decide +kernel
theorem d_X_toss_28 : decode M_X_toss.2.1 28 = .ok (.iload_n 1, 1) := by decide +kernel
theorem d_X_toss_29 : decode M_X_toss.2.1 29 = .ok (.aaload, 1) := by decide +kernel
theorem d_X_toss_30 : decode M_X_toss.2.1 30 = .ok (.invokevirtual 314, 3) := by decide +kernel
theorem d_X_toss_33 : decode M_X_toss.2.1 33 = .ok (.ireturn, 1) := by decide +kernel
theorem d_X_toss_34 : decode M_X_toss.2.1 34 = .ok (.aload_n 0, 1) := by decide +kernel
theorem d_X_toss_35 : decode M_X_toss.2.1 35 = .ok (.getfield 28, 3) := by decide +kernel
theorem d_X_toss_38 : decode M_X_toss.2.1 38 = .ok (.aload_n 2, 1) := by decide +kernel
theorem d_X_toss_39 : decode M_X_toss.2.1 39 = .ok (.invokevirtual 159, 3) := by decide +kernel
theorem d_X_toss_42 : decode M_X_toss.2.1 42 = .ok (.istore_n 3, 1) := by decide +kernel
theorem d_X_toss_43 : decode M_X_toss.2.1 43 = .ok (.iload_n 3, 1) := by decide +kernel
theorem d_X_toss_44 : decode M_X_toss.2.1 44 = .ok (.ifCond .ne 12, 3) := by decide +kernel
theorem d_X_toss_47 : decode M_X_toss.2.1 47 = .ok (.aload_n 0, 1) := by decide +kernel
theorem d_X_toss_48 : decode M_X_toss.2.1 48 = .ok (.bipush (-15), 2) := by decide +kernel
theorem d_X_toss_50 : decode M_X_toss.2.1 50 = .ok (.invokevirtual 259, 3) := by decide +kernel
theorem d_X_toss_53 : decode M_X_toss.2.1 53 = .ok (.goto 4, 3) := by decide +kernel
theorem d_X_toss_56 : decode M_X_toss.2.1 56 = .ok (.iload_n 3, 1) := by decide +kernel
theorem d_X_toss_57 : decode M_X_toss.2.1 57 = .ok (.ireturn, 1) := by decide +kernel
theorem d_X_clear_0 : decode M_X_clear.2.1 0 = .ok (.iload_n 1, 1) := by decide +kernel
theorem d_X_clear_1 : decode M_X_clear.2.1 1 = .ok (.invokestatic 200, 3) := by decide +kernel
theorem d_X_clear_4 : decode M_X_clear.2.1 4 = .ok (.ifCond .ne 5, 3) := by decide +kernel
theorem d_X_clear_7 : decode M_X_clear.2.1 7 = .ok (.iconst (-1), 1) := by decide +kernel
theorem d_X_clear_8 : decode M_X_clear.2.1 8 = .ok (.ireturn, 1) := by decide +kernel
theorem d_X_clear_9 : decode M_X_clear.2.1 9 = .ok (.aload_n 0, 1) := by decide +kernel
theorem d_X_clear_10 : decode M_X_clear.2.1 10 = .ok (.getfield 66, 3) := by decide +kernel
theorem d_X_clear_13 : decode M_X_clear.2.1 13 = .ok (.iload_n 1, 1) := by decide +kernel
theorem d_X_clear_14 : decode M_X_clear.2.1 14 = .ok (.aaload, 1) := by decide +kernel
theorem d_X_clear_15 : decode M_X_clear.2.1 15 = .ok (.getfield 323, 3) := by decide +kernel
theorem d_X_clear_18 : decode M_X_clear.2.1 18 = .ok (.istore_n 2, 1) := by decide +kernel
theorem d_X_clear_19 : decode M_X_clear.2.1 19 = .ok (.aload_n 0, 1) := by decide +kernel
theorem d_X_clear_20 : decode M_X_clear.2.1 20 = .ok (.getfield 66, 3) := by decide +kernel
theorem d_X_clear_23 : decode M_X_clear.2.1 23 = .ok (.iload_n 1, 1) := by decide +kernel
theorem d_X_clear_24 : decode M_X_clear.2.1 24 = .ok (.aaload, 1) := by decide +kernel
theorem d_X_clear_25 : decode M_X_clear.2.1 25 = .ok (.iconst 0, 1) := by decide +kernel
theorem d_X_clear_26 : decode M_X_clear.2.1 26 = .ok (.putfield 323, 3) := by decide +kernel
theorem d_X_clear_29 : decode M_X_clear.2.1 29 = .ok (.iload_n 2, 1) := by decide +kernel
theorem d_X_clear_30 : decode M_X_clear.2.1 30 = .ok (.ireturn, 1) := by decide +kernel
theorem d_X_put_0 : decode M_X_put.2.1 0 = .ok (.iload_n 1, 1) := by decide +kernel
theorem d_X_put_1 : decode M_X_put.2.1 1 = .ok (.invokestatic 200, 3) := by decide +kernel
theorem d_X_put_4 : decode M_X_put.2.1 4 = .ok (.ifCond .ne 5, 3) := by decide +kernel
theorem d_X_put_7 : decode M_X_put.2.1 7 = .ok (.iconst (-1), 1) := by decide +kernel
theorem d_X_put_8 : decode M_X_put.2.1 8 = .ok (.ireturn, 1) := by decide +kernel
theorem d_X_put_9 : decode M_X_put.2.1 9 = .ok (.aload_n 0, 1) := by decide +kernel
theorem d_X_put_10 : decode M_X_put.2.1 10 = .ok (.getfield 66, 3) := by decide +kernel
theorem d_X_put_13 : decode M_X_put.2.1 13 = .ok (.iload_n 1, 1) := by decide +kernel
theorem d_X_put_14 : decode M_X_put.2.1 14 = .ok (.aaload, 1) := by decide +kernel
theorem d_X_put_15 : decode M_X_put.2.1 15 = .ok (.astore 5, 2) := by decide +kernel
theorem d_X_put_17 : decode M_X_put.2.1 17 = .ok (.aload 5, 2) := by decide +kernel
theorem d_X_put_19 : decode M_X_put.2.1 19 = .ok (.invokevirtual 326, 3) := by decide +kernel
theorem d_X_put_22 : decode M_X_put.2.1 22 = .ok (.ifCond .ne 10, 3) := by decide +kernel
theorem d_X_put_25 : decode M_X_put.2.1 25 = .ok (.aload_n 0, 1) := by decide +kernel
theorem d_X_put_26 : decode M_X_put.2.1 26 = .ok (.aload 5, 2) := by decide +kernel
theorem d_X_put_28 : decode M_X_put.2.1 28 = .ok (.invokevirtual 314, 3) := by decide +kernel
theorem d_X_put_31 : decode M_X_put.2.1 31 = .ok (.ireturn, 1) := by decide +kernel
theorem d_X_put_32 : decode M_X_put.2.1 32 = .ok (.iload_n 2, 1) := by decide +kernel
theorem d_X_put_33 : decode M_X_put.2.1 33 = .ok (.iconst 0, 1) := by decide +kernel
theorem d_X_put_34 : decode M_X_put.2.1 34 = .ok (.aload 5, 2) := by decide +kernel
theorem d_X_put_36 : decode M_X_put.2.1 36 = .ok (.getfield 330, 3) := by decide +kernel
theorem d_X_put_39 : decode M_X_put.2.1 39 = .ok (.iconst 1, 1) := by decide +kernel
theorem d_X_put_40 : decode M_X_put.2.1 40 = .ok (.isub, 1) := by decide +kernel
theorem d_X_put_41 : decode M_X_put.2.1 41 = .ok (.invokestatic 75, 3) := by decide +kernel
theorem d_X_put_44 : decode M_X_put.2.1 44 = .ok (.ifCond .ne 10, 3) := by decide +kernel
theorem d_X_put_47 : decode M_X_put.2.1 47 = .ok (.aload_n 0, 1) := by decide +kernel
theorem d_X_put_48 : decode M_X_put.2.1 48 = .ok (.bipush (-13), 2) := by decide +kernel
theorem d_X_put_50 : decode M_X_put.2.1 50 = .ok (.invokevirtual 259, 3) := by decide +kernel
theorem d_X_put_53 : decode M_X_put.2.1 53 = .ok (.ireturn, 1) := by decide +kernel
theorem d_X_put_54 : decode M_X_put.2.1 54 = .ok (.aload 5, 2) := by decide +kernel
theorem d_X_put_56 : decode M_X_put.2.1 56 = .ok (.getfield 333, 3) := by decide +kernel
theorem d_X_put_59 : decode M_X_put.2.1 59 = .ok (.iload_n 2, 1) := by decide +kernel
theorem d_X_put_60 : decode M_X_put.2.1 60 = .ok (.aload 5, 2) := by decide +kernel
theorem d_X_put_62 : decode M_X_put.2.1 62 = .ok (.lload_n 3, 1) := by decide +kernel
theorem d_X_put_63 : decode M_X_put.2.1 63 = .ok (.invokevirtual 337, 3) := by decide +kernel
theorem d_X_put_66 : decode M_X_put.2.1 66 = .ok (.lastore, 1) := by decide +kernel
theorem d_X_put_67 : decode M_X_put.2.1 67 = .ok (.iconst 1, 1) := by decide +kernel
theorem d_X_put_68 : decode M_X_put.2.1 68 = .ok (.ireturn, 1) := by decide +kernel
theorem d_X_copy_0 : decode M_X_copy.2.1 0 = .ok (.iload_n 1, 1) := by decide +kernel
theorem d_X_copy_1 : decode M_X_copy.2.1 1 = .ok (.invokestatic 200, 3) := by decide +kernel
theorem d_X_copy_4 : decode M_X_copy.2.1 4 = .ok (.ifCond .eq 10, 3) := by decide +kernel
theorem d_X_copy_7 : decode M_X_copy.2.1 7 = .ok (.iload_n 3, 1) := by decide +kernel
theorem d_X_copy_8 : decode M_X_copy.2.1 8 = .ok (.invokestatic 200, 3) := by decide +kernel
theorem d_X_copy_11 : decode M_X_copy.2.1 11 = .ok (.ifCond .ne 5, 3) := by decide +kernel
theorem d_X_copy_14 : decode M_X_copy.2.1 14 = .ok (.iconst (-1), 1) := by decide +kernel
theorem d_X_copy_15 : decode M_X_copy.2.1 15 = .ok (.ireturn, 1) := by decide +kernel
theorem d_X_copy_16 : decode M_X_copy.2.1 16 = .ok (.aload_n 0, 1) := by decide +kernel
theorem d_X_copy_17 : decode M_X_copy.2.1 17 = .ok (.getfield 66, 3) := by decide +kernel
theorem d_X_copy_20 : decode M_X_copy.2.1 20 = .ok (.iload_n 1, 1) := by decide +kernel
theorem d_X_copy_21 : decode M_X_copy.2.1 21 = .ok (.aaload, 1) := by decide +kernel
theorem d_X_copy_22 : decode M_X_copy.2.1 22 = .ok (.astore 6, 2) := by decide +kernel
theorem d_X_copy_24 : decode M_X_copy.2.1 24 = .ok (.aload_n 0, 1) := by decide +kernel
theorem d_X_copy_25 : decode M_X_copy.2.1 25 = .ok (.getfield 66, 3) := by decide +kernel
theorem d_X_copy_28 : decode M_X_copy.2.1 28 = .ok (.iload_n 3, 1) := by decide +kernel
theorem d_X_copy_29 : decode M_X_copy.2.1 29 = .ok (.aaload, 1) := by decide +kernel
theorem d_X_copy_30 : decode M_X_copy.2.1 30 = .ok (.astore 7, 2) := by decide +kernel
theorem d_X_copy_32 : decode M_X_copy.2.1 32 = .ok (.aload 6, 2) := by decide +kernel
theorem d_X_copy_34 : decode M_X_copy.2.1 34 = .ok (.getfield 323, 3) := by decide +kernel
theorem d_X_copy_37 : decode M_X_copy.2.1 37 = .ok (.ifCond .eq 11, 3) := by decide +kernel
theorem d_X_copy_40 : decode M_X_copy.2.1 40 = .ok (.aload 7, 2) := by decide +kernel
theorem d_X_copy_42 : decode M_X_copy.2.1 42 = .ok (.getfield 323, 3) := by decide +kernel
theorem d_X_copy_45 : decode M_X_copy.2.1 45 = .ok (.ifCond .ne 10, 3) := by decide +kernel
theorem d_X_copy_48 : decode M_X_copy.2.1 48 = .ok (.aload_n 0, 1) := by decide +kernel
theorem d_X_copy_49 : decode M_X_copy.2.1 49 = .ok (.bipush (-11), 2) := by decide +kernel
theorem d_X_copy_51 : decode M_X_copy.2.1 51 = .ok (.invokevirtual 259, 3) := by decide +kernel
theorem d_X_copy_54 : decode M_X_copy.2.1 54 = .ok (.ireturn, 1) := by decide +kernel
theorem d_X_copy_55 : decode M_X_copy.2.1 55 = .ok (.aload 6, 2) := by decide +kernel
theorem d_X_copy_57 : decode M_X_copy.2.1 57 = .ok (.invokevirtual 326, 3) := by decide +kernel
theorem d_X_copy_60 : decode M_X_copy.2.1 60 = .ok (.ifCond .eq 16, 3) := by decide +kernel
theorem d_X_copy_63 : decode M_X_copy.2.1 63 = .ok (.aload 6, 2) := by decide +kernel
theorem d_X_copy_65 : decode M_X_copy.2.1 65 = .ok (.getfield 323, 3) := by decide +kernel
theorem d_X_copy_68 : decode M_X_copy.2.1 68 = .ok (.aload 7, 2) := by decide +kernel
theorem d_X_copy_70 : decode M_X_copy.2.1 70 = .ok (.getfield 323, 3) := by decide +kernel
theorem d_X_copy_73 : decode M_X_copy.2.1 73 = .ok (.if_icmp .eq 10, 3) := by decide +kernel
theorem d_X_copy_76 : decode M_X_copy.2.1 76 = .ok (.aload_n 0, 1) := by decide +kernel
theorem d_X_copy_77 : decode M_X_copy.2.1 77 = .ok (.bipush (-12), 2) := by decide +kernel
theorem d_X_copy_79 : decode M_X_copy.2.1 79 = .ok (.invokevirtual 259, 3) := by decide +kernel
theorem d_X_copy_82 : decode M_X_copy.2.1 82 = .ok (.ireturn, 1) := by decide +kernel
theorem d_X_copy_83 : decode M_X_copy.2.1 83 = .ok (.aload 6, 2) := by decide +kernel
theorem d_X_copy_85 : decode M_X_copy.2.1 85 = .ok (.iload_n 2, 1) := by decide +kernel
theorem d_X_copy_86 : decode M_X_copy.2.1 86 = .ok (.iload 5, 2) := by decide +kernel
theorem d_X_copy_88 : decode M_X_copy.2.1 88 = .ok (.invokevirtual 353, 3) := by decide +kernel
theorem d_X_copy_91 : decode M_X_copy.2.1 91 = .ok (.ifCond .eq 15, 3) := by decide +kernel
theorem d_X_copy_94 : decode M_X_copy.2.1 94 = .ok (.aload 7, 2) := by decide +kernel
theorem d_X_copy_96 : decode M_X_copy.2.1 96 = .ok (.iload 4, 2) := by decide +kernel
theorem d_X_copy_98 : decode M_X_copy.2.1 98 = .ok (.iload 5, 2) := by decide +kernel
theorem d_X_copy_100 : decode M_X_copy.2.1 100 = .ok (.invokevirtual 353, 3) := by decide +kernel
theorem d_X_copy_103 : decode M_X_copy.2.1 103 = .ok (.ifCond .ne 10, 3) := by decide +kernel
theorem d_X_copy_106 : decode M_X_copy.2.1 106 = .ok (.aload_n 0, 1) := by decide +kernel
theorem d_X_copy_107 : decode M_X_copy.2.1 107 = .ok (.bipush (-13), 2) := by decide +kernel
theorem d_X_copy_109 : decode M_X_copy.2.1 109 = .ok (.invokevirtual 259, 3) := by decide +kernel
theorem d_X_copy_112 : decode M_X_copy.2.1 112 = .ok (.ireturn, 1) := by decide +kernel
theorem d_X_copy_113 : decode M_X_copy.2.1 113 = .ok (.aload 6, 2) := by decide +kernel
theorem d_X_copy_115 : decode M_X_copy.2.1 115 = .ok (.getfield 333, 3) := by decide +kernel
theorem d_X_copy_118 : decode M_X_copy.2.1 118 = .ok (.iload_n 2, 1) := by decide +kernel
theorem d_X_copy_119 : decode M_X_copy.2.1 119 = .ok (.aload 7, 2) := by decide +kernel
theorem d_X_copy_121 : decode M_X_copy.2.1 121 = .ok (.getfield 333, 3) := by decide +kernel
theorem d_X_copy_124 : decode M_X_copy.2.1 124 = .ok (.iload 4, 2) := by decide +kernel
theorem d_X_copy_126 : decode M_X_copy.2.1 126 = .ok (.iload 5, 2) := by decide +kernel
theorem d_X_copy_128 : decode M_X_copy.2.1 128 = .ok (.invokestatic 357, 3) := by decide +kernel
theorem d_X_copy_131 : decode M_X_copy.2.1 131 = .ok (.iload 5, 2) := by decide +kernel
theorem d_X_copy_133 : decode M_X_copy.2.1 133 = .ok (.ireturn, 1) := by decide +kernel
theorem d_X_count_0 : decode M_X_count.2.1 0 = .ok (.iload_n 1, 1) := by decide +kernel
theorem d_X_count_1 : decode M_X_count.2.1 1 = .ok (.tableswitch 111 0 7 #[47, 55, 63, 71, 79, 90, 98, 106], 47) := by decide +kernel
theorem d_X_count_48 : decode M_X_count.2.1 48 = .ok (.aload_n 0, 1) := by decide +kernel
theorem d_X_count_49 : decode M_X_count.2.1 49 = .ok (.getfield 10, 3) := by decide +kernel
theorem d_X_count_52 : decode M_X_count.2.1 52 = .ok (.getfield 363, 3) := by decide +kernel
theorem d_X_count_55 : decode M_X_count.2.1 55 = .ok (.ireturn, 1) := by decide +kernel
theorem d_X_count_56 : decode M_X_count.2.1 56 = .ok (.aload_n 0, 1) := by decide +kernel
theorem d_X_count_57 : decode M_X_count.2.1 57 = .ok (.getfield 10, 3) := by decide +kernel
theorem d_X_count_60 : decode M_X_count.2.1 60 = .ok (.getfield 107, 3) := by decide +kernel
theorem d_X_count_63 : decode M_X_count.2.1 63 = .ok (.ireturn, 1) := by decide +kernel
theorem d_X_count_64 : decode M_X_count.2.1 64 = .ok (.aload_n 0, 1) := by decide +kernel
theorem d_X_count_65 : decode M_X_count.2.1 65 = .ok (.getfield 10, 3) := by decide +kernel
theorem d_X_count_68 : decode M_X_count.2.1 68 = .ok (.getfield 366, 3) := by decide +kernel
theorem d_X_count_71 : decode M_X_count.2.1 71 = .ok (.ireturn, 1) := by decide +kernel
theorem d_X_count_72 : decode M_X_count.2.1 72 = .ok (.aload_n 0, 1) := by decide +kernel
theorem d_X_count_73 : decode M_X_count.2.1 73 = .ok (.getfield 10, 3) := by decide +kernel
theorem d_X_count_76 : decode M_X_count.2.1 76 = .ok (.getfield 113, 3) := by decide +kernel
theorem d_X_count_79 : decode M_X_count.2.1 79 = .ok (.ireturn, 1) := by decide +kernel
theorem d_X_count_80 : decode M_X_count.2.1 80 = .ok (.aload_n 0, 1) := by decide +kernel
theorem d_X_count_81 : decode M_X_count.2.1 81 = .ok (.getfield 10, 3) := by decide +kernel
theorem d_X_count_84 : decode M_X_count.2.1 84 = .ok (.iconst 1, 1) := by decide +kernel
theorem d_X_count_85 : decode M_X_count.2.1 85 = .ok (.bipush 26, 2) := by decide +kernel
theorem d_X_count_87 : decode M_X_count.2.1 87 = .ok (.invokevirtual 265, 3) := by decide +kernel
theorem d_X_count_90 : decode M_X_count.2.1 90 = .ok (.ireturn, 1) := by decide +kernel
theorem d_X_count_91 : decode M_X_count.2.1 91 = .ok (.aload_n 0, 1) := by decide +kernel
theorem d_X_count_92 : decode M_X_count.2.1 92 = .ok (.getfield 10, 3) := by decide +kernel
theorem d_X_count_95 : decode M_X_count.2.1 95 = .ok (.invokevirtual 369, 3) := by decide +kernel
theorem d_X_count_98 : decode M_X_count.2.1 98 = .ok (.ireturn, 1) := by decide +kernel
theorem d_X_count_99 : decode M_X_count.2.1 99 = .ok (.aload_n 0, 1) := by decide +kernel
theorem d_X_count_100 : decode M_X_count.2.1 100 = .ok (.getfield 19, 3) := by decide +kernel
theorem d_X_count_103 : decode M_X_count.2.1 103 = .ok (.getfield 247, 3) := by decide +kernel
theorem d_X_count_106 : decode M_X_count.2.1 106 = .ok (.ireturn, 1) := by decide +kernel
theorem d_X_count_107 : decode M_X_count.2.1 107 = .ok (.aload_n 0, 1) := by decide +kernel
theorem d_X_count_108 : decode M_X_count.2.1 108 = .ok (.getfield 89, 3) := by decide +kernel
theorem d_X_count_111 : decode M_X_count.2.1 111 = .ok (.ireturn, 1) := by decide +kernel
theorem d_X_count_112 : decode M_X_count.2.1 112 = .ok (.iload_n 1, 1) := by decide +kernel
theorem d_X_count_113 : decode M_X_count.2.1 113 = .ok (.bipush 10, 2) := by decide +kernel
theorem d_X_count_115 : decode M_X_count.2.1 115 = .ok (.bipush 12, 2) := by decide +kernel
theorem d_X_count_117 : decode M_X_count.2.1 117 = .ok (.invokestatic 75, 3) := by decide +kernel
theorem d_X_count_120 : decode M_X_count.2.1 120 = .ok (.ifCond .eq 18, 3) := by decide +kernel
theorem d_X_count_123 : decode M_X_count.2.1 123 = .ok (.aload_n 0, 1) := by decide +kernel
theorem d_X_count_124 : decode M_X_count.2.1 124 = .ok (.getfield 19, 3) := by decide +kernel
theorem d_X_count_127 : decode M_X_count.2.1 127 = .ok (.getfield 232, 3) := by decide +kernel
theorem d_X_count_130 : decode M_X_count.2.1 130 = .ok (.iload_n 1, 1) := by decide +kernel
theorem d_X_count_131 : decode M_X_count.2.1 131 = .ok (.bipush 10, 2) := by decide +kernel
theorem d_X_count_133 : decode M_X_count.2.1 133 = .ok (.isub, 1) := by decide +kernel
theorem d_X_count_134 : decode M_X_count.2.1 134 = .ok (.iaload, 1) := by decide +kernel
theorem d_X_count_135 : decode M_X_count.2.1 135 = .ok (.goto 4, 3) := by decide +kernel
theorem d_X_count_138 : decode M_X_count.2.1 138 = .ok (.iconst (-1), 1) := by decide +kernel
theorem d_X_count_139 : decode M_X_count.2.1 139 = .ok (.ireturn, 1) := by decide +kernel
theorem d_X_at_0 : decode M_X_at.2.1 0 = .ok (.iload_n 1, 1) := by decide +kernel
theorem d_X_at_1 : decode M_X_at.2.1 1 = .ok (.invokestatic 200, 3) := by decide +kernel
theorem d_X_at_4 : decode M_X_at.2.1 4 = .ok (.ifCond .ne 14, 3) := by decide +kernel
theorem d_X_at_7 : decode M_X_at.2.1 7 = .ok (.new 341, 3) := by decide +kernel
theorem d_X_at_10 : decode M_X_at.2.1 10 = .ok (.dup, 1) := by decide +kernel
theorem d_X_at_11 : decode M_X_at.2.1 11 = .ok (.ldc_w 343, 3) := by decide +kernel
theorem d_X_at_14 : decode M_X_at.2.1 14 = .ok (.invokespecial 345, 3) := by decide +kernel
theorem d_X_at_17 : decode M_X_at.2.1 17 = .ok (.athrow, 1) := by decide +kernel
theorem d_X_at_18 : decode M_X_at.2.1 18 = .ok (.aload_n 0, 1) := by decide +kernel
theorem d_X_at_19 : decode M_X_at.2.1 19 = .ok (.getfield 66, 3) := by decide +kernel
theorem d_X_at_22 : decode M_X_at.2.1 22 = .ok (.iload_n 1, 1) := by decide +kernel
theorem d_X_at_23 : decode M_X_at.2.1 23 = .ok (.aaload, 1) := by decide +kernel
theorem d_X_at_24 : decode M_X_at.2.1 24 = .ok (.astore_n 3, 1) := by decide +kernel
theorem d_X_at_25 : decode M_X_at.2.1 25 = .ok (.aload_n 3, 1) := by decide +kernel
theorem d_X_at_26 : decode M_X_at.2.1 26 = .ok (.invokevirtual 326, 3) := by decide +kernel
theorem d_X_at_29 : decode M_X_at.2.1 29 = .ok (.ifCond .eq 17, 3) := by decide +kernel
theorem d_X_at_32 : decode M_X_at.2.1 32 = .ok (.iload_n 2, 1) := by decide +kernel
theorem d_X_at_33 : decode M_X_at.2.1 33 = .ok (.iconst 0, 1) := by decide +kernel
theorem d_X_at_34 : decode M_X_at.2.1 34 = .ok (.aload_n 3, 1) := by decide +kernel
theorem d_X_at_35 : decode M_X_at.2.1 35 = .ok (.getfield 330, 3) := by decide +kernel
theorem d_X_at_38 : decode M_X_at.2.1 38 = .ok (.iconst 1, 1) := by decide +kernel
theorem d_X_at_39 : decode M_X_at.2.1 39 = .ok (.isub, 1) := by decide +kernel
theorem d_X_at_40 : decode M_X_at.2.1 40 = .ok (.invokestatic 75, 3) := by decide +kernel
theorem d_X_at_43 : decode M_X_at.2.1 43 = .ok (.ifCond .ne 14, 3) := by decide +kernel
theorem d_X_at_46 : decode M_X_at.2.1 46 = .ok (.new 348, 3) := by decide +kernel
theorem d_X_at_49 : decode M_X_at.2.1 49 = .ok (.dup, 1) := by decide +kernel
theorem d_X_at_50 : decode M_X_at.2.1 50 = .ok (.ldc_w 350, 3) := by decide +kernel
theorem d_X_at_53 : decode M_X_at.2.1 53 = .ok (.invokespecial 352, 3) := by decide +kernel
theorem d_X_at_56 : decode M_X_at.2.1 56 = .ok (.athrow, 1) := by decide +kernel
theorem d_X_at_57 : decode M_X_at.2.1 57 = .ok (.aload_n 3, 1) := by decide +kernel
theorem d_X_at_58 : decode M_X_at.2.1 58 = .ok (.getfield 333, 3) := by decide +kernel
theorem d_X_at_61 : decode M_X_at.2.1 61 = .ok (.iload_n 2, 1) := by decide +kernel
theorem d_X_at_62 : decode M_X_at.2.1 62 = .ok (.laload, 1) := by decide +kernel
theorem d_X_at_63 : decode M_X_at.2.1 63 = .ok (.lreturn, 1) := by decide +kernel
theorem d_O_takenBy_0 : decode M_O_takenBy.2.1 0 = .ok (.iload_n 0, 1) := by decide +kernel
theorem d_O_takenBy_1 : decode M_O_takenBy.2.1 1 = .ok (.iconst 0, 1) := by decide +kernel
theorem d_O_takenBy_2 : decode M_O_takenBy.2.1 2 = .ok (.bipush 7, 2) := by decide +kernel
theorem d_O_takenBy_4 : decode M_O_takenBy.2.1 4 = .ok (.invokestatic 9, 3) := by decide +kernel
theorem d_O_takenBy_7 : decode M_O_takenBy.2.1 7 = .ok (.ifCond .eq 11, 3) := by decide +kernel
theorem d_O_takenBy_10 : decode M_O_takenBy.2.1 10 = .ok (.getstatic 19, 3) := by decide +kernel
theorem d_O_takenBy_13 : decode M_O_takenBy.2.1 13 = .ok (.iload_n 0, 1) := by decide +kernel
theorem d_O_takenBy_14 : decode M_O_takenBy.2.1 14 = .ok (.iaload, 1) := by decide +kernel
theorem d_O_takenBy_15 : decode M_O_takenBy.2.1 15 = .ok (.goto 4, 3) := by decide +kernel
theorem d_O_takenBy_18 : decode M_O_takenBy.2.1 18 = .ok (.iconst 0, 1) := by decide +kernel
theorem d_O_takenBy_19 : decode M_O_takenBy.2.1 19 = .ok (.ireturn, 1) := by decide +kernel
theorem d_O_lengthOf_0 : decode M_O_lengthOf.2.1 0 = .ok (.iload_n 0, 1) := by decide +kernel
theorem d_O_lengthOf_1 : decode M_O_lengthOf.2.1 1 = .ok (.iconst 0, 1) := by decide +kernel
theorem d_O_lengthOf_2 : decode M_O_lengthOf.2.1 2 = .ok (.bipush 7, 2) := by decide +kernel
theorem d_O_lengthOf_4 : decode M_O_lengthOf.2.1 4 = .ok (.invokestatic 9, 3) := by decide +kernel
theorem d_O_lengthOf_7 : decode M_O_lengthOf.2.1 7 = .ok (.ifCond .eq 11, 3) := by decide +kernel
theorem d_O_lengthOf_10 : decode M_O_lengthOf.2.1 10 = .ok (.getstatic 15, 3) := by decide +kernel
theorem d_O_lengthOf_13 : decode M_O_lengthOf.2.1 13 = .ok (.iload_n 0, 1) := by decide +kernel
theorem d_O_lengthOf_14 : decode M_O_lengthOf.2.1 14 = .ok (.iaload, 1) := by decide +kernel
theorem d_O_lengthOf_15 : decode M_O_lengthOf.2.1 15 = .ok (.goto 4, 3) := by decide +kernel
theorem d_O_lengthOf_18 : decode M_O_lengthOf.2.1 18 = .ok (.iconst 1, 1) := by decide +kernel
theorem d_O_lengthOf_19 : decode M_O_lengthOf.2.1 19 = .ok (.ireturn, 1) := by decide +kernel
theorem d_O_firstFault_0 : decode M_O_firstFault.2.1 0 = .ok (.iconst 0, 1) := by decide +kernel
theorem d_O_firstFault_1 : decode M_O_firstFault.2.1 1 = .ok (.istore_n 2, 1) := by decide +kernel
theorem d_O_firstFault_2 : decode M_O_firstFault.2.1 2 = .ok (.iconst 0, 1) := by decide +kernel
theorem d_O_firstFault_3 : decode M_O_firstFault.2.1 3 = .ok (.istore_n 3, 1) := by decide +kernel
theorem d_O_firstFault_4 : decode M_O_firstFault.2.1 4 = .ok (.iload_n 3, 1) := by decide +kernel
theorem d_O_firstFault_5 : decode M_O_firstFault.2.1 5 = .ok (.aload_n 0, 1) := by decide +kernel
theorem d_O_firstFault_6 : decode M_O_firstFault.2.1 6 = .ok (.getfield 22, 3) := by decide +kernel
theorem d_O_firstFault_9 : decode M_O_firstFault.2.1 9 = .ok (.if_icmp .ge 108, 3) := by decide +kernel
theorem d_O_firstFault_12 : decode M_O_firstFault.2.1 12 = .ok (.aload_n 0, 1) := by decide +kernel
theorem d_O_firstFault_13 : decode M_O_firstFault.2.1 13 = .ok (.getfield 28, 3) := by decide +kernel
theorem d_O_firstFault_16 : decode M_O_firstFault.2.1 16 = .ok (.iload_n 3, 1) := by decide +kernel
theorem d_O_firstFault_17 : decode M_O_firstFault.2.1 17 = .ok (.laload, 1) := by decide +kernel
theorem d_O_firstFault_18 : decode M_O_firstFault.2.1 18 = .ok (.l2i, 1) := by decide +kernel
theorem d_O_firstFault_19 : decode M_O_firstFault.2.1 19 = .ok (.istore 4, 2) := by decide +kernel
theorem d_O_firstFault_21 : decode M_O_firstFault.2.1 21 = .ok (.iload 4, 2) := by decide +kernel
theorem d_O_firstFault_23 : decode M_O_firstFault.2.1 23 = .ok (.ifCond .ne 14, 3) := by decide +kernel
theorem d_O_firstFault_26 : decode M_O_firstFault.2.1 26 = .ok (.iload_n 2, 1) := by decide +kernel
theorem d_O_firstFault_27 : decode M_O_firstFault.2.1 27 = .ok (.iconst 1, 1) := by decide +kernel
theorem d_O_firstFault_28 : decode M_O_firstFault.2.1 28 = .ok (.if_icmp .ne 7, 3) := by decide +kernel
theorem d_O_firstFault_31 : decode M_O_firstFault.2.1 31 = .ok (.iconst (-1), 1) := by decide +kernel
theorem d_O_firstFault_32 : decode M_O_firstFault.2.1 32 = .ok (.goto 4, 3) := by decide +kernel
theorem d_O_firstFault_35 : decode M_O_firstFault.2.1 35 = .ok (.iload_n 3, 1) := by decide +kernel
theorem d_O_firstFault_36 : decode M_O_firstFault.2.1 36 = .ok (.ireturn, 1) := by decide +kernel
theorem d_O_firstFault_37 : decode M_O_firstFault.2.1 37 = .ok (.iload 4, 2) := by decide +kernel
theorem d_O_firstFault_39 : decode M_O_firstFault.2.1 39 = .ok (.iconst 1, 1) := by decide +kernel
theorem d_O_firstFault_40 : decode M_O_firstFault.2.1 40 = .ok (.bipush 7, 2) := by decide +kernel
theorem d_O_firstFault_42 : decode M_O_firstFault.2.1 42 = .ok (.invokestatic 9, 3) := by decide +kernel
theorem d_O_firstFault_45 : decode M_O_firstFault.2.1 45 = .ok (.ifCond .eq 26, 3) := by decide +kernel
theorem d_O_firstFault_48 : decode M_O_firstFault.2.1 48 = .ok (.iload_n 3, 1) := by decide +kernel
theorem d_O_firstFault_49 : decode M_O_firstFault.2.1 49 = .ok (.iload 4, 2) := by decide +kernel
theorem d_O_firstFault_51 : decode M_O_firstFault.2.1 51 = .ok (.invokestatic 32, 3) := by decide +kernel
theorem d_O_firstFault_54 : decode M_O_firstFault.2.1 54 = .ok (.iadd, 1) := by decide +kernel
theorem d_O_firstFault_55 : decode M_O_firstFault.2.1 55 = .ok (.aload_n 0, 1) := by decide +kernel
theorem d_O_firstFault_56 : decode M_O_firstFault.2.1 56 = .ok (.getfield 22, 3) := by decide +kernel
theorem d_O_firstFault_59 : decode M_O_firstFault.2.1 59 = .ok (.if_icmp .gt 12, 3) := by decide +kernel
theorem d_O_firstFault_62 : decode M_O_firstFault.2.1 62 = .ok (.aload_n 0, 1) := by decide +kernel
theorem d_O_firstFault_63 : decode M_O_firstFault.2.1 63 = .ok (.iload_n 3, 1) := by decide +kernel
theorem d_O_firstFault_64 : decode M_O_firstFault.2.1 64 = .ok (.aload_n 1, 1) := by decide +kernel
theorem d_O_firstFault_65 : decode M_O_firstFault.2.1 65 = .ok (.invokestatic 36, 3) := by decide +kernel
theorem d_O_firstFault_68 : decode M_O_firstFault.2.1 68 = .ok (.ifCond .ne 5, 3) := by decide +kernel
theorem d_O_firstFault_71 : decode M_O_firstFault.2.1 71 = .ok (.iload_n 3, 1) := by decide +kernel
theorem d_O_firstFault_72 : decode M_O_firstFault.2.1 72 = .ok (.ireturn, 1) := by decide +kernel
theorem d_O_firstFault_73 : decode M_O_firstFault.2.1 73 = .ok (.iload_n 2, 1) := by decide +kernel
theorem d_O_firstFault_74 : decode M_O_firstFault.2.1 74 = .ok (.iload 4, 2) := by decide +kernel
theorem d_O_firstFault_76 : decode M_O_firstFault.2.1 76 = .ok (.invokestatic 40, 3) := by decide +kernel
theorem d_O_firstFault_79 : decode M_O_firstFault.2.1 79 = .ok (.isub, 1) := by decide +kernel
theorem d_O_firstFault_80 : decode M_O_firstFault.2.1 80 = .ok (.istore 5, 2) := by decide +kernel
theorem d_O_firstFault_82 : decode M_O_firstFault.2.1 82 = .ok (.iload 5, 2) := by decide +kernel
theorem d_O_firstFault_84 : decode M_O_firstFault.2.1 84 = .ok (.ifCond .lt 10, 3) := by decide +kernel
theorem d_O_firstFault_87 : decode M_O_firstFault.2.1 87 = .ok (.iload 5, 2) := by decide +kernel
theorem d_O_firstFault_89 : decode M_O_firstFault.2.1 89 = .ok (.bipush 8, 2) := by decide +kernel
theorem d_O_firstFault_91 : decode M_O_firstFault.2.1 91 = .ok (.if_icmp .lt 5, 3) := by decide +kernel
theorem d_O_firstFault_94 : decode M_O_firstFault.2.1 94 = .ok (.iload_n 3, 1) := by decide +kernel
theorem d_O_firstFault_95 : decode M_O_firstFault.2.1 95 = .ok (.ireturn, 1) := by decide +kernel
theorem d_O_firstFault_96 : decode M_O_firstFault.2.1 96 = .ok (.iload 5, 2) := by decide +kernel
theorem d_O_firstFault_98 : decode M_O_firstFault.2.1 98 = .ok (.iconst 1, 1) := by decide +kernel
theorem d_O_firstFault_99 : decode M_O_firstFault.2.1 99 = .ok (.iadd, 1) := by decide +kernel
theorem d_O_firstFault_100 : decode M_O_firstFault.2.1 100 = .ok (.istore_n 2, 1) := by decide +kernel
theorem d_O_firstFault_101 : decode M_O_firstFault.2.1 101 = .ok (.iload_n 3, 1) := by decide +kernel
theorem d_O_firstFault_102 : decode M_O_firstFault.2.1 102 = .ok (.aload_n 0, 1) := by decide +kernel
theorem d_O_firstFault_103 : decode M_O_firstFault.2.1 103 = .ok (.getfield 28, 3) := by decide +kernel
theorem d_O_firstFault_106 : decode M_O_firstFault.2.1 106 = .ok (.iload_n 3, 1) := by decide +kernel
theorem d_O_firstFault_107 : decode M_O_firstFault.2.1 107 = .ok (.laload, 1) := by decide +kernel
theorem d_O_firstFault_108 : decode M_O_firstFault.2.1 108 = .ok (.l2i, 1) := by decide +kernel
theorem d_O_firstFault_109 : decode M_O_firstFault.2.1 109 = .ok (.invokestatic 32, 3) := by decide +kernel
theorem d_O_firstFault_112 : decode M_O_firstFault.2.1 112 = .ok (.iadd, 1) := by decide +kernel
theorem d_O_firstFault_113 : decode M_O_firstFault.2.1 113 = .ok (.istore_n 3, 1) := by decide +kernel
theorem d_O_firstFault_114 : decode M_O_firstFault.2.1 114 = .ok (.goto (-110), 3) := by decide +kernel
theorem d_O_firstFault_117 : decode M_O_firstFault.2.1 117 = .ok (.aload_n 0, 1) := by decide +kernel
theorem d_O_firstFault_118 : decode M_O_firstFault.2.1 118 = .ok (.getfield 22, 3) := by decide +kernel
theorem d_O_firstFault_121 : decode M_O_firstFault.2.1 121 = .ok (.ireturn, 1) := by decide +kernel
theorem d_O_namesWell_0 : decode M_O_namesWell.2.1 0 = .ok (.aload_n 0, 1) := by decide +kernel
theorem d_O_namesWell_1 : decode M_O_namesWell.2.1 1 = .ok (.getfield 28, 3) := by decide +kernel
theorem d_O_namesWell_4 : decode M_O_namesWell.2.1 4 = .ok (.iload_n 1, 1) := by decide +kernel
theorem d_O_namesWell_5 : decode M_O_namesWell.2.1 5 = .ok (.laload, 1) := by decide +kernel
theorem d_O_namesWell_6 : decode M_O_namesWell.2.1 6 = .ok (.l2i, 1) := by decide +kernel
theorem d_O_namesWell_7 : decode M_O_namesWell.2.1 7 = .ok (.tableswitch 90 1 3 #[25, 63, 77], 25) := by decide +kernel
theorem d_O_namesWell_32 : decode M_O_namesWell.2.1 32 = .ok (.aload_n 2, 1) := by decide +kernel
theorem d_O_namesWell_33 : decode M_O_namesWell.2.1 33 = .ok (.aload_n 0, 1) := by decide +kernel
theorem d_O_namesWell_34 : decode M_O_namesWell.2.1 34 = .ok (.getfield 28, 3) := by decide +kernel
theorem d_O_namesWell_37 : decode M_O_namesWell.2.1 37 = .ok (.iload_n 1, 1) := by decide +kernel
theorem d_O_namesWell_38 : decode M_O_namesWell.2.1 38 = .ok (.iconst 1, 1) := by decide +kernel
theorem d_O_namesWell_39 : decode M_O_namesWell.2.1 39 = .ok (.iadd, 1) := by decide +kernel
theorem d_O_namesWell_40 : decode M_O_namesWell.2.1 40 = .ok (.laload, 1) := by decide +kernel
theorem d_O_namesWell_41 : decode M_O_namesWell.2.1 41 = .ok (.l2i, 1) := by decide +kernel
theorem d_O_namesWell_42 : decode M_O_namesWell.2.1 42 = .ok (.invokevirtual 43, 3) := by decide +kernel
theorem d_O_namesWell_45 : decode M_O_namesWell.2.1 45 = .ok (.ifCond .eq 23, 3) := by decide +kernel
theorem d_O_namesWell_48 : decode M_O_namesWell.2.1 48 = .ok (.aload_n 2, 1) := by decide +kernel
theorem d_O_namesWell_49 : decode M_O_namesWell.2.1 49 = .ok (.aload_n 0, 1) := by decide +kernel
theorem d_O_namesWell_50 : decode M_O_namesWell.2.1 50 = .ok (.getfield 28, 3) := by decide +kernel
theorem d_O_namesWell_53 : decode M_O_namesWell.2.1 53 = .ok (.iload_n 1, 1) := by decide +kernel
theorem d_O_namesWell_54 : decode M_O_namesWell.2.1 54 = .ok (.iconst 2, 1) := by decide +kernel
theorem d_O_namesWell_55 : decode M_O_namesWell.2.1 55 = .ok (.iadd, 1) := by decide +kernel
theorem d_O_namesWell_56 : decode M_O_namesWell.2.1 56 = .ok (.laload, 1) := by decide +kernel
theorem d_O_namesWell_57 : decode M_O_namesWell.2.1 57 = .ok (.l2i, 1) := by decide +kernel
theorem d_O_namesWell_58 : decode M_O_namesWell.2.1 58 = .ok (.invokevirtual 49, 3) := by decide +kernel
theorem d_O_namesWell_61 : decode M_O_namesWell.2.1 61 = .ok (.ifCond .eq 7, 3) := by decide +kernel
theorem d_O_namesWell_64 : decode M_O_namesWell.2.1 64 = .ok (.iconst 1, 1) := by decide +kernel
theorem d_O_namesWell_65 : decode M_O_namesWell.2.1 65 = .ok (.goto 4, 3) := by decide +kernel
theorem d_O_namesWell_68 : decode M_O_namesWell.2.1 68 = .ok (.iconst 0, 1) := by decide +kernel
theorem d_O_namesWell_69 : decode M_O_namesWell.2.1 69 = .ok (.ireturn, 1) := by decide +kernel
theorem d_O_namesWell_70 : decode M_O_namesWell.2.1 70 = .ok (.aload_n 2, 1) := by decide +kernel
theorem d_O_namesWell_71 : decode M_O_namesWell.2.1 71 = .ok (.aload_n 0, 1) := by decide +kernel
theorem d_O_namesWell_72 : decode M_O_namesWell.2.1 72 = .ok (.getfield 28, 3) := by decide +kernel
theorem d_O_namesWell_75 : decode M_O_namesWell.2.1 75 = .ok (.iload_n 1, 1) := by decide +kernel
theorem d_O_namesWell_76 : decode M_O_namesWell.2.1 76 = .ok (.iconst 1, 1) := by decide +kernel
theorem d_O_namesWell_77 : decode M_O_namesWell.2.1 77 = .ok (.iadd, 1) := by decide +kernel
theorem d_O_namesWell_78 : decode M_O_namesWell.2.1 78 = .ok (.laload, 1) := by decide +kernel
theorem d_O_namesWell_79 : decode M_O_namesWell.2.1 79 = .ok (.l2i, 1) := by decide +kernel
theorem d_O_namesWell_80 : decode M_O_namesWell.2.1 80 = .ok (.invokevirtual 43, 3) := by decide +kernel
theorem d_O_namesWell_83 : decode M_O_namesWell.2.1 83 = .ok (.ireturn, 1) := by decide +kernel
theorem d_O_namesWell_84 : decode M_O_namesWell.2.1 84 = .ok (.aload_n 0, 1) := by decide +kernel
theorem d_O_namesWell_85 : decode M_O_namesWell.2.1 85 = .ok (.getfield 28, 3) := by decide +kernel
theorem d_O_namesWell_88 : decode M_O_namesWell.2.1 88 = .ok (.iload_n 1, 1) := by decide +kernel
theorem d_O_namesWell_89 : decode M_O_namesWell.2.1 89 = .ok (.iconst 1, 1) := by decide +kernel
theorem d_O_namesWell_90 : decode M_O_namesWell.2.1 90 = .ok (.iadd, 1) := by decide +kernel
theorem d_O_namesWell_91 : decode M_O_namesWell.2.1 91 = .ok (.laload, 1) := by decide +kernel
theorem d_O_namesWell_92 : decode M_O_namesWell.2.1 92 = .ok (.l2i, 1) := by decide +kernel
theorem d_O_namesWell_93 : decode M_O_namesWell.2.1 93 = .ok (.invokestatic 52, 3) := by decide +kernel
theorem d_O_namesWell_96 : decode M_O_namesWell.2.1 96 = .ok (.ireturn, 1) := by decide +kernel
theorem d_O_namesWell_97 : decode M_O_namesWell.2.1 97 = .ok (.iconst 1, 1) := by decide +kernel
theorem d_O_namesWell_98 : decode M_O_namesWell.2.1 98 = .ok (.ireturn, 1) := by decide +kernel
theorem d_O_howMany_0 : decode M_O_howMany.2.1 0 = .ok (.iconst 0, 1) := by decide +kernel
theorem d_O_howMany_1 : decode M_O_howMany.2.1 1 = .ok (.istore_n 1, 1) := by decide +kernel
theorem d_O_howMany_2 : decode M_O_howMany.2.1 2 = .ok (.iconst 0, 1) := by decide +kernel
theorem d_O_howMany_3 : decode M_O_howMany.2.1 3 = .ok (.istore_n 2, 1) := by decide +kernel
theorem d_O_howMany_4 : decode M_O_howMany.2.1 4 = .ok (.iload_n 2, 1) := by decide +kernel
theorem d_O_howMany_5 : decode M_O_howMany.2.1 5 = .ok (.aload_n 0, 1) := by decide +kernel
theorem d_O_howMany_6 : decode M_O_howMany.2.1 6 = .ok (.getfield 22, 3) := by decide +kernel
theorem d_O_howMany_9 : decode M_O_howMany.2.1 9 = .ok (.if_icmp .ge 33, 3) := by decide +kernel
theorem d_O_howMany_12 : decode M_O_howMany.2.1 12 = .ok (.aload_n 0, 1) := by decide +kernel
theorem d_O_howMany_13 : decode M_O_howMany.2.1 13 = .ok (.getfield 28, 3) := by decide +kernel
theorem d_O_howMany_16 : decode M_O_howMany.2.1 16 = .ok (.iload_n 2, 1) := by decide +kernel
theorem d_O_howMany_17 : decode M_O_howMany.2.1 17 = .ok (.laload, 1) := by decide +kernel
theorem d_O_howMany_18 : decode M_O_howMany.2.1 18 = .ok (.lconst 0, 1) := by decide +kernel
theorem d_O_howMany_19 : decode M_O_howMany.2.1 19 = .ok (.lcmp, 1) := by decide +kernel
theorem d_O_howMany_20 : decode M_O_howMany.2.1 20 = .ok (.ifCond .eq 22, 3) := by decide +kernel
theorem d_O_howMany_23 : decode M_O_howMany.2.1 23 = .ok (.iinc 1 1, 3) := by decide +kernel
theorem d_O_howMany_26 : decode M_O_howMany.2.1 26 = .ok (.iload_n 2, 1) := by decide +kernel
theorem d_O_howMany_27 : decode M_O_howMany.2.1 27 = .ok (.aload_n 0, 1) := by decide +kernel
theorem d_O_howMany_28 : decode M_O_howMany.2.1 28 = .ok (.getfield 28, 3) := by decide +kernel
theorem d_O_howMany_31 : decode M_O_howMany.2.1 31 = .ok (.iload_n 2, 1) := by decide +kernel
theorem d_O_howMany_32 : decode M_O_howMany.2.1 32 = .ok (.laload, 1) := by decide +kernel
theorem d_O_howMany_33 : decode M_O_howMany.2.1 33 = .ok (.l2i, 1) := by decide +kernel
theorem d_O_howMany_34 : decode M_O_howMany.2.1 34 = .ok (.invokestatic 32, 3) := by decide +kernel
theorem d_O_howMany_37 : decode M_O_howMany.2.1 37 = .ok (.iadd, 1) := by decide +kernel
theorem d_O_howMany_38 : decode M_O_howMany.2.1 38 = .ok (.istore_n 2, 1) := by decide +kernel
theorem d_O_howMany_39 : decode M_O_howMany.2.1 39 = .ok (.goto (-35), 3) := by decide +kernel
theorem d_O_howMany_42 : decode M_O_howMany.2.1 42 = .ok (.iload_n 1, 1) := by decide +kernel
theorem d_O_howMany_43 : decode M_O_howMany.2.1 43 = .ok (.ireturn, 1) := by decide +kernel
theorem d_K_init_0 : decode M_K_init.2.1 0 = .ok (.aload_n 0, 1) := by decide +kernel
theorem d_K_init_1 : decode M_K_init.2.1 1 = .ok (.invokespecial 3, 3) := by decide +kernel
theorem d_K_init_4 : decode M_K_init.2.1 4 = .ok (.aload_n 0, 1) := by decide +kernel
theorem d_K_init_5 : decode M_K_init.2.1 5 = .ok (.bipush 64, 2) := by decide +kernel
theorem d_K_init_7 : decode M_K_init.2.1 7 = .ok (.newarray .long, 2) := by decide +kernel
theorem d_K_init_9 : decode M_K_init.2.1 9 = .ok (.putfield 9, 3) := by decide +kernel
theorem d_K_init_12 : decode M_K_init.2.1 12 = .ok (.aload_n 0, 1) := by decide +kernel
theorem d_K_init_13 : decode M_K_init.2.1 13 = .ok (.aconst_null, 1) := by decide +kernel
theorem d_K_init_14 : decode M_K_init.2.1 14 = .ok (.putfield 15, 3) := by decide +kernel
theorem d_K_init_17 : decode M_K_init.2.1 17 = .ok (.return_, 1) := by decide +kernel
theorem d_K_holdRow_0 : decode M_K_holdRow.2.1 0 = .ok (.aload_n 0, 1) := by decide +kernel
theorem d_K_holdRow_1 : decode M_K_holdRow.2.1 1 = .ok (.iload_n 1, 1) := by decide +kernel
theorem d_K_holdRow_2 : decode M_K_holdRow.2.1 2 = .ok (.putfield 19, 3) := by decide +kernel
theorem d_K_holdRow_5 : decode M_K_holdRow.2.1 5 = .ok (.aload_n 0, 1) := by decide +kernel
theorem d_K_holdRow_6 : decode M_K_holdRow.2.1 6 = .ok (.iload_n 2, 1) := by decide +kernel
theorem d_K_holdRow_7 : decode M_K_holdRow.2.1 7 = .ok (.putfield 27, 3) := by decide +kernel
theorem d_K_holdRow_10 : decode M_K_holdRow.2.1 10 = .ok (.aload_n 0, 1) := by decide +kernel
theorem d_K_holdRow_11 : decode M_K_holdRow.2.1 11 = .ok (.getfield 9, 3) := by decide +kernel
theorem d_K_holdRow_14 : decode M_K_holdRow.2.1 14 = .ok (.lconst 0, 1) := by decide +kernel
theorem d_K_holdRow_15 : decode M_K_holdRow.2.1 15 = .ok (.invokestatic 30, 3) := by decide +kernel
theorem d_K_holdRow_18 : decode M_K_holdRow.2.1 18 = .ok (.return_, 1) := by decide +kernel
theorem d_K_holdScript_0 : decode M_K_holdScript.2.1 0 = .ok (.aload_n 0, 1) := by decide +kernel
theorem d_K_holdScript_1 : decode M_K_holdScript.2.1 1 = .ok (.getfield 15, 3) := by decide +kernel
theorem d_K_holdScript_4 : decode M_K_holdScript.2.1 4 = .ok (.ifnonnull 14, 3) := by decide +kernel
theorem d_K_holdScript_7 : decode M_K_holdScript.2.1 7 = .ok (.aload_n 0, 1) := by decide +kernel
theorem d_K_holdScript_8 : decode M_K_holdScript.2.1 8 = .ok (.new 36, 3) := by decide +kernel
theorem d_K_holdScript_11 : decode M_K_holdScript.2.1 11 = .ok (.dup, 1) := by decide +kernel
theorem d_K_holdScript_12 : decode M_K_holdScript.2.1 12 = .ok (.invokespecial 38, 3) := by decide +kernel
theorem d_K_holdScript_15 : decode M_K_holdScript.2.1 15 = .ok (.putfield 15, 3) := by decide +kernel
theorem d_K_holdScript_18 : decode M_K_holdScript.2.1 18 = .ok (.aload_n 0, 1) := by decide +kernel
theorem d_K_holdScript_19 : decode M_K_holdScript.2.1 19 = .ok (.getfield 15, 3) := by decide +kernel
theorem d_K_holdScript_22 : decode M_K_holdScript.2.1 22 = .ok (.aload_n 1, 1) := by decide +kernel
theorem d_K_holdScript_23 : decode M_K_holdScript.2.1 23 = .ok (.invokevirtual 39, 3) := by decide +kernel
theorem d_K_holdScript_26 : decode M_K_holdScript.2.1 26 = .ok (.aload_n 0, 1) := by decide +kernel
theorem d_K_holdScript_27 : decode M_K_holdScript.2.1 27 = .ok (.iconst 5, 1) := by decide +kernel
theorem d_K_holdScript_28 : decode M_K_holdScript.2.1 28 = .ok (.putfield 19, 3) := by decide +kernel
theorem d_K_holdScript_31 : decode M_K_holdScript.2.1 31 = .ok (.return_, 1) := by decide +kernel
theorem d_K_heldScript_0 : decode M_K_heldScript.2.1 0 = .ok (.aload_n 0, 1) := by decide +kernel
theorem d_K_heldScript_1 : decode M_K_heldScript.2.1 1 = .ok (.getfield 19, 3) := by decide +kernel
theorem d_K_heldScript_4 : decode M_K_heldScript.2.1 4 = .ok (.iconst 5, 1) := by decide +kernel
theorem d_K_heldScript_5 : decode M_K_heldScript.2.1 5 = .ok (.if_icmp .ne 10, 3) := by decide +kernel
theorem d_K_heldScript_8 : decode M_K_heldScript.2.1 8 = .ok (.aload_n 0, 1) := by decide +kernel
theorem d_K_heldScript_9 : decode M_K_heldScript.2.1 9 = .ok (.getfield 15, 3) := by decide +kernel
theorem d_K_heldScript_12 : decode M_K_heldScript.2.1 12 = .ok (.goto 4, 3) := by decide +kernel
theorem d_K_heldScript_15 : decode M_K_heldScript.2.1 15 = .ok (.aconst_null, 1) := by decide +kernel
theorem d_K_heldScript_16 : decode M_K_heldScript.2.1 16 = .ok (.areturn, 1) := by decide +kernel
theorem d_K_holdsRow_0 : decode M_K_holdsRow.2.1 0 = .ok (.aload_n 0, 1) := by decide +kernel
theorem d_K_holdsRow_1 : decode M_K_holdsRow.2.1 1 = .ok (.getfield 19, 3) := by decide +kernel
theorem d_K_holdsRow_4 : decode M_K_holdsRow.2.1 4 = .ok (.iconst 1, 1) := by decide +kernel
theorem d_K_holdsRow_5 : decode M_K_holdsRow.2.1 5 = .ok (.iconst 4, 1) := by decide +kernel
theorem d_K_holdsRow_6 : decode M_K_holdsRow.2.1 6 = .ok (.invokestatic 23, 3) := by decide +kernel
theorem d_K_holdsRow_9 : decode M_K_holdsRow.2.1 9 = .ok (.ireturn, 1) := by decide +kernel
theorem d_K_narrowed_0 : decode M_K_narrowed.2.1 0 = .ok (.aload_n 0, 1) := by decide +kernel
theorem d_K_narrowed_1 : decode M_K_narrowed.2.1 1 = .ok (.getfield 19, 3) := by decide +kernel
theorem d_K_narrowed_4 : decode M_K_narrowed.2.1 4 = .ok (.tableswitch 42 1 3 #[28, 33, 38], 28) := by decide +kernel
theorem d_K_narrowed_32 : decode M_K_narrowed.2.1 32 = .ok (.lload_n 1, 1) := by decide +kernel
theorem d_K_narrowed_33 : decode M_K_narrowed.2.1 33 = .ok (.l2i, 1) := by decide +kernel
theorem d_K_narrowed_34 : decode M_K_narrowed.2.1 34 = .ok (.i2b, 1) := by decide +kernel
theorem d_K_narrowed_35 : decode M_K_narrowed.2.1 35 = .ok (.i2l, 1) := by decide +kernel
theorem d_K_narrowed_36 : decode M_K_narrowed.2.1 36 = .ok (.lreturn, 1) := by decide +kernel
theorem d_K_narrowed_37 : decode M_K_narrowed.2.1 37 = .ok (.lload_n 1, 1) := by decide +kernel
theorem d_K_narrowed_38 : decode M_K_narrowed.2.1 38 = .ok (.l2i, 1) := by decide +kernel
theorem d_K_narrowed_39 : decode M_K_narrowed.2.1 39 = .ok (.i2s, 1) := by decide +kernel
theorem d_K_narrowed_40 : decode M_K_narrowed.2.1 40 = .ok (.i2l, 1) := by decide +kernel
theorem d_K_narrowed_41 : decode M_K_narrowed.2.1 41 = .ok (.lreturn, 1) := by decide +kernel
theorem d_K_narrowed_42 : decode M_K_narrowed.2.1 42 = .ok (.lload_n 1, 1) := by decide +kernel
theorem d_K_narrowed_43 : decode M_K_narrowed.2.1 43 = .ok (.l2i, 1) := by decide +kernel
theorem d_K_narrowed_44 : decode M_K_narrowed.2.1 44 = .ok (.i2l, 1) := by decide +kernel
theorem d_K_narrowed_45 : decode M_K_narrowed.2.1 45 = .ok (.lreturn, 1) := by decide +kernel
theorem d_K_narrowed_46 : decode M_K_narrowed.2.1 46 = .ok (.lload_n 1, 1) := by decide +kernel
theorem d_K_narrowed_47 : decode M_K_narrowed.2.1 47 = .ok (.lreturn, 1) := by decide +kernel
theorem d_K_hasPlaces_0 : decode M_K_hasPlaces.2.1 0 = .ok (.iload_n 2, 1) := by decide +kernel
theorem d_K_hasPlaces_1 : decode M_K_hasPlaces.2.1 1 = .ok (.ifCond .lt 29, 3) := by decide +kernel
theorem d_K_hasPlaces_4 : decode M_K_hasPlaces.2.1 4 = .ok (.iload_n 1, 1) := by decide +kernel
theorem d_K_hasPlaces_5 : decode M_K_hasPlaces.2.1 5 = .ok (.ifCond .lt 25, 3) := by decide +kernel
theorem d_K_hasPlaces_8 : decode M_K_hasPlaces.2.1 8 = .ok (.iload_n 2, 1) := by decide +kernel
theorem d_K_hasPlaces_9 : decode M_K_hasPlaces.2.1 9 = .ok (.aload_n 0, 1) := by decide +kernel
theorem d_K_hasPlaces_10 : decode M_K_hasPlaces.2.1 10 = .ok (.getfield 27, 3) := by decide +kernel
theorem d_K_hasPlaces_13 : decode M_K_hasPlaces.2.1 13 = .ok (.if_icmp .gt 17, 3) := by decide +kernel
theorem d_K_hasPlaces_16 : decode M_K_hasPlaces.2.1 16 = .ok (.iload_n 1, 1) := by decide +kernel
theorem d_K_hasPlaces_17 : decode M_K_hasPlaces.2.1 17 = .ok (.aload_n 0, 1) := by decide +kernel
theorem d_K_hasPlaces_18 : decode M_K_hasPlaces.2.1 18 = .ok (.getfield 27, 3) := by decide +kernel
theorem d_K_hasPlaces_21 : decode M_K_hasPlaces.2.1 21 = .ok (.iload_n 2, 1) := by decide +kernel
theorem d_K_hasPlaces_22 : decode M_K_hasPlaces.2.1 22 = .ok (.isub, 1) := by decide +kernel
theorem d_K_hasPlaces_23 : decode M_K_hasPlaces.2.1 23 = .ok (.if_icmp .gt 7, 3) := by decide +kernel
theorem d_K_hasPlaces_26 : decode M_K_hasPlaces.2.1 26 = .ok (.iconst 1, 1) := by decide +kernel
theorem d_K_hasPlaces_27 : decode M_K_hasPlaces.2.1 27 = .ok (.goto 4, 3) := by decide +kernel
theorem d_K_hasPlaces_30 : decode M_K_hasPlaces.2.1 30 = .ok (.iconst 0, 1) := by decide +kernel
theorem d_K_hasPlaces_31 : decode M_K_hasPlaces.2.1 31 = .ok (.ireturn, 1) := by decide +kernel
theorem d_JA_fillI_0 : decode M_JA_fillI.2.1 0 = .ok (.iconst 0, 1) := by decide +kernel
theorem d_JA_fillI_1 : decode M_JA_fillI.2.1 1 = .ok (.istore_n 2, 1) := by decide +kernel
theorem d_JA_fillI_2 : decode M_JA_fillI.2.1 2 = .ok (.aload_n 0, 1) := by decide +kernel
theorem d_JA_fillI_3 : decode M_JA_fillI.2.1 3 = .ok (.arraylength, 1) := by decide +kernel
theorem d_JA_fillI_4 : decode M_JA_fillI.2.1 4 = .ok (.istore_n 3, 1) := by decide +kernel
theorem d_JA_fillI_5 : decode M_JA_fillI.2.1 5 = .ok (.iload_n 2, 1) := by decide +kernel
theorem d_JA_fillI_6 : decode M_JA_fillI.2.1 6 = .ok (.iload_n 3, 1) := by decide +kernel
theorem d_JA_fillI_7 : decode M_JA_fillI.2.1 7 = .ok (.if_icmp .ge 13, 3) := by decide +kernel
theorem d_JA_fillI_10 : decode M_JA_fillI.2.1 10 = .ok (.aload_n 0, 1) := by decide +kernel
theorem d_JA_fillI_11 : decode M_JA_fillI.2.1 11 = .ok (.iload_n 2, 1) := by decide +kernel
theorem d_JA_fillI_12 : decode M_JA_fillI.2.1 12 = .ok (.iload_n 1, 1) := by decide +kernel
theorem d_JA_fillI_13 : decode M_JA_fillI.2.1 13 = .ok (.iastore, 1) := by decide +kernel
theorem d_JA_fillI_14 : decode M_JA_fillI.2.1 14 = .ok (.iinc 2 1, 3) := by decide +kernel
theorem d_JA_fillI_17 : decode M_JA_fillI.2.1 17 = .ok (.goto (-12), 3) := by decide +kernel
theorem d_JA_fillI_20 : decode M_JA_fillI.2.1 20 = .ok (.return_, 1) := by decide +kernel
theorem d_JA_fillJ_0 : decode M_JA_fillJ.2.1 0 = .ok (.iconst 0, 1) := by decide +kernel
theorem d_JA_fillJ_1 : decode M_JA_fillJ.2.1 1 = .ok (.istore_n 3, 1) := by decide +kernel
theorem d_JA_fillJ_2 : decode M_JA_fillJ.2.1 2 = .ok (.aload_n 0, 1) := by decide +kernel
theorem d_JA_fillJ_3 : decode M_JA_fillJ.2.1 3 = .ok (.arraylength, 1) := by decide +kernel
theorem d_JA_fillJ_4 : decode M_JA_fillJ.2.1 4 = .ok (.istore 4, 2) := by decide +kernel
theorem d_JA_fillJ_6 : decode M_JA_fillJ.2.1 6 = .ok (.iload_n 3, 1) := by decide +kernel
theorem d_JA_fillJ_7 : decode M_JA_fillJ.2.1 7 = .ok (.iload 4, 2) := by decide +kernel
theorem d_JA_fillJ_9 : decode M_JA_fillJ.2.1 9 = .ok (.if_icmp .ge 13, 3) := by decide +kernel
theorem d_JA_fillJ_12 : decode M_JA_fillJ.2.1 12 = .ok (.aload_n 0, 1) := by decide +kernel
theorem d_JA_fillJ_13 : decode M_JA_fillJ.2.1 13 = .ok (.iload_n 3, 1) := by decide +kernel
theorem d_JA_fillJ_14 : decode M_JA_fillJ.2.1 14 = .ok (.lload_n 1, 1) := by decide +kernel
theorem d_JA_fillJ_15 : decode M_JA_fillJ.2.1 15 = .ok (.lastore, 1) := by decide +kernel
theorem d_JA_fillJ_16 : decode M_JA_fillJ.2.1 16 = .ok (.iinc 3 1, 3) := by decide +kernel
theorem d_JA_fillJ_19 : decode M_JA_fillJ.2.1 19 = .ok (.goto (-13), 3) := by decide +kernel
theorem d_JA_fillJ_22 : decode M_JA_fillJ.2.1 22 = .ok (.return_, 1) := by decide +kernel
theorem d_JM_max_0 : decode M_JM_max.2.1 0 = .ok (.iload_n 0, 1) := by decide +kernel
theorem d_JM_max_1 : decode M_JM_max.2.1 1 = .ok (.iload_n 1, 1) := by decide +kernel
theorem d_JM_max_2 : decode M_JM_max.2.1 2 = .ok (.if_icmp .lt 7, 3) := by decide +kernel
theorem d_JM_max_5 : decode M_JM_max.2.1 5 = .ok (.iload_n 0, 1) := by decide +kernel
theorem d_JM_max_6 : decode M_JM_max.2.1 6 = .ok (.goto 4, 3) := by decide +kernel
theorem d_JM_max_9 : decode M_JM_max.2.1 9 = .ok (.iload_n 1, 1) := by decide +kernel
theorem d_JM_max_10 : decode M_JM_max.2.1 10 = .ok (.ireturn, 1) := by decide +kernel
theorem d_JM_min_0 : decode M_JM_min.2.1 0 = .ok (.iload_n 0, 1) := by decide +kernel
theorem d_JM_min_1 : decode M_JM_min.2.1 1 = .ok (.iload_n 1, 1) := by decide +kernel
theorem d_JM_min_2 : decode M_JM_min.2.1 2 = .ok (.if_icmp .gt 7, 3) := by decide +kernel
theorem d_JM_min_5 : decode M_JM_min.2.1 5 = .ok (.iload_n 0, 1) := by decide +kernel
theorem d_JM_min_6 : decode M_JM_min.2.1 6 = .ok (.goto 4, 3) := by decide +kernel
theorem d_JM_min_9 : decode M_JM_min.2.1 9 = .ok (.iload_n 1, 1) := by decide +kernel
theorem d_JM_min_10 : decode M_JM_min.2.1 10 = .ok (.ireturn, 1) := by decide +kernel
theorem d_JM_abs_0 : decode M_JM_abs.2.1 0 = .ok (.iload_n 0, 1) := by decide +kernel
theorem d_JM_abs_1 : decode M_JM_abs.2.1 1 = .ok (.ifCond .ge 8, 3) := by decide +kernel
theorem d_JM_abs_4 : decode M_JM_abs.2.1 4 = .ok (.iload_n 0, 1) := by decide +kernel
theorem d_JM_abs_5 : decode M_JM_abs.2.1 5 = .ok (.ineg, 1) := by decide +kernel
theorem d_JM_abs_6 : decode M_JM_abs.2.1 6 = .ok (.goto 4, 3) := by decide +kernel
theorem d_JM_abs_9 : decode M_JM_abs.2.1 9 = .ok (.iload_n 0, 1) := by decide +kernel
theorem d_JM_abs_10 : decode M_JM_abs.2.1 10 = .ok (.ireturn, 1) := by decide +kernel
theorem d_JI_bitCount_0 : decode M_JI_bitCount.2.1 0 = .ok (.iload_n 0, 1) := by decide +kernel
theorem d_JI_bitCount_1 : decode M_JI_bitCount.2.1 1 = .ok (.iload_n 0, 1) := by decide +kernel
theorem d_JI_bitCount_2 : decode M_JI_bitCount.2.1 2 = .ok (.iconst 1, 1) := by decide +kernel
theorem d_JI_bitCount_3 : decode M_JI_bitCount.2.1 3 = .ok (.iushr, 1) := by decide +kernel
theorem d_JI_bitCount_4 : decode M_JI_bitCount.2.1 4 = .ok (.ldc_w 265, 3) := by decide +kernel
theorem d_JI_bitCount_7 : decode M_JI_bitCount.2.1 7 = .ok (.iand, 1) := by decide +kernel
theorem d_JI_bitCount_8 : decode M_JI_bitCount.2.1 8 = .ok (.isub, 1) := by decide +kernel
theorem d_JI_bitCount_9 : decode M_JI_bitCount.2.1 9 = .ok (.istore_n 0, 1) := by decide +kernel
theorem d_JI_bitCount_10 : decode M_JI_bitCount.2.1 10 = .ok (.iload_n 0, 1) := by decide +kernel
theorem d_JI_bitCount_11 : decode M_JI_bitCount.2.1 11 = .ok (.ldc_w 266, 3) := by decide +kernel
theorem d_JI_bitCount_14 : decode M_JI_bitCount.2.1 14 = .ok (.iand, 1) := by decide +kernel
theorem d_JI_bitCount_15 : decode M_JI_bitCount.2.1 15 = .ok (.iload_n 0, 1) := by decide +kernel
theorem d_JI_bitCount_16 : decode M_JI_bitCount.2.1 16 = .ok (.iconst 2, 1) := by decide +kernel
theorem d_JI_bitCount_17 : decode M_JI_bitCount.2.1 17 = .ok (.iushr, 1) := by decide +kernel
theorem d_JI_bitCount_18 : decode M_JI_bitCount.2.1 18 = .ok (.ldc_w 266, 3) := by decide +kernel
theorem d_JI_bitCount_21 : decode M_JI_bitCount.2.1 21 = .ok (.iand, 1) := by decide +kernel
theorem d_JI_bitCount_22 : decode M_JI_bitCount.2.1 22 = .ok (.iadd, 1) := by decide +kernel
theorem d_JI_bitCount_23 : decode M_JI_bitCount.2.1 23 = .ok (.istore_n 0, 1) := by decide +kernel
theorem d_JI_bitCount_24 : decode M_JI_bitCount.2.1 24 = .ok (.iload_n 0, 1) := by decide +kernel
theorem d_JI_bitCount_25 : decode M_JI_bitCount.2.1 25 = .ok (.iload_n 0, 1) := by decide +kernel
theorem d_JI_bitCount_26 : decode M_JI_bitCount.2.1 26 = .ok (.iconst 4, 1) := by decide +kernel
theorem d_JI_bitCount_27 : decode M_JI_bitCount.2.1 27 = .ok (.iushr, 1) := by decide +kernel
theorem d_JI_bitCount_28 : decode M_JI_bitCount.2.1 28 = .ok (.iadd, 1) := by decide +kernel
theorem d_JI_bitCount_29 : decode M_JI_bitCount.2.1 29 = .ok (.ldc_w 267, 3) := by decide +kernel
theorem d_JI_bitCount_32 : decode M_JI_bitCount.2.1 32 = .ok (.iand, 1) := by decide +kernel
theorem d_JI_bitCount_33 : decode M_JI_bitCount.2.1 33 = .ok (.istore_n 0, 1) := by decide +kernel
theorem d_JI_bitCount_34 : decode M_JI_bitCount.2.1 34 = .ok (.iload_n 0, 1) := by decide +kernel
theorem d_JI_bitCount_35 : decode M_JI_bitCount.2.1 35 = .ok (.iload_n 0, 1) := by decide +kernel
theorem d_JI_bitCount_36 : decode M_JI_bitCount.2.1 36 = .ok (.bipush 8, 2) := by decide +kernel
theorem d_JI_bitCount_38 : decode M_JI_bitCount.2.1 38 = .ok (.iushr, 1) := by decide +kernel
theorem d_JI_bitCount_39 : decode M_JI_bitCount.2.1 39 = .ok (.iadd, 1) := by decide +kernel
theorem d_JI_bitCount_40 : decode M_JI_bitCount.2.1 40 = .ok (.istore_n 0, 1) := by decide +kernel
theorem d_JI_bitCount_41 : decode M_JI_bitCount.2.1 41 = .ok (.iload_n 0, 1) := by decide +kernel
theorem d_JI_bitCount_42 : decode M_JI_bitCount.2.1 42 = .ok (.iload_n 0, 1) := by decide +kernel
theorem d_JI_bitCount_43 : decode M_JI_bitCount.2.1 43 = .ok (.bipush 16, 2) := by decide +kernel
theorem d_JI_bitCount_45 : decode M_JI_bitCount.2.1 45 = .ok (.iushr, 1) := by decide +kernel
theorem d_JI_bitCount_46 : decode M_JI_bitCount.2.1 46 = .ok (.iadd, 1) := by decide +kernel
theorem d_JI_bitCount_47 : decode M_JI_bitCount.2.1 47 = .ok (.istore_n 0, 1) := by decide +kernel
theorem d_JI_bitCount_48 : decode M_JI_bitCount.2.1 48 = .ok (.iload_n 0, 1) := by decide +kernel
theorem d_JI_bitCount_49 : decode M_JI_bitCount.2.1 49 = .ok (.bipush 63, 2) := by decide +kernel
theorem d_JI_bitCount_51 : decode M_JI_bitCount.2.1 51 = .ok (.iand, 1) := by decide +kernel
theorem d_JI_bitCount_52 : decode M_JI_bitCount.2.1 52 = .ok (.ireturn, 1) := by decide +kernel
