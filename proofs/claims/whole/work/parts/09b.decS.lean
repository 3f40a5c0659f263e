theorem d_S_init_0 : decode M_S_init.2.1 0 = .ok (.aload_n 0, 1) := by decide +kernel
theorem d_S_init_1 : decode M_S_init.2.1 1 = .ok (.invokespecial 3, 3) := by decide +kernel
theorem d_S_init_4 : decode M_S_init.2.1 4 = .ok (.aload_n 0, 1) := by decide +kernel
theorem d_S_init_5 : decode M_S_init.2.1 5 = .ok (.bipush 100, 2) := by decide +kernel
theorem d_S_init_7 : decode M_S_init.2.1 7 = .ok (.newarray .int, 2) := by decide +kernel
theorem d_S_init_9 : decode M_S_init.2.1 9 = .ok (.putfield 9, 3) := by decide +kernel
theorem d_S_init_12 : decode M_S_init.2.1 12 = .ok (.aload_n 0, 1) := by decide +kernel
theorem d_S_init_13 : decode M_S_init.2.1 13 = .ok (.bipush 100, 2) := by decide +kernel
theorem d_S_init_15 : decode M_S_init.2.1 15 = .ok (.newarray .int, 2) := by decide +kernel
theorem d_S_init_17 : decode M_S_init.2.1 17 = .ok (.putfield 15, 3) := by decide +kernel
theorem d_S_init_20 : decode M_S_init.2.1 20 = .ok (.aload_n 0, 1) := by decide +kernel
theorem d_S_init_21 : decode M_S_init.2.1 21 = .ok (.bipush 100, 2) := by decide +kernel
theorem d_S_init_23 : decode M_S_init.2.1 23 = .ok (.newarray .int, 2) := by decide +kernel
theorem d_S_init_25 : decode M_S_init.2.1 25 = .ok (.putfield 18, 3) := by decide +kernel
theorem d_S_init_28 : decode M_S_init.2.1 28 = .ok (.aload_n 0, 1) := by decide +kernel
theorem d_S_init_29 : decode M_S_init.2.1 29 = .ok (.bipush 100, 2) := by decide +kernel
theorem d_S_init_31 : decode M_S_init.2.1 31 = .ok (.newarray .int, 2) := by decide +kernel
theorem d_S_init_33 : decode M_S_init.2.1 33 = .ok (.putfield 21, 3) := by decide +kernel
theorem d_S_init_36 : decode M_S_init.2.1 36 = .ok (.aload_n 0, 1) := by decide +kernel
theorem d_S_init_37 : decode M_S_init.2.1 37 = .ok (.bipush 100, 2) := by decide +kernel
theorem d_S_init_39 : decode M_S_init.2.1 39 = .ok (.newarray .int, 2) := by decide +kernel
theorem d_S_init_41 : decode M_S_init.2.1 41 = .ok (.putfield 24, 3) := by decide +kernel
theorem d_S_init_44 : decode M_S_init.2.1 44 = .ok (.aload_n 0, 1) := by decide +kernel
theorem d_S_init_45 : decode M_S_init.2.1 45 = .ok (.bipush 100, 2) := by decide +kernel
theorem d_S_init_47 : decode M_S_init.2.1 47 = .ok (.newarray .int, 2) := by decide +kernel
theorem d_S_init_49 : decode M_S_init.2.1 49 = .ok (.putfield 27, 3) := by decide +kernel
theorem d_S_init_52 : decode M_S_init.2.1 52 = .ok (.aload_n 0, 1) := by decide +kernel
theorem d_S_init_53 : decode M_S_init.2.1 53 = .ok (.bipush 100, 2) := by decide +kernel
theorem d_S_init_55 : decode M_S_init.2.1 55 = .ok (.newarray .int, 2) := by decide +kernel
theorem d_S_init_57 : decode M_S_init.2.1 57 = .ok (.putfield 30, 3) := by decide +kernel
theorem d_S_init_60 : decode M_S_init.2.1 60 = .ok (.aload_n 0, 1) := by decide +kernel
theorem d_S_init_61 : decode M_S_init.2.1 61 = .ok (.sipush 600, 3) := by decide +kernel
theorem d_S_init_64 : decode M_S_init.2.1 64 = .ok (.newarray .int, 2) := by decide +kernel
theorem d_S_init_66 : decode M_S_init.2.1 66 = .ok (.putfield 33, 3) := by decide +kernel
theorem d_S_init_69 : decode M_S_init.2.1 69 = .ok (.aload_n 0, 1) := by decide +kernel
theorem d_S_init_70 : decode M_S_init.2.1 70 = .ok (.bipush 12, 2) := by decide +kernel
theorem d_S_init_72 : decode M_S_init.2.1 72 = .ok (.newarray .int, 2) := by decide +kernel
theorem d_S_init_74 : decode M_S_init.2.1 74 = .ok (.putfield 36, 3) := by decide +kernel
theorem d_S_init_77 : decode M_S_init.2.1 77 = .ok (.aload_n 0, 1) := by decide +kernel
theorem d_S_init_78 : decode M_S_init.2.1 78 = .ok (.bipush 12, 2) := by decide +kernel
theorem d_S_init_80 : decode M_S_init.2.1 80 = .ok (.newarray .int, 2) := by decide +kernel
theorem d_S_init_82 : decode M_S_init.2.1 82 = .ok (.putfield 39, 3) := by decide +kernel
theorem d_S_init_85 : decode M_S_init.2.1 85 = .ok (.aload_n 0, 1) := by decide +kernel
theorem d_S_init_86 : decode M_S_init.2.1 86 = .ok (.sipush 768, 3) := by decide +kernel
theorem d_S_init_89 : decode M_S_init.2.1 89 = .ok (.newarray .byte, 2) := by decide +kernel
theorem d_S_init_91 : decode M_S_init.2.1 91 = .ok (.putfield 42, 3) := by decide +kernel
theorem d_S_init_94 : decode M_S_init.2.1 94 = .ok (.return_, 1) := by decide +kernel
theorem d_S_empty_0 : decode M_S_empty.2.1 0 = .ok (.aload_n 0, 1) := by decide +kernel
theorem d_S_empty_1 : decode M_S_empty.2.1 1 = .ok (.iload_n 1, 1) := by decide +kernel
theorem d_S_empty_2 : decode M_S_empty.2.1 2 = .ok (.putfield 46, 3) := by decide +kernel
theorem d_S_empty_5 : decode M_S_empty.2.1 5 = .ok (.aload_n 0, 1) := by decide +kernel
theorem d_S_empty_6 : decode M_S_empty.2.1 6 = .ok (.iload_n 2, 1) := by decide +kernel
theorem d_S_empty_7 : decode M_S_empty.2.1 7 = .ok (.putfield 50, 3) := by decide +kernel
theorem d_S_empty_10 : decode M_S_empty.2.1 10 = .ok (.aload_n 0, 1) := by decide +kernel
theorem d_S_empty_11 : decode M_S_empty.2.1 11 = .ok (.iload_n 3, 1) := by decide +kernel
theorem d_S_empty_12 : decode M_S_empty.2.1 12 = .ok (.putfield 53, 3) := by decide +kernel
theorem d_S_empty_15 : decode M_S_empty.2.1 15 = .ok (.aload_n 0, 1) := by decide +kernel
theorem d_S_empty_16 : decode M_S_empty.2.1 16 = .ok (.iconst 0, 1) := by decide +kernel
theorem d_S_empty_17 : decode M_S_empty.2.1 17 = .ok (.putfield 56, 3) := by decide +kernel
theorem d_S_empty_20 : decode M_S_empty.2.1 20 = .ok (.aload_n 0, 1) := by decide +kernel
theorem d_S_empty_21 : decode M_S_empty.2.1 21 = .ok (.getfield 36, 3) := by decide +kernel
theorem d_S_empty_24 : decode M_S_empty.2.1 24 = .ok (.iconst 0, 1) := by decide +kernel
theorem d_S_empty_25 : decode M_S_empty.2.1 25 = .ok (.invokestatic 59, 3) := by decide +kernel
theorem d_S_empty_28 : decode M_S_empty.2.1 28 = .ok (.aload_n 0, 1) := by decide +kernel
theorem d_S_empty_29 : decode M_S_empty.2.1 29 = .ok (.getfield 39, 3) := by decide +kernel
theorem d_S_empty_32 : decode M_S_empty.2.1 32 = .ok (.iconst 0, 1) := by decide +kernel
theorem d_S_empty_33 : decode M_S_empty.2.1 33 = .ok (.invokestatic 59, 3) := by decide +kernel
theorem d_S_empty_36 : decode M_S_empty.2.1 36 = .ok (.return_, 1) := by decide +kernel
theorem d_S_hasPerson_0 : decode M_S_hasPerson.2.1 0 = .ok (.iload_n 1, 1) := by decide +kernel
theorem d_S_hasPerson_1 : decode M_S_hasPerson.2.1 1 = .ok (.iconst 0, 1) := by decide +kernel
theorem d_S_hasPerson_2 : decode M_S_hasPerson.2.1 2 = .ok (.aload_n 0, 1) := by decide +kernel
theorem d_S_hasPerson_3 : decode M_S_hasPerson.2.1 3 = .ok (.getfield 46, 3) := by decide +kernel
theorem d_S_hasPerson_6 : decode M_S_hasPerson.2.1 6 = .ok (.iconst 1, 1) := by decide +kernel
theorem d_S_hasPerson_7 : decode M_S_hasPerson.2.1 7 = .ok (.isub, 1) := by decide +kernel
theorem d_S_hasPerson_8 : decode M_S_hasPerson.2.1 8 = .ok (.invokestatic 71, 3) := by decide +kernel
theorem d_S_hasPerson_11 : decode M_S_hasPerson.2.1 11 = .ok (.ireturn, 1) := by decide +kernel
theorem d_S_hasSecret_0 : decode M_S_hasSecret.2.1 0 = .ok (.iload_n 1, 1) := by decide +kernel
theorem d_S_hasSecret_1 : decode M_S_hasSecret.2.1 1 = .ok (.iconst 0, 1) := by decide +kernel
theorem d_S_hasSecret_2 : decode M_S_hasSecret.2.1 2 = .ok (.aload_n 0, 1) := by decide +kernel
theorem d_S_hasSecret_3 : decode M_S_hasSecret.2.1 3 = .ok (.getfield 53, 3) := by decide +kernel
theorem d_S_hasSecret_6 : decode M_S_hasSecret.2.1 6 = .ok (.iconst 1, 1) := by decide +kernel
theorem d_S_hasSecret_7 : decode M_S_hasSecret.2.1 7 = .ok (.isub, 1) := by decide +kernel
theorem d_S_hasSecret_8 : decode M_S_hasSecret.2.1 8 = .ok (.invokestatic 71, 3) := by decide +kernel
theorem d_S_hasSecret_11 : decode M_S_hasSecret.2.1 11 = .ok (.ireturn, 1) := by decide +kernel
theorem d_S_hasPeople_0 : decode M_S_hasPeople.2.1 0 = .ok (.iload_n 1, 1) := by decide +kernel
theorem d_S_hasPeople_1 : decode M_S_hasPeople.2.1 1 = .ok (.ifCond .lt 16, 3) := by decide +kernel
theorem d_S_hasPeople_4 : decode M_S_hasPeople.2.1 4 = .ok (.iload_n 1, 1) := by decide +kernel
theorem d_S_hasPeople_5 : decode M_S_hasPeople.2.1 5 = .ok (.aload_n 0, 1) := by decide +kernel
theorem d_S_hasPeople_6 : decode M_S_hasPeople.2.1 6 = .ok (.getfield 46, 3) := by decide +kernel
theorem d_S_hasPeople_9 : decode M_S_hasPeople.2.1 9 = .ok (.ishr, 1) := by decide +kernel
theorem d_S_hasPeople_10 : decode M_S_hasPeople.2.1 10 = .ok (.ifCond .ne 7, 3) := by decide +kernel
theorem d_S_hasPeople_13 : decode M_S_hasPeople.2.1 13 = .ok (.iconst 1, 1) := by decide +kernel
theorem d_S_hasPeople_14 : decode M_S_hasPeople.2.1 14 = .ok (.goto 4, 3) := by decide +kernel
theorem d_S_hasPeople_17 : decode M_S_hasPeople.2.1 17 = .ok (.iconst 0, 1) := by decide +kernel
theorem d_S_hasPeople_18 : decode M_S_hasPeople.2.1 18 = .ok (.ireturn, 1) := by decide +kernel
theorem d_S_tellScene_0 : decode M_S_tellScene.2.1 0 = .ok (.aload_n 0, 1) := by decide +kernel
theorem d_S_tellScene_1 : decode M_S_tellScene.2.1 1 = .ok (.getfield 9, 3) := by decide +kernel
theorem d_S_tellScene_4 : decode M_S_tellScene.2.1 4 = .ok (.aload_n 0, 1) := by decide +kernel
theorem d_S_tellScene_5 : decode M_S_tellScene.2.1 5 = .ok (.getfield 56, 3) := by decide +kernel
theorem d_S_tellScene_8 : decode M_S_tellScene.2.1 8 = .ok (.iload_n 1, 1) := by decide +kernel
theorem d_S_tellScene_9 : decode M_S_tellScene.2.1 9 = .ok (.iastore, 1) := by decide +kernel
theorem d_S_tellScene_10 : decode M_S_tellScene.2.1 10 = .ok (.aload_n 0, 1) := by decide +kernel
theorem d_S_tellScene_11 : decode M_S_tellScene.2.1 11 = .ok (.getfield 15, 3) := by decide +kernel
theorem d_S_tellScene_14 : decode M_S_tellScene.2.1 14 = .ok (.aload_n 0, 1) := by decide +kernel
theorem d_S_tellScene_15 : decode M_S_tellScene.2.1 15 = .ok (.getfield 56, 3) := by decide +kernel
theorem d_S_tellScene_18 : decode M_S_tellScene.2.1 18 = .ok (.iload_n 2, 1) := by decide +kernel
theorem d_S_tellScene_19 : decode M_S_tellScene.2.1 19 = .ok (.iastore, 1) := by decide +kernel
theorem d_S_tellScene_20 : decode M_S_tellScene.2.1 20 = .ok (.aload_n 0, 1) := by decide +kernel
theorem d_S_tellScene_21 : decode M_S_tellScene.2.1 21 = .ok (.getfield 18, 3) := by decide +kernel
theorem d_S_tellScene_24 : decode M_S_tellScene.2.1 24 = .ok (.aload_n 0, 1) := by decide +kernel
theorem d_S_tellScene_25 : decode M_S_tellScene.2.1 25 = .ok (.getfield 56, 3) := by decide +kernel
theorem d_S_tellScene_28 : decode M_S_tellScene.2.1 28 = .ok (.iload_n 3, 1) := by decide +kernel
theorem d_S_tellScene_29 : decode M_S_tellScene.2.1 29 = .ok (.iastore, 1) := by decide +kernel
theorem d_S_tellScene_30 : decode M_S_tellScene.2.1 30 = .ok (.aload_n 0, 1) := by decide +kernel
theorem d_S_tellScene_31 : decode M_S_tellScene.2.1 31 = .ok (.getfield 21, 3) := by decide +kernel
theorem d_S_tellScene_34 : decode M_S_tellScene.2.1 34 = .ok (.aload_n 0, 1) := by decide +kernel
theorem d_S_tellScene_35 : decode M_S_tellScene.2.1 35 = .ok (.getfield 56, 3) := by decide +kernel
theorem d_S_tellScene_38 : decode M_S_tellScene.2.1 38 = .ok (.iload 4, 2) := by decide +kernel
theorem d_S_tellScene_40 : decode M_S_tellScene.2.1 40 = .ok (.iastore, 1) := by decide +kernel
theorem d_S_tellScene_41 : decode M_S_tellScene.2.1 41 = .ok (.aload_n 0, 1) := by decide +kernel
theorem d_S_tellScene_42 : decode M_S_tellScene.2.1 42 = .ok (.getfield 24, 3) := by decide +kernel
theorem d_S_tellScene_45 : decode M_S_tellScene.2.1 45 = .ok (.aload_n 0, 1) := by decide +kernel
theorem d_S_tellScene_46 : decode M_S_tellScene.2.1 46 = .ok (.getfield 56, 3) := by decide +kernel
theorem d_S_tellScene_49 : decode M_S_tellScene.2.1 49 = .ok (.iload 5, 2) := by decide +kernel
theorem d_S_tellScene_51 : decode M_S_tellScene.2.1 51 = .ok (.iastore, 1) := by decide +kernel
theorem d_S_tellScene_52 : decode M_S_tellScene.2.1 52 = .ok (.aload_n 0, 1) := by decide +kernel
theorem d_S_tellScene_53 : decode M_S_tellScene.2.1 53 = .ok (.getfield 27, 3) := by decide +kernel
theorem d_S_tellScene_56 : decode M_S_tellScene.2.1 56 = .ok (.aload_n 0, 1) := by decide +kernel
theorem d_S_tellScene_57 : decode M_S_tellScene.2.1 57 = .ok (.getfield 56, 3) := by decide +kernel
theorem d_S_tellScene_60 : decode M_S_tellScene.2.1 60 = .ok (.iconst 0, 1) := by decide +kernel
theorem d_S_tellScene_61 : decode M_S_tellScene.2.1 61 = .ok (.iastore, 1) := by decide +kernel
theorem d_S_tellScene_62 : decode M_S_tellScene.2.1 62 = .ok (.aload_n 0, 1) := by decide +kernel
theorem d_S_tellScene_63 : decode M_S_tellScene.2.1 63 = .ok (.getfield 30, 3) := by decide +kernel
theorem d_S_tellScene_66 : decode M_S_tellScene.2.1 66 = .ok (.aload_n 0, 1) := by decide +kernel
theorem d_S_tellScene_67 : decode M_S_tellScene.2.1 67 = .ok (.getfield 56, 3) := by decide +kernel
theorem d_S_tellScene_70 : decode M_S_tellScene.2.1 70 = .ok (.iconst 0, 1) := by decide +kernel
theorem d_S_tellScene_71 : decode M_S_tellScene.2.1 71 = .ok (.iastore, 1) := by decide +kernel
theorem d_S_tellScene_72 : decode M_S_tellScene.2.1 72 = .ok (.aload_n 0, 1) := by decide +kernel
theorem d_S_tellScene_73 : decode M_S_tellScene.2.1 73 = .ok (.dup, 1) := by decide +kernel
theorem d_S_tellScene_74 : decode M_S_tellScene.2.1 74 = .ok (.getfield 56, 3) := by decide +kernel
theorem d_S_tellScene_77 : decode M_S_tellScene.2.1 77 = .ok (.dup_x1, 1) := by decide +kernel
theorem d_S_tellScene_78 : decode M_S_tellScene.2.1 78 = .ok (.iconst 1, 1) := by decide +kernel
theorem d_S_tellScene_79 : decode M_S_tellScene.2.1 79 = .ok (.iadd, 1) := by decide +kernel
theorem d_S_tellScene_80 : decode M_S_tellScene.2.1 80 = .ok (.putfield 56, 3) := by decide +kernel
theorem d_S_tellScene_83 : decode M_S_tellScene.2.1 83 = .ok (.ireturn, 1) := by decide +kernel
theorem d_S_hasScene_0 : decode M_S_hasScene.2.1 0 = .ok (.iload_n 1, 1) := by decide +kernel
theorem d_S_hasScene_1 : decode M_S_hasScene.2.1 1 = .ok (.iconst 0, 1) := by decide +kernel
theorem d_S_hasScene_2 : decode M_S_hasScene.2.1 2 = .ok (.aload_n 0, 1) := by decide +kernel
theorem d_S_hasScene_3 : decode M_S_hasScene.2.1 3 = .ok (.getfield 56, 3) := by decide +kernel
theorem d_S_hasScene_6 : decode M_S_hasScene.2.1 6 = .ok (.iconst 1, 1) := by decide +kernel
theorem d_S_hasScene_7 : decode M_S_hasScene.2.1 7 = .ok (.isub, 1) := by decide +kernel
theorem d_S_hasScene_8 : decode M_S_hasScene.2.1 8 = .ok (.invokestatic 71, 3) := by decide +kernel
theorem d_S_hasScene_11 : decode M_S_hasScene.2.1 11 = .ok (.ifCond .eq 16, 3) := by decide +kernel
theorem d_S_hasScene_14 : decode M_S_hasScene.2.1 14 = .ok (.aload_n 0, 1) := by decide +kernel
theorem d_S_hasScene_15 : decode M_S_hasScene.2.1 15 = .ok (.getfield 27, 3) := by decide +kernel
theorem d_S_hasScene_18 : decode M_S_hasScene.2.1 18 = .ok (.iload_n 1, 1) := by decide +kernel
theorem d_S_hasScene_19 : decode M_S_hasScene.2.1 19 = .ok (.iaload, 1) := by decide +kernel
theorem d_S_hasScene_20 : decode M_S_hasScene.2.1 20 = .ok (.ifCond .ne 7, 3) := by decide +kernel
theorem d_S_hasScene_23 : decode M_S_hasScene.2.1 23 = .ok (.iconst 1, 1) := by decide +kernel
theorem d_S_hasScene_24 : decode M_S_hasScene.2.1 24 = .ok (.goto 4, 3) := by decide +kernel
theorem d_S_hasScene_27 : decode M_S_hasScene.2.1 27 = .ok (.iconst 0, 1) := by decide +kernel
theorem d_S_hasScene_28 : decode M_S_hasScene.2.1 28 = .ok (.ireturn, 1) := by decide +kernel
theorem d_S_addAct_0 : decode M_S_addAct.2.1 0 = .ok (.aload_n 0, 1) := by decide +kernel
theorem d_S_addAct_1 : decode M_S_addAct.2.1 1 = .ok (.getfield 33, 3) := by decide +kernel
theorem d_S_addAct_4 : decode M_S_addAct.2.1 4 = .ok (.iload_n 1, 1) := by decide +kernel
theorem d_S_addAct_5 : decode M_S_addAct.2.1 5 = .ok (.bipush 6, 2) := by decide +kernel
theorem d_S_addAct_7 : decode M_S_addAct.2.1 7 = .ok (.imul, 1) := by decide +kernel
theorem d_S_addAct_8 : decode M_S_addAct.2.1 8 = .ok (.aload_n 0, 1) := by decide +kernel
theorem d_S_addAct_9 : decode M_S_addAct.2.1 9 = .ok (.getfield 30, 3) := by decide +kernel
theorem d_S_addAct_12 : decode M_S_addAct.2.1 12 = .ok (.iload_n 1, 1) := by decide +kernel
theorem d_S_addAct_13 : decode M_S_addAct.2.1 13 = .ok (.iaload, 1) := by decide +kernel
theorem d_S_addAct_14 : decode M_S_addAct.2.1 14 = .ok (.iadd, 1) := by decide +kernel
theorem d_S_addAct_15 : decode M_S_addAct.2.1 15 = .ok (.iload_n 2, 1) := by decide +kernel
theorem d_S_addAct_16 : decode M_S_addAct.2.1 16 = .ok (.iastore, 1) := by decide +kernel
theorem d_S_addAct_17 : decode M_S_addAct.2.1 17 = .ok (.aload_n 0, 1) := by decide +kernel
theorem d_S_addAct_18 : decode M_S_addAct.2.1 18 = .ok (.getfield 30, 3) := by decide +kernel
theorem d_S_addAct_21 : decode M_S_addAct.2.1 21 = .ok (.iload_n 1, 1) := by decide +kernel
theorem d_S_addAct_22 : decode M_S_addAct.2.1 22 = .ok (.dup2, 1) := by decide +kernel
theorem d_S_addAct_23 : decode M_S_addAct.2.1 23 = .ok (.iaload, 1) := by decide +kernel
theorem d_S_addAct_24 : decode M_S_addAct.2.1 24 = .ok (.iconst 1, 1) := by decide +kernel
theorem d_S_addAct_25 : decode M_S_addAct.2.1 25 = .ok (.iadd, 1) := by decide +kernel
theorem d_S_addAct_26 : decode M_S_addAct.2.1 26 = .ok (.iastore, 1) := by decide +kernel
theorem d_S_addAct_27 : decode M_S_addAct.2.1 27 = .ok (.aload_n 0, 1) := by decide +kernel
theorem d_S_addAct_28 : decode M_S_addAct.2.1 28 = .ok (.getfield 30, 3) := by decide +kernel
theorem d_S_addAct_31 : decode M_S_addAct.2.1 31 = .ok (.iload_n 1, 1) := by decide +kernel
theorem d_S_addAct_32 : decode M_S_addAct.2.1 32 = .ok (.iaload, 1) := by decide +kernel
theorem d_S_addAct_33 : decode M_S_addAct.2.1 33 = .ok (.ireturn, 1) := by decide +kernel
theorem d_S_setRule_0 : decode M_S_setRule.2.1 0 = .ok (.iconst 0, 1) := by decide +kernel
theorem d_S_setRule_1 : decode M_S_setRule.2.1 1 = .ok (.istore 4, 2) := by decide +kernel
theorem d_S_setRule_3 : decode M_S_setRule.2.1 3 = .ok (.iload 4, 2) := by decide +kernel
theorem d_S_setRule_5 : decode M_S_setRule.2.1 5 = .ok (.aload_n 2, 1) := by decide +kernel
theorem d_S_setRule_6 : decode M_S_setRule.2.1 6 = .ok (.getfield 75, 3) := by decide +kernel
theorem d_S_setRule_9 : decode M_S_setRule.2.1 9 = .ok (.if_icmp .ge 30, 3) := by decide +kernel
theorem d_S_setRule_12 : decode M_S_setRule.2.1 12 = .ok (.aload_n 0, 1) := by decide +kernel
theorem d_S_setRule_13 : decode M_S_setRule.2.1 13 = .ok (.getfield 42, 3) := by decide +kernel
theorem d_S_setRule_16 : decode M_S_setRule.2.1 16 = .ok (.iload_n 1, 1) := by decide +kernel
theorem d_S_setRule_17 : decode M_S_setRule.2.1 17 = .ok (.bipush 64, 2) := by decide +kernel
theorem d_S_setRule_19 : decode M_S_setRule.2.1 19 = .ok (.imul, 1) := by decide +kernel
theorem d_S_setRule_20 : decode M_S_setRule.2.1 20 = .ok (.iload 4, 2) := by decide +kernel
theorem d_S_setRule_22 : decode M_S_setRule.2.1 22 = .ok (.iadd, 1) := by decide +kernel
theorem d_S_setRule_23 : decode M_S_setRule.2.1 23 = .ok (.aload_n 2, 1) := by decide +kernel
theorem d_S_setRule_24 : decode M_S_setRule.2.1 24 = .ok (.getfield 80, 3) := by decide +kernel
theorem d_S_setRule_27 : decode M_S_setRule.2.1 27 = .ok (.iload 4, 2) := by decide +kernel
theorem d_S_setRule_29 : decode M_S_setRule.2.1 29 = .ok (.laload, 1) := by decide +kernel
theorem d_S_setRule_30 : decode M_S_setRule.2.1 30 = .ok (.l2i, 1) := by decide +kernel
theorem d_S_setRule_31 : decode M_S_setRule.2.1 31 = .ok (.i2b, 1) := by decide +kernel
theorem d_S_setRule_32 : decode M_S_setRule.2.1 32 = .ok (.bastore, 1) := by decide +kernel
theorem d_S_setRule_33 : decode M_S_setRule.2.1 33 = .ok (.iinc 4 1, 3) := by decide +kernel
theorem d_S_setRule_36 : decode M_S_setRule.2.1 36 = .ok (.goto (-33), 3) := by decide +kernel
theorem d_S_setRule_39 : decode M_S_setRule.2.1 39 = .ok (.aload_n 0, 1) := by decide +kernel
theorem d_S_setRule_40 : decode M_S_setRule.2.1 40 = .ok (.getfield 39, 3) := by decide +kernel
theorem d_S_setRule_43 : decode M_S_setRule.2.1 43 = .ok (.iload_n 1, 1) := by decide +kernel
theorem d_S_setRule_44 : decode M_S_setRule.2.1 44 = .ok (.iload_n 3, 1) := by decide +kernel
theorem d_S_setRule_45 : decode M_S_setRule.2.1 45 = .ok (.iastore, 1) := by decide +kernel
theorem d_S_setRule_46 : decode M_S_setRule.2.1 46 = .ok (.return_, 1) := by decide +kernel
theorem d_S_loadInto_0 : decode M_S_loadInto.2.1 0 = .ok (.aload_n 1, 1) := by decide +kernel
theorem d_S_loadInto_1 : decode M_S_loadInto.2.1 1 = .ok (.iconst 0, 1) := by decide +kernel
theorem d_S_loadInto_2 : decode M_S_loadInto.2.1 2 = .ok (.invokestatic 59, 3) := by decide +kernel
theorem d_S_loadInto_5 : decode M_S_loadInto.2.1 5 = .ok (.iconst 0, 1) := by decide +kernel
theorem d_S_loadInto_6 : decode M_S_loadInto.2.1 6 = .ok (.istore_n 2, 1) := by decide +kernel
theorem d_S_loadInto_7 : decode M_S_loadInto.2.1 7 = .ok (.iload_n 2, 1) := by decide +kernel
theorem d_S_loadInto_8 : decode M_S_loadInto.2.1 8 = .ok (.aload_n 0, 1) := by decide +kernel
theorem d_S_loadInto_9 : decode M_S_loadInto.2.1 9 = .ok (.getfield 56, 3) := by decide +kernel
theorem d_S_loadInto_12 : decode M_S_loadInto.2.1 12 = .ok (.if_icmp .ge 35, 3) := by decide +kernel
theorem d_S_loadInto_15 : decode M_S_loadInto.2.1 15 = .ok (.aload_n 0, 1) := by decide +kernel
theorem d_S_loadInto_16 : decode M_S_loadInto.2.1 16 = .ok (.getfield 27, 3) := by decide +kernel
theorem d_S_loadInto_19 : decode M_S_loadInto.2.1 19 = .ok (.iload_n 2, 1) := by decide +kernel
theorem d_S_loadInto_20 : decode M_S_loadInto.2.1 20 = .ok (.iaload, 1) := by decide +kernel
theorem d_S_loadInto_21 : decode M_S_loadInto.2.1 21 = .ok (.ifCond .ne 20, 3) := by decide +kernel
theorem d_S_loadInto_24 : decode M_S_loadInto.2.1 24 = .ok (.aload_n 1, 1) := by decide +kernel
theorem d_S_loadInto_25 : decode M_S_loadInto.2.1 25 = .ok (.aload_n 0, 1) := by decide +kernel
theorem d_S_loadInto_26 : decode M_S_loadInto.2.1 26 = .ok (.getfield 9, 3) := by decide +kernel
theorem d_S_loadInto_29 : decode M_S_loadInto.2.1 29 = .ok (.iload_n 2, 1) := by decide +kernel
theorem d_S_loadInto_30 : decode M_S_loadInto.2.1 30 = .ok (.iaload, 1) := by decide +kernel
theorem d_S_loadInto_31 : decode M_S_loadInto.2.1 31 = .ok (.dup2, 1) := by decide +kernel
theorem d_S_loadInto_32 : decode M_S_loadInto.2.1 32 = .ok (.iaload, 1) := by decide +kernel
theorem d_S_loadInto_33 : decode M_S_loadInto.2.1 33 = .ok (.aload_n 0, 1) := by decide +kernel
theorem d_S_loadInto_34 : decode M_S_loadInto.2.1 34 = .ok (.getfield 18, 3) := by decide +kernel
theorem d_S_loadInto_37 : decode M_S_loadInto.2.1 37 = .ok (.iload_n 2, 1) := by decide +kernel
theorem d_S_loadInto_38 : decode M_S_loadInto.2.1 38 = .ok (.iaload, 1) := by decide +kernel
theorem d_S_loadInto_39 : decode M_S_loadInto.2.1 39 = .ok (.iadd, 1) := by decide +kernel
theorem d_S_loadInto_40 : decode M_S_loadInto.2.1 40 = .ok (.iastore, 1) := by decide +kernel
theorem d_S_loadInto_41 : decode M_S_loadInto.2.1 41 = .ok (.iinc 2 1, 3) := by decide +kernel
theorem d_S_loadInto_44 : decode M_S_loadInto.2.1 44 = .ok (.goto (-37), 3) := by decide +kernel
theorem d_S_loadInto_47 : decode M_S_loadInto.2.1 47 = .ok (.return_, 1) := by decide +kernel
theorem d_S_scenesBetween_0 : decode M_S_scenesBetween.2.1 0 = .ok (.iconst 0, 1) := by decide +kernel
theorem d_S_scenesBetween_1 : decode M_S_scenesBetween.2.1 1 = .ok (.istore_n 3, 1) := by decide +kernel
theorem d_S_scenesBetween_2 : decode M_S_scenesBetween.2.1 2 = .ok (.iconst 0, 1) := by decide +kernel
theorem d_S_scenesBetween_3 : decode M_S_scenesBetween.2.1 3 = .ok (.istore 4, 2) := by decide +kernel
theorem d_S_scenesBetween_5 : decode M_S_scenesBetween.2.1 5 = .ok (.iload 4, 2) := by decide +kernel
theorem d_S_scenesBetween_7 : decode M_S_scenesBetween.2.1 7 = .ok (.aload_n 0, 1) := by decide +kernel
theorem d_S_scenesBetween_8 : decode M_S_scenesBetween.2.1 8 = .ok (.getfield 56, 3) := by decide +kernel
theorem d_S_scenesBetween_11 : decode M_S_scenesBetween.2.1 11 = .ok (.if_icmp .ge 37, 3) := by decide +kernel
theorem d_S_scenesBetween_14 : decode M_S_scenesBetween.2.1 14 = .ok (.aload_n 0, 1) := by decide +kernel
theorem d_S_scenesBetween_15 : decode M_S_scenesBetween.2.1 15 = .ok (.getfield 27, 3) := by decide +kernel
theorem d_S_scenesBetween_18 : decode M_S_scenesBetween.2.1 18 = .ok (.iload 4, 2) := by decide +kernel
theorem d_S_scenesBetween_20 : decode M_S_scenesBetween.2.1 20 = .ok (.iaload, 1) := by decide +kernel
theorem d_S_scenesBetween_21 : decode M_S_scenesBetween.2.1 21 = .ok (.ifCond .ne 21, 3) := by decide +kernel
theorem d_S_scenesBetween_24 : decode M_S_scenesBetween.2.1 24 = .ok (.aload_n 0, 1) := by decide +kernel
theorem d_S_scenesBetween_25 : decode M_S_scenesBetween.2.1 25 = .ok (.getfield 9, 3) := by decide +kernel
theorem d_S_scenesBetween_28 : decode M_S_scenesBetween.2.1 28 = .ok (.iload 4, 2) := by decide +kernel
theorem d_S_scenesBetween_30 : decode M_S_scenesBetween.2.1 30 = .ok (.iaload, 1) := by decide +kernel
theorem d_S_scenesBetween_31 : decode M_S_scenesBetween.2.1 31 = .ok (.iload_n 1, 1) := by decide +kernel
theorem d_S_scenesBetween_32 : decode M_S_scenesBetween.2.1 32 = .ok (.iload_n 2, 1) := by decide +kernel
theorem d_S_scenesBetween_33 : decode M_S_scenesBetween.2.1 33 = .ok (.invokestatic 71, 3) := by decide +kernel
theorem d_S_scenesBetween_36 : decode M_S_scenesBetween.2.1 36 = .ok (.ifCond .eq 6, 3) := by decide +kernel
theorem d_S_scenesBetween_39 : decode M_S_scenesBetween.2.1 39 = .ok (.iinc 3 1, 3) := by decide +kernel
theorem d_S_scenesBetween_42 : decode M_S_scenesBetween.2.1 42 = .ok (.iinc 4 1, 3) := by decide +kernel
theorem d_S_scenesBetween_45 : decode M_S_scenesBetween.2.1 45 = .ok (.goto (-40), 3) := by decide +kernel
theorem d_S_scenesBetween_48 : decode M_S_scenesBetween.2.1 48 = .ok (.iload_n 3, 1) := by decide +kernel
theorem d_S_scenesBetween_49 : decode M_S_scenesBetween.2.1 49 = .ok (.ireturn, 1) := by decide +kernel
theorem d_S_takeFrom_0 : decode M_S_takeFrom.2.1 0 = .ok (.aload_n 0, 1) := by decide +kernel
theorem d_S_takeFrom_1 : decode M_S_takeFrom.2.1 1 = .ok (.aload_n 1, 1) := by decide +kernel
theorem d_S_takeFrom_2 : decode M_S_takeFrom.2.1 2 = .ok (.getfield 46, 3) := by decide +kernel
theorem d_S_takeFrom_5 : decode M_S_takeFrom.2.1 5 = .ok (.putfield 46, 3) := by decide +kernel
theorem d_S_takeFrom_8 : decode M_S_takeFrom.2.1 8 = .ok (.aload_n 0, 1) := by decide +kernel
theorem d_S_takeFrom_9 : decode M_S_takeFrom.2.1 9 = .ok (.aload_n 1, 1) := by decide +kernel
theorem d_S_takeFrom_10 : decode M_S_takeFrom.2.1 10 = .ok (.getfield 50, 3) := by decide +kernel
theorem d_S_takeFrom_13 : decode M_S_takeFrom.2.1 13 = .ok (.putfield 50, 3) := by decide +kernel
theorem d_S_takeFrom_16 : decode M_S_takeFrom.2.1 16 = .ok (.aload_n 0, 1) := by decide +kernel
theorem d_S_takeFrom_17 : decode M_S_takeFrom.2.1 17 = .ok (.aload_n 1, 1) := by decide +kernel
theorem d_S_takeFrom_18 : decode M_S_takeFrom.2.1 18 = .ok (.getfield 53, 3) := by decide +kernel
theorem d_S_takeFrom_21 : decode M_S_takeFrom.2.1 21 = .ok (.putfield 53, 3) := by decide +kernel
theorem d_S_takeFrom_24 : decode M_S_takeFrom.2.1 24 = .ok (.aload_n 0, 1) := by decide +kernel
theorem d_S_takeFrom_25 : decode M_S_takeFrom.2.1 25 = .ok (.aload_n 1, 1) := by decide +kernel
theorem d_S_takeFrom_26 : decode M_S_takeFrom.2.1 26 = .ok (.getfield 56, 3) := by decide +kernel
theorem d_S_takeFrom_29 : decode M_S_takeFrom.2.1 29 = .ok (.putfield 56, 3) := by decide +kernel
theorem d_S_takeFrom_32 : decode M_S_takeFrom.2.1 32 = .ok (.aload_n 1, 1) := by decide +kernel
theorem d_S_takeFrom_33 : decode M_S_takeFrom.2.1 33 = .ok (.getfield 9, 3) := by decide +kernel
theorem d_S_takeFrom_36 : decode M_S_takeFrom.2.1 36 = .ok (.iconst 0, 1) := by decide +kernel
theorem d_S_takeFrom_37 : decode M_S_takeFrom.2.1 37 = .ok (.aload_n 0, 1) := by decide +kernel
theorem d_S_takeFrom_38 : decode M_S_takeFrom.2.1 38 = .ok (.getfield 9, 3) := by decide +kernel
theorem d_S_takeFrom_41 : decode M_S_takeFrom.2.1 41 = .ok (.iconst 0, 1) := by decide +kernel
theorem d_S_takeFrom_42 : decode M_S_takeFrom.2.1 42 = .ok (.aload_n 0, 1) := by decide +kernel
theorem d_S_takeFrom_43 : decode M_S_takeFrom.2.1 43 = .ok (.getfield 56, 3) := by decide +kernel
theorem d_S_takeFrom_46 : decode M_S_takeFrom.2.1 46 = .ok (.invokestatic 65, 3) := by decide +kernel
theorem d_S_takeFrom_49 : decode M_S_takeFrom.2.1 49 = .ok (.aload_n 1, 1) := by decide +kernel
theorem d_S_takeFrom_50 : decode M_S_takeFrom.2.1 50 = .ok (.getfield 15, 3) := by decide +kernel
theorem d_S_takeFrom_53 : decode M_S_takeFrom.2.1 53 = .ok (.iconst 0, 1) := by decide +kernel
theorem d_S_takeFrom_54 : decode M_S_takeFrom.2.1 54 = .ok (.aload_n 0, 1) := by decide +kernel
theorem d_S_takeFrom_55 : decode M_S_takeFrom.2.1 55 = .ok (.getfield 15, 3) := by decide +kernel
theorem d_S_takeFrom_58 : decode M_S_takeFrom.2.1 58 = .ok (.iconst 0, 1) := by decide +kernel
theorem d_S_takeFrom_59 : decode M_S_takeFrom.2.1 59 = .ok (.aload_n 0, 1) := by decide +kernel
theorem d_S_takeFrom_60 : decode M_S_takeFrom.2.1 60 = .ok (.getfield 56, 3) := by decide +kernel
theorem d_S_takeFrom_63 : decode M_S_takeFrom.2.1 63 = .ok (.invokestatic 65, 3) := by decide +kernel
theorem d_S_takeFrom_66 : decode M_S_takeFrom.2.1 66 = .ok (.aload_n 1, 1) := by decide +kernel
theorem d_S_takeFrom_67 : decode M_S_takeFrom.2.1 67 = .ok (.getfield 18, 3) := by decide +kernel
theorem d_S_takeFrom_70 : decode M_S_takeFrom.2.1 70 = .ok (.iconst 0, 1) := by decide +kernel
theorem d_S_takeFrom_71 : decode M_S_takeFrom.2.1 71 = .ok (.aload_n 0, 1) := by decide +kernel
theorem d_S_takeFrom_72 : decode M_S_takeFrom.2.1 72 = .ok (.getfield 18, 3) := by decide +kernel
theorem d_S_takeFrom_75 : decode M_S_takeFrom.2.1 75 = .ok (.iconst 0, 1) := by decide +kernel
theorem d_S_takeFrom_76 : decode M_S_takeFrom.2.1 76 = .ok (.aload_n 0, 1) := by decide +kernel
theorem d_S_takeFrom_77 : decode M_S_takeFrom.2.1 77 = .ok (.getfield 56, 3) := by decide +kernel
theorem d_S_takeFrom_80 : decode M_S_takeFrom.2.1 80 = .ok (.invokestatic 65, 3) := by decide +kernel
theorem d_S_takeFrom_83 : decode M_S_takeFrom.2.1 83 = .ok (.aload_n 1, 1) := by decide +kernel
theorem d_S_takeFrom_84 : decode M_S_takeFrom.2.1 84 = .ok (.getfield 21, 3) := by decide +kernel
theorem d_S_takeFrom_87 : decode M_S_takeFrom.2.1 87 = .ok (.iconst 0, 1) := by decide +kernel
theorem d_S_takeFrom_88 : decode M_S_takeFrom.2.1 88 = .ok (.aload_n 0, 1) := by decide +kernel
theorem d_S_takeFrom_89 : decode M_S_takeFrom.2.1 89 = .ok (.getfield 21, 3) := by decide +kernel
theorem d_S_takeFrom_92 : decode M_S_takeFrom.2.1 92 = .ok (.iconst 0, 1) := by decide +kernel
theorem d_S_takeFrom_93 : decode M_S_takeFrom.2.1 93 = .ok (.aload_n 0, 1) := by decide +kernel
theorem d_S_takeFrom_94 : decode M_S_takeFrom.2.1 94 = .ok (.getfield 56, 3) := by decide +kernel
theorem d_S_takeFrom_97 : decode M_S_takeFrom.2.1 97 = .ok (.invokestatic 65, 3) := by decide +kernel
theorem d_S_takeFrom_100 : decode M_S_takeFrom.2.1 100 = .ok (.aload_n 1, 1) := by decide +kernel
theorem d_S_takeFrom_101 : decode M_S_takeFrom.2.1 101 = .ok (.getfield 24, 3) := by decide +kernel
theorem d_S_takeFrom_104 : decode M_S_takeFrom.2.1 104 = .ok (.iconst 0, 1) := by decide +kernel
theorem d_S_takeFrom_105 : decode M_S_takeFrom.2.1 105 = .ok (.aload_n 0, 1) := by decide +kernel
theorem d_S_takeFrom_106 : decode M_S_takeFrom.2.1 106 = .ok (.getfield 24, 3) := by decide +kernel
theorem d_S_takeFrom_109 : decode M_S_takeFrom.2.1 109 = .ok (.iconst 0, 1) := by decide +kernel
theorem d_S_takeFrom_110 : decode M_S_takeFrom.2.1 110 = .ok (.aload_n 0, 1) := by decide +kernel
theorem d_S_takeFrom_111 : decode M_S_takeFrom.2.1 111 = .ok (.getfield 56, 3) := by decide +kernel
theorem d_S_takeFrom_114 : decode M_S_takeFrom.2.1 114 = .ok (.invokestatic 65, 3) := by decide +kernel
theorem d_S_takeFrom_117 : decode M_S_takeFrom.2.1 117 = .ok (.aload_n 1, 1) := by decide +kernel
theorem d_S_takeFrom_118 : decode M_S_takeFrom.2.1 118 = .ok (.getfield 27, 3) := by decide +kernel
theorem d_S_takeFrom_121 : decode M_S_takeFrom.2.1 121 = .ok (.iconst 0, 1) := by decide +kernel
theorem d_S_takeFrom_122 : decode M_S_takeFrom.2.1 122 = .ok (.aload_n 0, 1) := by decide +kernel
theorem d_S_takeFrom_123 : decode M_S_takeFrom.2.1 123 = .ok (.getfield 27, 3) := by decide +kernel
theorem d_S_takeFrom_126 : decode M_S_takeFrom.2.1 126 = .ok (.iconst 0, 1) := by decide +kernel
theorem d_S_takeFrom_127 : decode M_S_takeFrom.2.1 127 = .ok (.aload_n 0, 1) := by decide +kernel
theorem d_S_takeFrom_128 : decode M_S_takeFrom.2.1 128 = .ok (.getfield 56, 3) := by decide +kernel
theorem d_S_takeFrom_131 : decode M_S_takeFrom.2.1 131 = .ok (.invokestatic 65, 3) := by decide +kernel
theorem d_S_takeFrom_134 : decode M_S_takeFrom.2.1 134 = .ok (.aload_n 1, 1) := by decide +kernel
theorem d_S_takeFrom_135 : decode M_S_takeFrom.2.1 135 = .ok (.getfield 30, 3) := by decide +kernel
theorem d_S_takeFrom_138 : decode M_S_takeFrom.2.1 138 = .ok (.iconst 0, 1) := by decide +kernel
theorem d_S_takeFrom_139 : decode M_S_takeFrom.2.1 139 = .ok (.aload_n 0, 1) := by decide +kernel
theorem d_S_takeFrom_140 : decode M_S_takeFrom.2.1 140 = .ok (.getfield 30, 3) := by decide +kernel
theorem d_S_takeFrom_143 : decode M_S_takeFrom.2.1 143 = .ok (.iconst 0, 1) := by decide +kernel
theorem d_S_takeFrom_144 : decode M_S_takeFrom.2.1 144 = .ok (.aload_n 0, 1) := by decide +kernel
theorem d_S_takeFrom_145 : decode M_S_takeFrom.2.1 145 = .ok (.getfield 56, 3) := by decide +kernel
theorem d_S_takeFrom_148 : decode M_S_takeFrom.2.1 148 = .ok (.invokestatic 65, 3) := by decide +kernel
theorem d_S_takeFrom_151 : decode M_S_takeFrom.2.1 151 = .ok (.aload_n 1, 1) := by decide +kernel
theorem d_S_takeFrom_152 : decode M_S_takeFrom.2.1 152 = .ok (.getfield 33, 3) := by decide +kernel
theorem d_S_takeFrom_155 : decode M_S_takeFrom.2.1 155 = .ok (.iconst 0, 1) := by decide +kernel
theorem d_S_takeFrom_156 : decode M_S_takeFrom.2.1 156 = .ok (.aload_n 0, 1) := by decide +kernel
theorem d_S_takeFrom_157 : decode M_S_takeFrom.2.1 157 = .ok (.getfield 33, 3) := by decide +kernel
theorem d_S_takeFrom_160 : decode M_S_takeFrom.2.1 160 = .ok (.iconst 0, 1) := by decide +kernel
theorem d_S_takeFrom_161 : decode M_S_takeFrom.2.1 161 = .ok (.aload_n 0, 1) := by decide +kernel
theorem d_S_takeFrom_162 : decode M_S_takeFrom.2.1 162 = .ok (.getfield 56, 3) := by decide +kernel
theorem d_S_takeFrom_165 : decode M_S_takeFrom.2.1 165 = .ok (.bipush 6, 2) := by decide +kernel
theorem d_S_takeFrom_167 : decode M_S_takeFrom.2.1 167 = .ok (.imul, 1) := by decide +kernel
theorem d_S_takeFrom_168 : decode M_S_takeFrom.2.1 168 = .ok (.invokestatic 65, 3) := by decide +kernel
theorem d_S_takeFrom_171 : decode M_S_takeFrom.2.1 171 = .ok (.aload_n 1, 1) := by decide +kernel
theorem d_S_takeFrom_172 : decode M_S_takeFrom.2.1 172 = .ok (.getfield 36, 3) := by decide +kernel
theorem d_S_takeFrom_175 : decode M_S_takeFrom.2.1 175 = .ok (.iconst 0, 1) := by decide +kernel
theorem d_S_takeFrom_176 : decode M_S_takeFrom.2.1 176 = .ok (.aload_n 0, 1) := by decide +kernel
theorem d_S_takeFrom_177 : decode M_S_takeFrom.2.1 177 = .ok (.getfield 36, 3) := by decide +kernel
theorem d_S_takeFrom_180 : decode M_S_takeFrom.2.1 180 = .ok (.iconst 0, 1) := by decide +kernel
theorem d_S_takeFrom_181 : decode M_S_takeFrom.2.1 181 = .ok (.bipush 12, 2) := by decide +kernel
theorem d_S_takeFrom_183 : decode M_S_takeFrom.2.1 183 = .ok (.invokestatic 65, 3) := by decide +kernel
theorem d_S_takeFrom_186 : decode M_S_takeFrom.2.1 186 = .ok (.aload_n 1, 1) := by decide +kernel
theorem d_S_takeFrom_187 : decode M_S_takeFrom.2.1 187 = .ok (.getfield 39, 3) := by decide +kernel
theorem d_S_takeFrom_190 : decode M_S_takeFrom.2.1 190 = .ok (.iconst 0, 1) := by decide +kernel
theorem d_S_takeFrom_191 : decode M_S_takeFrom.2.1 191 = .ok (.aload_n 0, 1) := by decide +kernel
theorem d_S_takeFrom_192 : decode M_S_takeFrom.2.1 192 = .ok (.getfield 39, 3) := by decide +kernel
theorem d_S_takeFrom_195 : decode M_S_takeFrom.2.1 195 = .ok (.iconst 0, 1) := by decide +kernel
theorem d_S_takeFrom_196 : decode M_S_takeFrom.2.1 196 = .ok (.bipush 12, 2) := by decide +kernel
theorem d_S_takeFrom_198 : decode M_S_takeFrom.2.1 198 = .ok (.invokestatic 65, 3) := by decide +kernel
theorem d_S_takeFrom_201 : decode M_S_takeFrom.2.1 201 = .ok (.aload_n 1, 1) := by decide +kernel
theorem d_S_takeFrom_202 : decode M_S_takeFrom.2.1 202 = .ok (.getfield 42, 3) := by decide +kernel
theorem d_S_takeFrom_205 : decode M_S_takeFrom.2.1 205 = .ok (.iconst 0, 1) := by decide +kernel
theorem d_S_takeFrom_206 : decode M_S_takeFrom.2.1 206 = .ok (.aload_n 0, 1) := by decide +kernel
theorem d_S_takeFrom_207 : decode M_S_takeFrom.2.1 207 = .ok (.getfield 42, 3) := by decide +kernel
theorem d_S_takeFrom_210 : decode M_S_takeFrom.2.1 210 = .ok (.iconst 0, 1) := by decide +kernel
theorem d_S_takeFrom_211 : decode M_S_takeFrom.2.1 211 = .ok (.sipush 768, 3) := by decide +kernel
theorem d_S_takeFrom_214 : decode M_S_takeFrom.2.1 214 = .ok (.invokestatic 65, 3) := by decide +kernel
theorem d_S_takeFrom_217 : decode M_S_takeFrom.2.1 217 = .ok (.return_, 1) := by decide +kernel
theorem d_S_howManyRules_0 : decode M_S_howManyRules.2.1 0 = .ok (.iconst 0, 1) := by decide +kernel
theorem d_S_howManyRules_1 : decode M_S_howManyRules.2.1 1 = .ok (.istore_n 1, 1) := by decide +kernel
theorem d_S_howManyRules_2 : decode M_S_howManyRules.2.1 2 = .ok (.iconst 0, 1) := by decide +kernel
theorem d_S_howManyRules_3 : decode M_S_howManyRules.2.1 3 = .ok (.istore_n 2, 1) := by decide +kernel
theorem d_S_howManyRules_4 : decode M_S_howManyRules.2.1 4 = .ok (.iload_n 2, 1) := by decide +kernel
theorem d_S_howManyRules_5 : decode M_S_howManyRules.2.1 5 = .ok (.aload_n 0, 1) := by decide +kernel
theorem d_S_howManyRules_6 : decode M_S_howManyRules.2.1 6 = .ok (.getfield 46, 3) := by decide +kernel
theorem d_S_howManyRules_9 : decode M_S_howManyRules.2.1 9 = .ok (.if_icmp .ge 21, 3) := by decide +kernel
theorem d_S_howManyRules_12 : decode M_S_howManyRules.2.1 12 = .ok (.aload_n 0, 1) := by decide +kernel
theorem d_S_howManyRules_13 : decode M_S_howManyRules.2.1 13 = .ok (.getfield 39, 3) := by decide +kernel
theorem d_S_howManyRules_16 : decode M_S_howManyRules.2.1 16 = .ok (.iload_n 2, 1) := by decide +kernel
theorem d_S_howManyRules_17 : decode M_S_howManyRules.2.1 17 = .ok (.iaload, 1) := by decide +kernel
theorem d_S_howManyRules_18 : decode M_S_howManyRules.2.1 18 = .ok (.ifCond .le 6, 3) := by decide +kernel
theorem d_S_howManyRules_21 : decode M_S_howManyRules.2.1 21 = .ok (.iinc 1 1, 3) := by decide +kernel
theorem d_S_howManyRules_24 : decode M_S_howManyRules.2.1 24 = .ok (.iinc 2 1, 3) := by decide +kernel
theorem d_S_howManyRules_27 : decode M_S_howManyRules.2.1 27 = .ok (.goto (-23), 3) := by decide +kernel
theorem d_S_howManyRules_30 : decode M_S_howManyRules.2.1 30 = .ok (.iload_n 1, 1) := by decide +kernel
theorem d_S_howManyRules_31 : decode M_S_howManyRules.2.1 31 = .ok (.ireturn, 1) := by decide +kernel
theorem d_H_init_0 : decode M_H_init.2.1 0 = .ok (.aload_n 0, 1) := by decide +kernel
theorem d_H_init_1 : decode M_H_init.2.1 1 = .ok (.invokespecial 3, 3) := by decide +kernel
theorem d_H_init_4 : decode M_H_init.2.1 4 = .ok (.aload_n 0, 1) := by decide +kernel
theorem d_H_init_5 : decode M_H_init.2.1 5 = .ok (.bipush 81, 2) := by decide +kernel
theorem d_H_init_7 : decode M_H_init.2.1 7 = .ok (.newarray .int, 2) := by decide +kernel
theorem d_H_init_9 : decode M_H_init.2.1 9 = .ok (.putfield 9, 3) := by decide +kernel
theorem d_H_init_12 : decode M_H_init.2.1 12 = .ok (.aload_n 0, 1) := by decide +kernel
theorem d_H_init_13 : decode M_H_init.2.1 13 = .ok (.iconst 3, 1) := by decide +kernel
theorem d_H_init_14 : decode M_H_init.2.1 14 = .ok (.newarray .int, 2) := by decide +kernel
theorem d_H_init_16 : decode M_H_init.2.1 16 = .ok (.putfield 15, 3) := by decide +kernel
theorem d_H_init_19 : decode M_H_init.2.1 19 = .ok (.aload_n 0, 1) := by decide +kernel
theorem d_H_init_20 : decode M_H_init.2.1 20 = .ok (.bipush 15, 2) := by decide +kernel
theorem d_H_init_22 : decode M_H_init.2.1 22 = .ok (.newarray .int, 2) := by decide +kernel
theorem d_H_init_24 : decode M_H_init.2.1 24 = .ok (.putfield 18, 3) := by decide +kernel
theorem d_H_init_27 : decode M_H_init.2.1 27 = .ok (.aload_n 0, 1) := by decide +kernel
theorem d_H_init_28 : decode M_H_init.2.1 28 = .ok (.bipush 15, 2) := by decide +kernel
theorem d_H_init_30 : decode M_H_init.2.1 30 = .ok (.newarray .int, 2) := by decide +kernel
theorem d_H_init_32 : decode M_H_init.2.1 32 = .ok (.putfield 21, 3) := by decide +kernel
theorem d_H_init_35 : decode M_H_init.2.1 35 = .ok (.aload_n 0, 1) := by decide +kernel
theorem d_H_init_36 : decode M_H_init.2.1 36 = .ok (.bipush 15, 2) := by decide +kernel
theorem d_H_init_38 : decode M_H_init.2.1 38 = .ok (.newarray .int, 2) := by decide +kernel
theorem d_H_init_40 : decode M_H_init.2.1 40 = .ok (.putfield 24, 3) := by decide +kernel
theorem d_H_init_43 : decode M_H_init.2.1 43 = .ok (.aload_n 0, 1) := by decide +kernel
theorem d_H_init_44 : decode M_H_init.2.1 44 = .ok (.bipush 15, 2) := by decide +kernel
theorem d_H_init_46 : decode M_H_init.2.1 46 = .ok (.newarray .int, 2) := by decide +kernel
theorem d_H_init_48 : decode M_H_init.2.1 48 = .ok (.putfield 27, 3) := by decide +kernel
theorem d_H_init_51 : decode M_H_init.2.1 51 = .ok (.aload_n 0, 1) := by decide +kernel
theorem d_H_init_52 : decode M_H_init.2.1 52 = .ok (.iconst 3, 1) := by decide +kernel
theorem d_H_init_53 : decode M_H_init.2.1 53 = .ok (.newarray .int, 2) := by decide +kernel
theorem d_H_init_55 : decode M_H_init.2.1 55 = .ok (.putfield 30, 3) := by decide +kernel
theorem d_H_init_58 : decode M_H_init.2.1 58 = .ok (.aload_n 0, 1) := by decide +kernel
theorem d_H_init_59 : decode M_H_init.2.1 59 = .ok (.iconst 3, 1) := by decide +kernel
theorem d_H_init_60 : decode M_H_init.2.1 60 = .ok (.newarray .int, 2) := by decide +kernel
theorem d_H_init_62 : decode M_H_init.2.1 62 = .ok (.putfield 33, 3) := by decide +kernel
theorem d_H_init_65 : decode M_H_init.2.1 65 = .ok (.aload_n 0, 1) := by decide +kernel
theorem d_H_init_66 : decode M_H_init.2.1 66 = .ok (.bipush 27, 2) := by decide +kernel
theorem d_H_init_68 : decode M_H_init.2.1 68 = .ok (.newarray .int, 2) := by decide +kernel
theorem d_H_init_70 : decode M_H_init.2.1 70 = .ok (.putfield 36, 3) := by decide +kernel
theorem d_H_init_73 : decode M_H_init.2.1 73 = .ok (.return_, 1) := by decide +kernel
theorem d_H_reset_0 : decode M_H_reset.2.1 0 = .ok (.aload_n 0, 1) := by decide +kernel
theorem d_H_reset_1 : decode M_H_reset.2.1 1 = .ok (.bipush 12, 2) := by decide +kernel
theorem d_H_reset_3 : decode M_H_reset.2.1 3 = .ok (.putfield 39, 3) := by decide +kernel
theorem d_H_reset_6 : decode M_H_reset.2.1 6 = .ok (.aload_n 0, 1) := by decide +kernel
theorem d_H_reset_7 : decode M_H_reset.2.1 7 = .ok (.getfield 9, 3) := by decide +kernel
theorem d_H_reset_10 : decode M_H_reset.2.1 10 = .ok (.iconst 0, 1) := by decide +kernel
theorem d_H_reset_11 : decode M_H_reset.2.1 11 = .ok (.invokestatic 43, 3) := by decide +kernel
theorem d_H_reset_14 : decode M_H_reset.2.1 14 = .ok (.aload_n 0, 1) := by decide +kernel
theorem d_H_reset_15 : decode M_H_reset.2.1 15 = .ok (.getfield 30, 3) := by decide +kernel
theorem d_H_reset_18 : decode M_H_reset.2.1 18 = .ok (.iconst 1, 1) := by decide +kernel
theorem d_H_reset_19 : decode M_H_reset.2.1 19 = .ok (.invokestatic 43, 3) := by decide +kernel
theorem d_H_reset_22 : decode M_H_reset.2.1 22 = .ok (.aload_n 0, 1) := by decide +kernel
theorem d_H_reset_23 : decode M_H_reset.2.1 23 = .ok (.getfield 33, 3) := by decide +kernel
theorem d_H_reset_26 : decode M_H_reset.2.1 26 = .ok (.bipush 6, 2) := by decide +kernel
theorem d_H_reset_28 : decode M_H_reset.2.1 28 = .ok (.invokestatic 43, 3) := by decide +kernel
theorem d_H_reset_31 : decode M_H_reset.2.1 31 = .ok (.aload_n 0, 1) := by decide +kernel
theorem d_H_reset_32 : decode M_H_reset.2.1 32 = .ok (.invokevirtual 49, 3) := by decide +kernel
theorem d_H_reset_35 : decode M_H_reset.2.1 35 = .ok (.return_, 1) := by decide +kernel
theorem d_H_forgetTurns_0 : decode M_H_forgetTurns.2.1 0 = .ok (.aload_n 0, 1) := by decide +kernel
theorem d_H_forgetTurns_1 : decode M_H_forgetTurns.2.1 1 = .ok (.getfield 15, 3) := by decide +kernel
theorem d_H_forgetTurns_4 : decode M_H_forgetTurns.2.1 4 = .ok (.iconst 0, 1) := by decide +kernel
theorem d_H_forgetTurns_5 : decode M_H_forgetTurns.2.1 5 = .ok (.invokestatic 43, 3) := by decide +kernel
theorem d_H_forgetTurns_8 : decode M_H_forgetTurns.2.1 8 = .ok (.aload_n 0, 1) := by decide +kernel
theorem d_H_forgetTurns_9 : decode M_H_forgetTurns.2.1 9 = .ok (.getfield 36, 3) := by decide +kernel
theorem d_H_forgetTurns_12 : decode M_H_forgetTurns.2.1 12 = .ok (.iconst 0, 1) := by decide +kernel
theorem d_H_forgetTurns_13 : decode M_H_forgetTurns.2.1 13 = .ok (.invokestatic 43, 3) := by decide +kernel
theorem d_H_forgetTurns_16 : decode M_H_forgetTurns.2.1 16 = .ok (.return_, 1) := by decide +kernel
theorem d_H_heatIn_0 : decode M_H_heatIn.2.1 0 = .ok (.iconst 0, 1) := by decide +kernel
theorem d_H_heatIn_1 : decode M_H_heatIn.2.1 1 = .ok (.istore_n 3, 1) := by decide +kernel
theorem d_H_heatIn_2 : decode M_H_heatIn.2.1 2 = .ok (.iconst 1, 1) := by decide +kernel
theorem d_H_heatIn_3 : decode M_H_heatIn.2.1 3 = .ok (.istore 4, 2) := by decide +kernel
theorem d_H_heatIn_5 : decode M_H_heatIn.2.1 5 = .ok (.iload 4, 2) := by decide +kernel
theorem d_H_heatIn_7 : decode M_H_heatIn.2.1 7 = .ok (.iload_n 2, 1) := by decide +kernel
theorem d_H_heatIn_8 : decode M_H_heatIn.2.1 8 = .ok (.if_icmp .ge 28, 3) := by decide +kernel
theorem d_H_heatIn_11 : decode M_H_heatIn.2.1 11 = .ok (.iload_n 3, 1) := by decide +kernel
theorem d_H_heatIn_12 : decode M_H_heatIn.2.1 12 = .ok (.iconst 3, 1) := by decide +kernel
theorem d_H_heatIn_13 : decode M_H_heatIn.2.1 13 = .ok (.imul, 1) := by decide +kernel
theorem d_H_heatIn_14 : decode M_H_heatIn.2.1 14 = .ok (.iconst 4, 1) := by decide +kernel
theorem d_H_heatIn_15 : decode M_H_heatIn.2.1 15 = .ok (.idiv, 1) := by decide +kernel
theorem d_H_heatIn_16 : decode M_H_heatIn.2.1 16 = .ok (.aload_n 0, 1) := by decide +kernel
theorem d_H_heatIn_17 : decode M_H_heatIn.2.1 17 = .ok (.getfield 9, 3) := by decide +kernel
theorem d_H_heatIn_20 : decode M_H_heatIn.2.1 20 = .ok (.iload_n 1, 1) := by decide +kernel
theorem d_H_heatIn_21 : decode M_H_heatIn.2.1 21 = .ok (.bipush 27, 2) := by decide +kernel
theorem d_H_heatIn_23 : decode M_H_heatIn.2.1 23 = .ok (.imul, 1) := by decide +kernel
theorem d_H_heatIn_24 : decode M_H_heatIn.2.1 24 = .ok (.iload 4, 2) := by decide +kernel
theorem d_H_heatIn_26 : decode M_H_heatIn.2.1 26 = .ok (.iadd, 1) := by decide +kernel
theorem d_H_heatIn_27 : decode M_H_heatIn.2.1 27 = .ok (.iaload, 1) := by decide +kernel
theorem d_H_heatIn_28 : decode M_H_heatIn.2.1 28 = .ok (.iadd, 1) := by decide +kernel
theorem d_H_heatIn_29 : decode M_H_heatIn.2.1 29 = .ok (.istore_n 3, 1) := by decide +kernel
theorem d_H_heatIn_30 : decode M_H_heatIn.2.1 30 = .ok (.iinc 4 1, 3) := by decide +kernel
theorem d_H_heatIn_33 : decode M_H_heatIn.2.1 33 = .ok (.goto (-28), 3) := by decide +kernel
theorem d_H_heatIn_36 : decode M_H_heatIn.2.1 36 = .ok (.iload_n 3, 1) := by decide +kernel
theorem d_H_heatIn_37 : decode M_H_heatIn.2.1 37 = .ok (.ireturn, 1) := by decide +kernel
theorem d_H_addTurn_0 : decode M_H_addTurn.2.1 0 = .ok (.iload_n 1, 1) := by decide +kernel
theorem d_H_addTurn_1 : decode M_H_addTurn.2.1 1 = .ok (.iconst 5, 1) := by decide +kernel
theorem d_H_addTurn_2 : decode M_H_addTurn.2.1 2 = .ok (.imul, 1) := by decide +kernel
theorem d_H_addTurn_3 : decode M_H_addTurn.2.1 3 = .ok (.aload_n 0, 1) := by decide +kernel
theorem d_H_addTurn_4 : decode M_H_addTurn.2.1 4 = .ok (.getfield 15, 3) := by decide +kernel
theorem d_H_addTurn_7 : decode M_H_addTurn.2.1 7 = .ok (.iload_n 1, 1) := by decide +kernel
theorem d_H_addTurn_8 : decode M_H_addTurn.2.1 8 = .ok (.iaload, 1) := by decide +kernel
theorem d_H_addTurn_9 : decode M_H_addTurn.2.1 9 = .ok (.iadd, 1) := by decide +kernel
theorem d_H_addTurn_10 : decode M_H_addTurn.2.1 10 = .ok (.istore 6, 2) := by decide +kernel
theorem d_H_addTurn_12 : decode M_H_addTurn.2.1 12 = .ok (.aload_n 0, 1) := by decide +kernel
theorem d_H_addTurn_13 : decode M_H_addTurn.2.1 13 = .ok (.getfield 18, 3) := by decide +kernel
theorem d_H_addTurn_16 : decode M_H_addTurn.2.1 16 = .ok (.iload 6, 2) := by decide +kernel
theorem d_H_addTurn_18 : decode M_H_addTurn.2.1 18 = .ok (.iload_n 2, 1) := by decide +kernel
theorem d_H_addTurn_19 : decode M_H_addTurn.2.1 19 = .ok (.iastore, 1) := by decide +kernel
theorem d_H_addTurn_20 : decode M_H_addTurn.2.1 20 = .ok (.aload_n 0, 1) := by decide +kernel
theorem d_H_addTurn_21 : decode M_H_addTurn.2.1 21 = .ok (.getfield 21, 3) := by decide +kernel
theorem d_H_addTurn_24 : decode M_H_addTurn.2.1 24 = .ok (.iload 6, 2) := by decide +kernel
theorem d_H_addTurn_26 : decode M_H_addTurn.2.1 26 = .ok (.iload_n 3, 1) := by decide +kernel
theorem d_H_addTurn_27 : decode M_H_addTurn.2.1 27 = .ok (.iastore, 1) := by decide +kernel
theorem d_H_addTurn_28 : decode M_H_addTurn.2.1 28 = .ok (.aload_n 0, 1) := by decide +kernel
theorem d_H_addTurn_29 : decode M_H_addTurn.2.1 29 = .ok (.getfield 24, 3) := by decide +kernel
theorem d_H_addTurn_32 : decode M_H_addTurn.2.1 32 = .ok (.iload 6, 2) := by decide +kernel
theorem d_H_addTurn_34 : decode M_H_addTurn.2.1 34 = .ok (.iload 4, 2) := by decide +kernel
theorem d_H_addTurn_36 : decode M_H_addTurn.2.1 36 = .ok (.iastore, 1) := by decide +kernel
theorem d_H_addTurn_37 : decode M_H_addTurn.2.1 37 = .ok (.aload_n 0, 1) := by decide +kernel
theorem d_H_addTurn_38 : decode M_H_addTurn.2.1 38 = .ok (.getfield 27, 3) := by decide +kernel
theorem d_H_addTurn_41 : decode M_H_addTurn.2.1 41 = .ok (.iload 6, 2) := by decide +kernel
theorem d_H_addTurn_43 : decode M_H_addTurn.2.1 43 = .ok (.iload 5, 2) := by decide +kernel
theorem d_H_addTurn_45 : decode M_H_addTurn.2.1 45 = .ok (.iastore, 1) := by decide +kernel
theorem d_H_addTurn_46 : decode M_H_addTurn.2.1 46 = .ok (.aload_n 0, 1) := by decide +kernel
theorem d_H_addTurn_47 : decode M_H_addTurn.2.1 47 = .ok (.getfield 15, 3) := by decide +kernel
theorem d_H_addTurn_50 : decode M_H_addTurn.2.1 50 = .ok (.iload_n 1, 1) := by decide +kernel
theorem d_H_addTurn_51 : decode M_H_addTurn.2.1 51 = .ok (.dup2, 1) := by decide +kernel
theorem d_H_addTurn_52 : decode M_H_addTurn.2.1 52 = .ok (.iaload, 1) := by decide +kernel
theorem d_H_addTurn_53 : decode M_H_addTurn.2.1 53 = .ok (.iconst 1, 1) := by decide +kernel
theorem d_H_addTurn_54 : decode M_H_addTurn.2.1 54 = .ok (.iadd, 1) := by decide +kernel
theorem d_H_addTurn_55 : decode M_H_addTurn.2.1 55 = .ok (.iastore, 1) := by decide +kernel
theorem d_H_addTurn_56 : decode M_H_addTurn.2.1 56 = .ok (.aload_n 0, 1) := by decide +kernel
theorem d_H_addTurn_57 : decode M_H_addTurn.2.1 57 = .ok (.getfield 15, 3) := by decide +kernel
theorem d_H_addTurn_60 : decode M_H_addTurn.2.1 60 = .ok (.iload_n 1, 1) := by decide +kernel
theorem d_H_addTurn_61 : decode M_H_addTurn.2.1 61 = .ok (.iaload, 1) := by decide +kernel
theorem d_H_addTurn_62 : decode M_H_addTurn.2.1 62 = .ok (.ireturn, 1) := by decide +kernel
theorem d_H_mayCome_0 : decode M_H_mayCome.2.1 0 = .ok (.iload_n 2, 1) := by decide +kernel
theorem d_H_mayCome_1 : decode M_H_mayCome.2.1 1 = .ok (.iconst 1, 1) := by decide +kernel
theorem d_H_mayCome_2 : decode M_H_mayCome.2.1 2 = .ok (.aload_n 0, 1) := by decide +kernel
theorem d_H_mayCome_3 : decode M_H_mayCome.2.1 3 = .ok (.getfield 39, 3) := by decide +kernel
theorem d_H_mayCome_6 : decode M_H_mayCome.2.1 6 = .ok (.invokestatic 52, 3) := by decide +kernel
theorem d_H_mayCome_9 : decode M_H_mayCome.2.1 9 = .ok (.ifCond .eq 42, 3) := by decide +kernel
theorem d_H_mayCome_12 : decode M_H_mayCome.2.1 12 = .ok (.iload_n 2, 1) := by decide +kernel
theorem d_H_mayCome_13 : decode M_H_mayCome.2.1 13 = .ok (.aload_n 0, 1) := by decide +kernel
theorem d_H_mayCome_14 : decode M_H_mayCome.2.1 14 = .ok (.getfield 24, 3) := by decide +kernel
theorem d_H_mayCome_17 : decode M_H_mayCome.2.1 17 = .ok (.iload_n 1, 1) := by decide +kernel
theorem d_H_mayCome_18 : decode M_H_mayCome.2.1 18 = .ok (.iaload, 1) := by decide +kernel
theorem d_H_mayCome_19 : decode M_H_mayCome.2.1 19 = .ok (.aload_n 0, 1) := by decide +kernel
theorem d_H_mayCome_20 : decode M_H_mayCome.2.1 20 = .ok (.getfield 27, 3) := by decide +kernel
theorem d_H_mayCome_23 : decode M_H_mayCome.2.1 23 = .ok (.iload_n 1, 1) := by decide +kernel
theorem d_H_mayCome_24 : decode M_H_mayCome.2.1 24 = .ok (.iaload, 1) := by decide +kernel
theorem d_H_mayCome_25 : decode M_H_mayCome.2.1 25 = .ok (.invokestatic 52, 3) := by decide +kernel
theorem d_H_mayCome_28 : decode M_H_mayCome.2.1 28 = .ok (.ifCond .eq 23, 3) := by decide +kernel
theorem d_H_mayCome_31 : decode M_H_mayCome.2.1 31 = .ok (.aload_n 0, 1) := by decide +kernel
theorem d_H_mayCome_32 : decode M_H_mayCome.2.1 32 = .ok (.getfield 21, 3) := by decide +kernel
theorem d_H_mayCome_35 : decode M_H_mayCome.2.1 35 = .ok (.iload_n 1, 1) := by decide +kernel
theorem d_H_mayCome_36 : decode M_H_mayCome.2.1 36 = .ok (.iaload, 1) := by decide +kernel
theorem d_H_mayCome_37 : decode M_H_mayCome.2.1 37 = .ok (.aload_n 0, 1) := by decide +kernel
theorem d_H_mayCome_38 : decode M_H_mayCome.2.1 38 = .ok (.getfield 36, 3) := by decide +kernel
theorem d_H_mayCome_41 : decode M_H_mayCome.2.1 41 = .ok (.iload_n 2, 1) := by decide +kernel
theorem d_H_mayCome_42 : decode M_H_mayCome.2.1 42 = .ok (.iaload, 1) := by decide +kernel
theorem d_H_mayCome_43 : decode M_H_mayCome.2.1 43 = .ok (.iand, 1) := by decide +kernel
theorem d_H_mayCome_44 : decode M_H_mayCome.2.1 44 = .ok (.ifCond .ne 7, 3) := by decide +kernel
theorem d_H_mayCome_47 : decode M_H_mayCome.2.1 47 = .ok (.iconst 1, 1) := by decide +kernel
theorem d_H_mayCome_48 : decode M_H_mayCome.2.1 48 = .ok (.goto 4, 3) := by decide +kernel
theorem d_H_mayCome_51 : decode M_H_mayCome.2.1 51 = .ok (.iconst 0, 1) := by decide +kernel
theorem d_H_mayCome_52 : decode M_H_mayCome.2.1 52 = .ok (.ireturn, 1) := by decide +kernel
theorem d_B_init_0 : decode M_B_init.2.1 0 = .ok (.aload_n 0, 1) := by decide +kernel
theorem d_B_init_1 : decode M_B_init.2.1 1 = .ok (.invokespecial 3, 3) := by decide +kernel
theorem d_B_init_4 : decode M_B_init.2.1 4 = .ok (.aload_n 0, 1) := by decide +kernel
theorem d_B_init_5 : decode M_B_init.2.1 5 = .ok (.bipush 6, 2) := by decide +kernel
theorem d_B_init_7 : decode M_B_init.2.1 7 = .ok (.newarray .int, 2) := by decide +kernel
theorem d_B_init_9 : decode M_B_init.2.1 9 = .ok (.putfield 9, 3) := by decide +kernel
theorem d_B_init_12 : decode M_B_init.2.1 12 = .ok (.aload_n 0, 1) := by decide +kernel
theorem d_B_init_13 : decode M_B_init.2.1 13 = .ok (.bipush 8, 2) := by decide +kernel
theorem d_B_init_15 : decode M_B_init.2.1 15 = .ok (.newarray .int, 2) := by decide +kernel
theorem d_B_init_17 : decode M_B_init.2.1 17 = .ok (.putfield 15, 3) := by decide +kernel
theorem d_B_init_20 : decode M_B_init.2.1 20 = .ok (.aload_n 0, 1) := by decide +kernel
theorem d_B_init_21 : decode M_B_init.2.1 21 = .ok (.bipush 8, 2) := by decide +kernel
theorem d_B_init_23 : decode M_B_init.2.1 23 = .ok (.newarray .int, 2) := by decide +kernel
theorem d_B_init_25 : decode M_B_init.2.1 25 = .ok (.putfield 18, 3) := by decide +kernel
theorem d_B_init_28 : decode M_B_init.2.1 28 = .ok (.aload_n 0, 1) := by decide +kernel
theorem d_B_init_29 : decode M_B_init.2.1 29 = .ok (.bipush 96, 2) := by decide +kernel
theorem d_B_init_31 : decode M_B_init.2.1 31 = .ok (.newarray .int, 2) := by decide +kernel
theorem d_B_init_33 : decode M_B_init.2.1 33 = .ok (.putfield 21, 3) := by decide +kernel
theorem d_B_init_36 : decode M_B_init.2.1 36 = .ok (.aload_n 0, 1) := by decide +kernel
theorem d_B_init_37 : decode M_B_init.2.1 37 = .ok (.bipush 8, 2) := by decide +kernel
theorem d_B_init_39 : decode M_B_init.2.1 39 = .ok (.newarray .int, 2) := by decide +kernel
theorem d_B_init_41 : decode M_B_init.2.1 41 = .ok (.putfield 24, 3) := by decide +kernel
theorem d_B_init_44 : decode M_B_init.2.1 44 = .ok (.return_, 1) := by decide +kernel
theorem d_B_forget_0 : decode M_B_forget.2.1 0 = .ok (.aload_n 0, 1) := by decide +kernel
theorem d_B_forget_1 : decode M_B_forget.2.1 1 = .ok (.iconst 0, 1) := by decide +kernel
theorem d_B_forget_2 : decode M_B_forget.2.1 2 = .ok (.putfield 27, 3) := by decide +kernel
theorem d_B_forget_5 : decode M_B_forget.2.1 5 = .ok (.aload_n 0, 1) := by decide +kernel
theorem d_B_forget_6 : decode M_B_forget.2.1 6 = .ok (.getfield 9, 3) := by decide +kernel
theorem d_B_forget_9 : decode M_B_forget.2.1 9 = .ok (.iconst 0, 1) := by decide +kernel
theorem d_B_forget_10 : decode M_B_forget.2.1 10 = .ok (.invokestatic 31, 3) := by decide +kernel
theorem d_B_forget_13 : decode M_B_forget.2.1 13 = .ok (.return_, 1) := by decide +kernel
theorem d_B_setTo_0 : decode M_B_setTo.2.1 0 = .ok (.aload_n 0, 1) := by decide +kernel
theorem d_B_setTo_1 : decode M_B_setTo.2.1 1 = .ok (.iload_n 1, 1) := by decide +kernel
theorem d_B_setTo_2 : decode M_B_setTo.2.1 2 = .ok (.putfield 27, 3) := by decide +kernel
theorem d_B_setTo_5 : decode M_B_setTo.2.1 5 = .ok (.aload_n 0, 1) := by decide +kernel
theorem d_B_setTo_6 : decode M_B_setTo.2.1 6 = .ok (.iload_n 2, 1) := by decide +kernel
theorem d_B_setTo_7 : decode M_B_setTo.2.1 7 = .ok (.putfield 37, 3) := by decide +kernel
theorem d_B_setTo_10 : decode M_B_setTo.2.1 10 = .ok (.aload_n 0, 1) := by decide +kernel
theorem d_B_setTo_11 : decode M_B_setTo.2.1 11 = .ok (.iload_n 3, 1) := by decide +kernel
theorem d_B_setTo_12 : decode M_B_setTo.2.1 12 = .ok (.putfield 40, 3) := by decide +kernel
theorem d_B_setTo_15 : decode M_B_setTo.2.1 15 = .ok (.aload_n 0, 1) := by decide +kernel
theorem d_B_setTo_16 : decode M_B_setTo.2.1 16 = .ok (.iload 4, 2) := by decide +kernel
theorem d_B_setTo_18 : decode M_B_setTo.2.1 18 = .ok (.putfield 43, 3) := by decide +kernel
theorem d_B_setTo_21 : decode M_B_setTo.2.1 21 = .ok (.aload_n 0, 1) := by decide +kernel
theorem d_B_setTo_22 : decode M_B_setTo.2.1 22 = .ok (.iload 5, 2) := by decide +kernel
theorem d_B_setTo_24 : decode M_B_setTo.2.1 24 = .ok (.putfield 46, 3) := by decide +kernel
theorem d_B_setTo_27 : decode M_B_setTo.2.1 27 = .ok (.return_, 1) := by decide +kernel
theorem d_B_isTold_0 : decode M_B_isTold.2.1 0 = .ok (.aload_n 0, 1) := by decide +kernel
theorem d_B_isTold_1 : decode M_B_isTold.2.1 1 = .ok (.getfield 27, 3) := by decide +kernel
theorem d_B_isTold_4 : decode M_B_isTold.2.1 4 = .ok (.ifCond .le 7, 3) := by decide +kernel
theorem d_B_isTold_7 : decode M_B_isTold.2.1 7 = .ok (.iconst 1, 1) := by decide +kernel
theorem d_B_isTold_8 : decode M_B_isTold.2.1 8 = .ok (.goto 4, 3) := by decide +kernel
theorem d_B_isTold_11 : decode M_B_isTold.2.1 11 = .ok (.iconst 0, 1) := by decide +kernel
theorem d_B_isTold_12 : decode M_B_isTold.2.1 12 = .ok (.ireturn, 1) := by decide +kernel
theorem d_B_gather_0 : decode M_B_gather.2.1 0 = .ok (.aload_n 0, 1) := by decide +kernel
theorem d_B_gather_1 : decode M_B_gather.2.1 1 = .ok (.iconst 0, 1) := by decide +kernel
theorem d_B_gather_2 : decode M_B_gather.2.1 2 = .ok (.putfield 49, 3) := by decide +kernel
theorem d_B_gather_5 : decode M_B_gather.2.1 5 = .ok (.aload_n 2, 1) := by decide +kernel
theorem d_B_gather_6 : decode M_B_gather.2.1 6 = .ok (.aload_n 1, 1) := by decide +kernel
theorem d_B_gather_7 : decode M_B_gather.2.1 7 = .ok (.invokevirtual 52, 3) := by decide +kernel
theorem d_B_gather_10 : decode M_B_gather.2.1 10 = .ok (.istore_n 3, 1) := by decide +kernel
theorem d_B_gather_11 : decode M_B_gather.2.1 11 = .ok (.iconst 0, 1) := by decide +kernel
theorem d_B_gather_12 : decode M_B_gather.2.1 12 = .ok (.istore 4, 2) := by decide +kernel
theorem d_B_gather_14 : decode M_B_gather.2.1 14 = .ok (.iload 4, 2) := by decide +kernel
theorem d_B_gather_16 : decode M_B_gather.2.1 16 = .ok (.iload_n 3, 1) := by decide +kernel
theorem d_B_gather_17 : decode M_B_gather.2.1 17 = .ok (.if_icmp .ge 110, 3) := by decide +kernel
theorem d_B_gather_20 : decode M_B_gather.2.1 20 = .ok (.aload_n 2, 1) := by decide +kernel
theorem d_B_gather_21 : decode M_B_gather.2.1 21 = .ok (.getfield 58, 3) := by decide +kernel
theorem d_B_gather_24 : decode M_B_gather.2.1 24 = .ok (.iload 4, 2) := by decide +kernel
theorem d_B_gather_26 : decode M_B_gather.2.1 26 = .ok (.iaload, 1) := by decide +kernel
theorem d_B_gather_27 : decode M_B_gather.2.1 27 = .ok (.istore 5, 2) := by decide +kernel
theorem d_B_gather_29 : decode M_B_gather.2.1 29 = .ok (.aload_n 1, 1) := by decide +kernel
theorem d_B_gather_30 : decode M_B_gather.2.1 30 = .ok (.getfield 61, 3) := by decide +kernel
theorem d_B_gather_33 : decode M_B_gather.2.1 33 = .ok (.iload 5, 2) := by decide +kernel
theorem d_B_gather_35 : decode M_B_gather.2.1 35 = .ok (.iaload, 1) := by decide +kernel
theorem d_B_gather_36 : decode M_B_gather.2.1 36 = .ok (.aload_n 0, 1) := by decide +kernel
theorem d_B_gather_37 : decode M_B_gather.2.1 37 = .ok (.getfield 27, 3) := by decide +kernel
theorem d_B_gather_40 : decode M_B_gather.2.1 40 = .ok (.aload_n 0, 1) := by decide +kernel
theorem d_B_gather_41 : decode M_B_gather.2.1 41 = .ok (.getfield 37, 3) := by decide +kernel
theorem d_B_gather_44 : decode M_B_gather.2.1 44 = .ok (.invokestatic 66, 3) := by decide +kernel
theorem d_B_gather_47 : decode M_B_gather.2.1 47 = .ok (.ifCond .eq 68, 3) := by decide +kernel
theorem d_B_gather_50 : decode M_B_gather.2.1 50 = .ok (.aload_n 0, 1) := by decide +kernel
theorem d_B_gather_51 : decode M_B_gather.2.1 51 = .ok (.getfield 49, 3) := by decide +kernel
theorem d_B_gather_54 : decode M_B_gather.2.1 54 = .ok (.bipush 8, 2) := by decide +kernel
theorem d_B_gather_56 : decode M_B_gather.2.1 56 = .ok (.if_icmp .ge 59, 3) := by decide +kernel
theorem d_B_gather_59 : decode M_B_gather.2.1 59 = .ok (.aload_n 0, 1) := by decide +kernel
theorem d_B_gather_60 : decode M_B_gather.2.1 60 = .ok (.getfield 15, 3) := by decide +kernel
theorem d_B_gather_63 : decode M_B_gather.2.1 63 = .ok (.aload_n 0, 1) := by decide +kernel
theorem d_B_gather_64 : decode M_B_gather.2.1 64 = .ok (.getfield 49, 3) := by decide +kernel
theorem d_B_gather_67 : decode M_B_gather.2.1 67 = .ok (.iload 5, 2) := by decide +kernel
theorem d_B_gather_69 : decode M_B_gather.2.1 69 = .ok (.iastore, 1) := by decide +kernel
theorem d_B_gather_70 : decode M_B_gather.2.1 70 = .ok (.aload_n 2, 1) := by decide +kernel
theorem d_B_gather_71 : decode M_B_gather.2.1 71 = .ok (.getfield 70, 3) := by decide +kernel
theorem d_B_gather_74 : decode M_B_gather.2.1 74 = .ok (.iconst 0, 1) := by decide +kernel
theorem d_B_gather_75 : decode M_B_gather.2.1 75 = .ok (.aload_n 0, 1) := by decide +kernel
theorem d_B_gather_76 : decode M_B_gather.2.1 76 = .ok (.getfield 21, 3) := by decide +kernel
theorem d_B_gather_79 : decode M_B_gather.2.1 79 = .ok (.aload_n 0, 1) := by decide +kernel
theorem d_B_gather_80 : decode M_B_gather.2.1 80 = .ok (.getfield 49, 3) := by decide +kernel
theorem d_B_gather_83 : decode M_B_gather.2.1 83 = .ok (.bipush 12, 2) := by decide +kernel
theorem d_B_gather_85 : decode M_B_gather.2.1 85 = .ok (.imul, 1) := by decide +kernel
theorem d_B_gather_86 : decode M_B_gather.2.1 86 = .ok (.bipush 12, 2) := by decide +kernel
theorem d_B_gather_88 : decode M_B_gather.2.1 88 = .ok (.invokestatic 73, 3) := by decide +kernel
theorem d_B_gather_91 : decode M_B_gather.2.1 91 = .ok (.aload_n 0, 1) := by decide +kernel
theorem d_B_gather_92 : decode M_B_gather.2.1 92 = .ok (.getfield 18, 3) := by decide +kernel
theorem d_B_gather_95 : decode M_B_gather.2.1 95 = .ok (.aload_n 0, 1) := by decide +kernel
theorem d_B_gather_96 : decode M_B_gather.2.1 96 = .ok (.getfield 49, 3) := by decide +kernel
theorem d_B_gather_99 : decode M_B_gather.2.1 99 = .ok (.aload_n 0, 1) := by decide +kernel
theorem d_B_gather_100 : decode M_B_gather.2.1 100 = .ok (.aload_n 1, 1) := by decide +kernel
theorem d_B_gather_101 : decode M_B_gather.2.1 101 = .ok (.invokevirtual 79, 3) := by decide +kernel
theorem d_B_gather_104 : decode M_B_gather.2.1 104 = .ok (.iastore, 1) := by decide +kernel
theorem d_B_gather_105 : decode M_B_gather.2.1 105 = .ok (.aload_n 0, 1) := by decide +kernel
theorem d_B_gather_106 : decode M_B_gather.2.1 106 = .ok (.dup, 1) := by decide +kernel
theorem d_B_gather_107 : decode M_B_gather.2.1 107 = .ok (.getfield 49, 3) := by decide +kernel
theorem d_B_gather_110 : decode M_B_gather.2.1 110 = .ok (.iconst 1, 1) := by decide +kernel
theorem d_B_gather_111 : decode M_B_gather.2.1 111 = .ok (.iadd, 1) := by decide +kernel
theorem d_B_gather_112 : decode M_B_gather.2.1 112 = .ok (.putfield 49, 3) := by decide +kernel
theorem d_B_gather_115 : decode M_B_gather.2.1 115 = .ok (.aload_n 2, 1) := by decide +kernel
theorem d_B_gather_116 : decode M_B_gather.2.1 116 = .ok (.iload 5, 2) := by decide +kernel
theorem d_B_gather_118 : decode M_B_gather.2.1 118 = .ok (.invokevirtual 82, 3) := by decide +kernel
theorem d_B_gather_121 : decode M_B_gather.2.1 121 = .ok (.iinc 4 1, 3) := by decide +kernel
theorem d_B_gather_124 : decode M_B_gather.2.1 124 = .ok (.goto (-110), 3) := by decide +kernel
theorem d_B_gather_127 : decode M_B_gather.2.1 127 = .ok (.return_, 1) := by decide +kernel
theorem d_B_withLowerLook_0 : decode M_B_withLowerLook.2.1 0 = .ok (.iconst 0, 1) := by decide +kernel
theorem d_B_withLowerLook_1 : decode M_B_withLowerLook.2.1 1 = .ok (.istore_n 2, 1) := by decide +kernel
theorem d_B_withLowerLook_2 : decode M_B_withLowerLook.2.1 2 = .ok (.iconst 0, 1) := by decide +kernel
theorem d_B_withLowerLook_3 : decode M_B_withLowerLook.2.1 3 = .ok (.istore_n 3, 1) := by decide +kernel
theorem d_B_withLowerLook_4 : decode M_B_withLowerLook.2.1 4 = .ok (.iload_n 3, 1) := by decide +kernel
theorem d_B_withLowerLook_5 : decode M_B_withLowerLook.2.1 5 = .ok (.aload_n 0, 1) := by decide +kernel
theorem d_B_withLowerLook_6 : decode M_B_withLowerLook.2.1 6 = .ok (.getfield 49, 3) := by decide +kernel
theorem d_B_withLowerLook_9 : decode M_B_withLowerLook.2.1 9 = .ok (.if_icmp .ge 102, 3) := by decide +kernel
theorem d_B_withLowerLook_12 : decode M_B_withLowerLook.2.1 12 = .ok (.aload_n 1, 1) := by decide +kernel
theorem d_B_withLowerLook_13 : decode M_B_withLowerLook.2.1 13 = .ok (.getfield 86, 3) := by decide +kernel
theorem d_B_withLowerLook_16 : decode M_B_withLowerLook.2.1 16 = .ok (.aload_n 0, 1) := by decide +kernel
theorem d_B_withLowerLook_17 : decode M_B_withLowerLook.2.1 17 = .ok (.getfield 15, 3) := by decide +kernel
theorem d_B_withLowerLook_20 : decode M_B_withLowerLook.2.1 20 = .ok (.iload_n 3, 1) := by decide +kernel
theorem d_B_withLowerLook_21 : decode M_B_withLowerLook.2.1 21 = .ok (.iaload, 1) := by decide +kernel
theorem d_B_withLowerLook_22 : decode M_B_withLowerLook.2.1 22 = .ok (.iaload, 1) := by decide +kernel
theorem d_B_withLowerLook_23 : decode M_B_withLowerLook.2.1 23 = .ok (.aload_n 1, 1) := by decide +kernel
theorem d_B_withLowerLook_24 : decode M_B_withLowerLook.2.1 24 = .ok (.getfield 86, 3) := by decide +kernel
theorem d_B_withLowerLook_27 : decode M_B_withLowerLook.2.1 27 = .ok (.aload_n 0, 1) := by decide +kernel
theorem d_B_withLowerLook_28 : decode M_B_withLowerLook.2.1 28 = .ok (.getfield 15, 3) := by decide +kernel
theorem d_B_withLowerLook_31 : decode M_B_withLowerLook.2.1 31 = .ok (.aload_n 0, 1) := by decide +kernel
theorem d_B_withLowerLook_32 : decode M_B_withLowerLook.2.1 32 = .ok (.getfield 49, 3) := by decide +kernel
theorem d_B_withLowerLook_35 : decode M_B_withLowerLook.2.1 35 = .ok (.iaload, 1) := by decide +kernel
theorem d_B_withLowerLook_36 : decode M_B_withLowerLook.2.1 36 = .ok (.iaload, 1) := by decide +kernel
theorem d_B_withLowerLook_37 : decode M_B_withLowerLook.2.1 37 = .ok (.iand, 1) := by decide +kernel
theorem d_B_withLowerLook_38 : decode M_B_withLowerLook.2.1 38 = .ok (.istore 4, 2) := by decide +kernel
theorem d_B_withLowerLook_40 : decode M_B_withLowerLook.2.1 40 = .ok (.iconst 0, 1) := by decide +kernel
theorem d_B_withLowerLook_41 : decode M_B_withLowerLook.2.1 41 = .ok (.istore 5, 2) := by decide +kernel
theorem d_B_withLowerLook_43 : decode M_B_withLowerLook.2.1 43 = .ok (.iload 5, 2) := by decide +kernel
theorem d_B_withLowerLook_45 : decode M_B_withLowerLook.2.1 45 = .ok (.aload_n 1, 1) := by decide +kernel
theorem d_B_withLowerLook_46 : decode M_B_withLowerLook.2.1 46 = .ok (.getfield 89, 3) := by decide +kernel
theorem d_B_withLowerLook_49 : decode M_B_withLowerLook.2.1 49 = .ok (.if_icmp .ge 56, 3) := by decide +kernel
theorem d_B_withLowerLook_52 : decode M_B_withLowerLook.2.1 52 = .ok (.iload 4, 2) := by decide +kernel
theorem d_B_withLowerLook_54 : decode M_B_withLowerLook.2.1 54 = .ok (.iload 5, 2) := by decide +kernel
theorem d_B_withLowerLook_56 : decode M_B_withLowerLook.2.1 56 = .ok (.ishr, 1) := by decide +kernel
theorem d_B_withLowerLook_57 : decode M_B_withLowerLook.2.1 57 = .ok (.iconst 1, 1) := by decide +kernel
theorem d_B_withLowerLook_58 : decode M_B_withLowerLook.2.1 58 = .ok (.iand, 1) := by decide +kernel
theorem d_B_withLowerLook_59 : decode M_B_withLowerLook.2.1 59 = .ok (.iconst 1, 1) := by decide +kernel
theorem d_B_withLowerLook_60 : decode M_B_withLowerLook.2.1 60 = .ok (.if_icmp .ne 39, 3) := by decide +kernel
theorem d_B_withLowerLook_63 : decode M_B_withLowerLook.2.1 63 = .ok (.aload_n 0, 1) := by decide +kernel
theorem d_B_withLowerLook_64 : decode M_B_withLowerLook.2.1 64 = .ok (.getfield 21, 3) := by decide +kernel
theorem d_B_withLowerLook_67 : decode M_B_withLowerLook.2.1 67 = .ok (.iload_n 3, 1) := by decide +kernel
theorem d_B_withLowerLook_68 : decode M_B_withLowerLook.2.1 68 = .ok (.bipush 12, 2) := by decide +kernel
theorem d_B_withLowerLook_70 : decode M_B_withLowerLook.2.1 70 = .ok (.imul, 1) := by decide +kernel
theorem d_B_withLowerLook_71 : decode M_B_withLowerLook.2.1 71 = .ok (.iload 5, 2) := by decide +kernel
theorem d_B_withLowerLook_73 : decode M_B_withLowerLook.2.1 73 = .ok (.iadd, 1) := by decide +kernel
theorem d_B_withLowerLook_74 : decode M_B_withLowerLook.2.1 74 = .ok (.iaload, 1) := by decide +kernel
theorem d_B_withLowerLook_75 : decode M_B_withLowerLook.2.1 75 = .ok (.aload_n 0, 1) := by decide +kernel
theorem d_B_withLowerLook_76 : decode M_B_withLowerLook.2.1 76 = .ok (.getfield 21, 3) := by decide +kernel
theorem d_B_withLowerLook_79 : decode M_B_withLowerLook.2.1 79 = .ok (.aload_n 0, 1) := by decide +kernel
theorem d_B_withLowerLook_80 : decode M_B_withLowerLook.2.1 80 = .ok (.getfield 49, 3) := by decide +kernel
theorem d_B_withLowerLook_83 : decode M_B_withLowerLook.2.1 83 = .ok (.bipush 12, 2) := by decide +kernel
theorem d_B_withLowerLook_85 : decode M_B_withLowerLook.2.1 85 = .ok (.imul, 1) := by decide +kernel
theorem d_B_withLowerLook_86 : decode M_B_withLowerLook.2.1 86 = .ok (.iload 5, 2) := by decide +kernel
theorem d_B_withLowerLook_88 : decode M_B_withLowerLook.2.1 88 = .ok (.iadd, 1) := by decide +kernel
theorem d_B_withLowerLook_89 : decode M_B_withLowerLook.2.1 89 = .ok (.iaload, 1) := by decide +kernel
theorem d_B_withLowerLook_90 : decode M_B_withLowerLook.2.1 90 = .ok (.if_icmp .ge 9, 3) := by decide +kernel
theorem d_B_withLowerLook_93 : decode M_B_withLowerLook.2.1 93 = .ok (.iload_n 2, 1) := by decide +kernel
theorem d_B_withLowerLook_94 : decode M_B_withLowerLook.2.1 94 = .ok (.iconst 1, 1) := by decide +kernel
theorem d_B_withLowerLook_95 : decode M_B_withLowerLook.2.1 95 = .ok (.iload_n 3, 1) := by decide +kernel
theorem d_B_withLowerLook_96 : decode M_B_withLowerLook.2.1 96 = .ok (.ishl, 1) := by decide +kernel
theorem d_B_withLowerLook_97 : decode M_B_withLowerLook.2.1 97 = .ok (.ior, 1) := by decide +kernel
theorem d_B_withLowerLook_98 : decode M_B_withLowerLook.2.1 98 = .ok (.istore_n 2, 1) := by decide +kernel
theorem d_B_withLowerLook_99 : decode M_B_withLowerLook.2.1 99 = .ok (.iinc 5 1, 3) := by decide +kernel
theorem d_B_withLowerLook_102 : decode M_B_withLowerLook.2.1 102 = .ok (.goto (-59), 3) := by decide +kernel
theorem d_B_withLowerLook_105 : decode M_B_withLowerLook.2.1 105 = .ok (.iinc 3 1, 3) := by decide +kernel
theorem d_B_withLowerLook_108 : decode M_B_withLowerLook.2.1 108 = .ok (.goto (-104), 3) := by decide +kernel
theorem d_B_withLowerLook_111 : decode M_B_withLowerLook.2.1 111 = .ok (.iload_n 2, 1) := by decide +kernel
theorem d_B_withLowerLook_112 : decode M_B_withLowerLook.2.1 112 = .ok (.ireturn, 1) := by decide +kernel
theorem d_B_judgement_0 : decode M_B_judgement.2.1 0 = .ok (.iconst 0, 1) := by decide +kernel
theorem d_B_judgement_1 : decode M_B_judgement.2.1 1 = .ok (.istore_n 3, 1) := by decide +kernel
theorem d_B_judgement_2 : decode M_B_judgement.2.1 2 = .ok (.iload_n 3, 1) := by decide +kernel
theorem d_B_judgement_3 : decode M_B_judgement.2.1 3 = .ok (.aload_n 0, 1) := by decide +kernel
theorem d_B_judgement_4 : decode M_B_judgement.2.1 4 = .ok (.getfield 49, 3) := by decide +kernel
theorem d_B_judgement_7 : decode M_B_judgement.2.1 7 = .ok (.if_icmp .ge 66, 3) := by decide +kernel
theorem d_B_judgement_10 : decode M_B_judgement.2.1 10 = .ok (.iload_n 3, 1) := by decide +kernel
theorem d_B_judgement_11 : decode M_B_judgement.2.1 11 = .ok (.aload_n 1, 1) := by decide +kernel
theorem d_B_judgement_12 : decode M_B_judgement.2.1 12 = .ok (.getfield 92, 3) := by decide +kernel
theorem d_B_judgement_15 : decode M_B_judgement.2.1 15 = .ok (.if_icmp .lt 6, 3) := by decide +kernel
theorem d_B_judgement_18 : decode M_B_judgement.2.1 18 = .ok (.bipush (-13), 2) := by decide +kernel
theorem d_B_judgement_20 : decode M_B_judgement.2.1 20 = .ok (.ireturn, 1) := by decide +kernel
theorem d_B_judgement_21 : decode M_B_judgement.2.1 21 = .ok (.aload_n 0, 1) := by decide +kernel
theorem d_B_judgement_22 : decode M_B_judgement.2.1 22 = .ok (.getfield 24, 3) := by decide +kernel
theorem d_B_judgement_25 : decode M_B_judgement.2.1 25 = .ok (.iload_n 3, 1) := by decide +kernel
theorem d_B_judgement_26 : decode M_B_judgement.2.1 26 = .ok (.aload_n 1, 1) := by decide +kernel
theorem d_B_judgement_27 : decode M_B_judgement.2.1 27 = .ok (.getfield 95, 3) := by decide +kernel
theorem d_B_judgement_30 : decode M_B_judgement.2.1 30 = .ok (.iload_n 3, 1) := by decide +kernel
theorem d_B_judgement_31 : decode M_B_judgement.2.1 31 = .ok (.laload, 1) := by decide +kernel
theorem d_B_judgement_32 : decode M_B_judgement.2.1 32 = .ok (.l2i, 1) := by decide +kernel
theorem d_B_judgement_33 : decode M_B_judgement.2.1 33 = .ok (.iastore, 1) := by decide +kernel
theorem d_B_judgement_34 : decode M_B_judgement.2.1 34 = .ok (.aload_n 0, 1) := by decide +kernel
theorem d_B_judgement_35 : decode M_B_judgement.2.1 35 = .ok (.getfield 24, 3) := by decide +kernel
theorem d_B_judgement_38 : decode M_B_judgement.2.1 38 = .ok (.iload_n 3, 1) := by decide +kernel
theorem d_B_judgement_39 : decode M_B_judgement.2.1 39 = .ok (.iaload, 1) := by decide +kernel
theorem d_B_judgement_40 : decode M_B_judgement.2.1 40 = .ok (.iconst 0, 1) := by decide +kernel
theorem d_B_judgement_41 : decode M_B_judgement.2.1 41 = .ok (.aload_n 0, 1) := by decide +kernel
theorem d_B_judgement_42 : decode M_B_judgement.2.1 42 = .ok (.getfield 40, 3) := by decide +kernel
theorem d_B_judgement_45 : decode M_B_judgement.2.1 45 = .ok (.iconst 1, 1) := by decide +kernel
theorem d_B_judgement_46 : decode M_B_judgement.2.1 46 = .ok (.isub, 1) := by decide +kernel
theorem d_B_judgement_47 : decode M_B_judgement.2.1 47 = .ok (.invokestatic 66, 3) := by decide +kernel
theorem d_B_judgement_50 : decode M_B_judgement.2.1 50 = .ok (.ifCond .eq 12, 3) := by decide +kernel
theorem d_B_judgement_53 : decode M_B_judgement.2.1 53 = .ok (.aload_n 0, 1) := by decide +kernel
theorem d_B_judgement_54 : decode M_B_judgement.2.1 54 = .ok (.iload_n 3, 1) := by decide +kernel
theorem d_B_judgement_55 : decode M_B_judgement.2.1 55 = .ok (.aload_n 2, 1) := by decide +kernel
theorem d_B_judgement_56 : decode M_B_judgement.2.1 56 = .ok (.invokevirtual 99, 3) := by decide +kernel
theorem d_B_judgement_59 : decode M_B_judgement.2.1 59 = .ok (.ifCond .ne 8, 3) := by decide +kernel
theorem d_B_judgement_62 : decode M_B_judgement.2.1 62 = .ok (.bipush (-100), 2) := by decide +kernel
theorem d_B_judgement_64 : decode M_B_judgement.2.1 64 = .ok (.iload_n 3, 1) := by decide +kernel
theorem d_B_judgement_65 : decode M_B_judgement.2.1 65 = .ok (.isub, 1) := by decide +kernel
theorem d_B_judgement_66 : decode M_B_judgement.2.1 66 = .ok (.ireturn, 1) := by decide +kernel
theorem d_B_judgement_67 : decode M_B_judgement.2.1 67 = .ok (.iinc 3 1, 3) := by decide +kernel
theorem d_B_judgement_70 : decode M_B_judgement.2.1 70 = .ok (.goto (-68), 3) := by decide +kernel
theorem d_B_judgement_73 : decode M_B_judgement.2.1 73 = .ok (.iconst 0, 1) := by decide +kernel
theorem d_B_judgement_74 : decode M_B_judgement.2.1 74 = .ok (.istore_n 3, 1) := by decide +kernel
theorem d_B_judgement_75 : decode M_B_judgement.2.1 75 = .ok (.iconst 0, 1) := by decide +kernel
theorem d_B_judgement_76 : decode M_B_judgement.2.1 76 = .ok (.istore 4, 2) := by decide +kernel
theorem d_B_judgement_78 : decode M_B_judgement.2.1 78 = .ok (.iload 4, 2) := by decide +kernel
theorem d_B_judgement_80 : decode M_B_judgement.2.1 80 = .ok (.aload_n 0, 1) := by decide +kernel
theorem d_B_judgement_81 : decode M_B_judgement.2.1 81 = .ok (.getfield 40, 3) := by decide +kernel
theorem d_B_judgement_84 : decode M_B_judgement.2.1 84 = .ok (.if_icmp .ge 22, 3) := by decide +kernel
theorem d_B_judgement_87 : decode M_B_judgement.2.1 87 = .ok (.iload_n 3, 1) := by decide +kernel
theorem d_B_judgement_88 : decode M_B_judgement.2.1 88 = .ok (.aload_n 0, 1) := by decide +kernel
theorem d_B_judgement_89 : decode M_B_judgement.2.1 89 = .ok (.iload 4, 2) := by decide +kernel
theorem d_B_judgement_91 : decode M_B_judgement.2.1 91 = .ok (.aload_n 2, 1) := by decide +kernel
theorem d_B_judgement_92 : decode M_B_judgement.2.1 92 = .ok (.invokevirtual 103, 3) := by decide +kernel
theorem d_B_judgement_95 : decode M_B_judgement.2.1 95 = .ok (.invokestatic 107, 3) := by decide +kernel
theorem d_B_judgement_98 : decode M_B_judgement.2.1 98 = .ok (.iadd, 1) := by decide +kernel
theorem d_B_judgement_99 : decode M_B_judgement.2.1 99 = .ok (.istore_n 3, 1) := by decide +kernel
theorem d_B_judgement_100 : decode M_B_judgement.2.1 100 = .ok (.iinc 4 1, 3) := by decide +kernel
theorem d_B_judgement_103 : decode M_B_judgement.2.1 103 = .ok (.goto (-25), 3) := by decide +kernel
theorem d_B_judgement_106 : decode M_B_judgement.2.1 106 = .ok (.iload_n 3, 1) := by decide +kernel
theorem d_B_judgement_107 : decode M_B_judgement.2.1 107 = .ok (.ireturn, 1) := by decide +kernel
theorem d_B_isWell_0 : decode M_B_isWell.2.1 0 = .ok (.aload_n 0, 1) := by decide +kernel
theorem d_B_isWell_1 : decode M_B_isWell.2.1 1 = .ok (.getfield 24, 3) := by decide +kernel
theorem d_B_isWell_4 : decode M_B_isWell.2.1 4 = .ok (.iload_n 1, 1) := by decide +kernel
theorem d_B_isWell_5 : decode M_B_isWell.2.1 5 = .ok (.iaload, 1) := by decide +kernel
theorem d_B_isWell_6 : decode M_B_isWell.2.1 6 = .ok (.istore_n 3, 1) := by decide +kernel
theorem d_B_isWell_7 : decode M_B_isWell.2.1 7 = .ok (.iconst 0, 1) := by decide +kernel
theorem d_B_isWell_8 : decode M_B_isWell.2.1 8 = .ok (.istore 4, 2) := by decide +kernel
theorem d_B_isWell_10 : decode M_B_isWell.2.1 10 = .ok (.iconst 0, 1) := by decide +kernel
theorem d_B_isWell_11 : decode M_B_isWell.2.1 11 = .ok (.istore 5, 2) := by decide +kernel
theorem d_B_isWell_13 : decode M_B_isWell.2.1 13 = .ok (.iconst 0, 1) := by decide +kernel
theorem d_B_isWell_14 : decode M_B_isWell.2.1 14 = .ok (.istore 6, 2) := by decide +kernel
theorem d_B_isWell_16 : decode M_B_isWell.2.1 16 = .ok (.iload 6, 2) := by decide +kernel
theorem d_B_isWell_18 : decode M_B_isWell.2.1 18 = .ok (.iload_n 1, 1) := by decide +kernel
theorem d_B_isWell_19 : decode M_B_isWell.2.1 19 = .ok (.if_icmp .gt 140, 3) := by decide +kernel
theorem d_B_isWell_22 : decode M_B_isWell.2.1 22 = .ok (.aload_n 0, 1) := by decide +kernel
theorem d_B_isWell_23 : decode M_B_isWell.2.1 23 = .ok (.getfield 24, 3) := by decide +kernel
theorem d_B_isWell_26 : decode M_B_isWell.2.1 26 = .ok (.iload 6, 2) := by decide +kernel
theorem d_B_isWell_28 : decode M_B_isWell.2.1 28 = .ok (.iaload, 1) := by decide +kernel
theorem d_B_isWell_29 : decode M_B_isWell.2.1 29 = .ok (.iload_n 3, 1) := by decide +kernel
theorem d_B_isWell_30 : decode M_B_isWell.2.1 30 = .ok (.if_icmp .ne 39, 3) := by decide +kernel
theorem d_B_isWell_33 : decode M_B_isWell.2.1 33 = .ok (.iload 4, 2) := by decide +kernel
theorem d_B_isWell_35 : decode M_B_isWell.2.1 35 = .ok (.aload_n 2, 1) := by decide +kernel
theorem d_B_isWell_36 : decode M_B_isWell.2.1 36 = .ok (.getfield 113, 3) := by decide +kernel
theorem d_B_isWell_39 : decode M_B_isWell.2.1 39 = .ok (.aload_n 0, 1) := by decide +kernel
theorem d_B_isWell_40 : decode M_B_isWell.2.1 40 = .ok (.getfield 15, 3) := by decide +kernel
theorem d_B_isWell_43 : decode M_B_isWell.2.1 43 = .ok (.iload 6, 2) := by decide +kernel
theorem d_B_isWell_45 : decode M_B_isWell.2.1 45 = .ok (.iaload, 1) := by decide +kernel
theorem d_B_isWell_46 : decode M_B_isWell.2.1 46 = .ok (.iaload, 1) := by decide +kernel
theorem d_B_isWell_47 : decode M_B_isWell.2.1 47 = .ok (.iadd, 1) := by decide +kernel
theorem d_B_isWell_48 : decode M_B_isWell.2.1 48 = .ok (.istore 4, 2) := by decide +kernel
theorem d_B_isWell_50 : decode M_B_isWell.2.1 50 = .ok (.iload 5, 2) := by decide +kernel
theorem d_B_isWell_52 : decode M_B_isWell.2.1 52 = .ok (.iconst 1, 1) := by decide +kernel
theorem d_B_isWell_53 : decode M_B_isWell.2.1 53 = .ok (.aload_n 2, 1) := by decide +kernel
theorem d_B_isWell_54 : decode M_B_isWell.2.1 54 = .ok (.getfield 115, 3) := by decide +kernel
theorem d_B_isWell_57 : decode M_B_isWell.2.1 57 = .ok (.aload_n 0, 1) := by decide +kernel
theorem d_B_isWell_58 : decode M_B_isWell.2.1 58 = .ok (.getfield 15, 3) := by decide +kernel
theorem d_B_isWell_61 : decode M_B_isWell.2.1 61 = .ok (.iload 6, 2) := by decide +kernel
theorem d_B_isWell_63 : decode M_B_isWell.2.1 63 = .ok (.iaload, 1) := by decide +kernel
theorem d_B_isWell_64 : decode M_B_isWell.2.1 64 = .ok (.iaload, 1) := by decide +kernel
theorem d_B_isWell_65 : decode M_B_isWell.2.1 65 = .ok (.ishl, 1) := by decide +kernel
theorem d_B_isWell_66 : decode M_B_isWell.2.1 66 = .ok (.ior, 1) := by decide +kernel
theorem d_B_isWell_67 : decode M_B_isWell.2.1 67 = .ok (.istore 5, 2) := by decide +kernel
theorem d_B_isWell_69 : decode M_B_isWell.2.1 69 = .ok (.aload_n 2, 1) := by decide +kernel
theorem d_B_isWell_70 : decode M_B_isWell.2.1 70 = .ok (.getfield 115, 3) := by decide +kernel
theorem d_B_isWell_73 : decode M_B_isWell.2.1 73 = .ok (.aload_n 0, 1) := by decide +kernel
theorem d_B_isWell_74 : decode M_B_isWell.2.1 74 = .ok (.getfield 15, 3) := by decide +kernel
theorem d_B_isWell_77 : decode M_B_isWell.2.1 77 = .ok (.iload 6, 2) := by decide +kernel
theorem d_B_isWell_79 : decode M_B_isWell.2.1 79 = .ok (.iaload, 1) := by decide +kernel
theorem d_B_isWell_80 : decode M_B_isWell.2.1 80 = .ok (.iaload, 1) := by decide +kernel
theorem d_B_isWell_81 : decode M_B_isWell.2.1 81 = .ok (.aload_n 2, 1) := by decide +kernel
theorem d_B_isWell_82 : decode M_B_isWell.2.1 82 = .ok (.getfield 115, 3) := by decide +kernel
theorem d_B_isWell_85 : decode M_B_isWell.2.1 85 = .ok (.aload_n 0, 1) := by decide +kernel
theorem d_B_isWell_86 : decode M_B_isWell.2.1 86 = .ok (.getfield 15, 3) := by decide +kernel
theorem d_B_isWell_89 : decode M_B_isWell.2.1 89 = .ok (.iload_n 1, 1) := by decide +kernel
theorem d_B_isWell_90 : decode M_B_isWell.2.1 90 = .ok (.iaload, 1) := by decide +kernel
theorem d_B_isWell_91 : decode M_B_isWell.2.1 91 = .ok (.iaload, 1) := by decide +kernel
theorem d_B_isWell_92 : decode M_B_isWell.2.1 92 = .ok (.if_icmp .ne 7, 3) := by decide +kernel
theorem d_B_isWell_95 : decode M_B_isWell.2.1 95 = .ok (.iconst 1, 1) := by decide +kernel
theorem d_B_isWell_96 : decode M_B_isWell.2.1 96 = .ok (.goto 4, 3) := by decide +kernel
theorem d_B_isWell_99 : decode M_B_isWell.2.1 99 = .ok (.iconst 0, 1) := by decide +kernel
theorem d_B_isWell_100 : decode M_B_isWell.2.1 100 = .ok (.istore 7, 2) := by decide +kernel
theorem d_B_isWell_102 : decode M_B_isWell.2.1 102 = .ok (.iload 7, 2) := by decide +kernel
theorem d_B_isWell_104 : decode M_B_isWell.2.1 104 = .ok (.ifCond .eq 21, 3) := by decide +kernel
theorem d_B_isWell_107 : decode M_B_isWell.2.1 107 = .ok (.aload_n 0, 1) := by decide +kernel
theorem d_B_isWell_108 : decode M_B_isWell.2.1 108 = .ok (.getfield 24, 3) := by decide +kernel
theorem d_B_isWell_111 : decode M_B_isWell.2.1 111 = .ok (.iload 6, 2) := by decide +kernel
theorem d_B_isWell_113 : decode M_B_isWell.2.1 113 = .ok (.iaload, 1) := by decide +kernel
theorem d_B_isWell_114 : decode M_B_isWell.2.1 114 = .ok (.iload_n 3, 1) := by decide +kernel
theorem d_B_isWell_115 : decode M_B_isWell.2.1 115 = .ok (.isub, 1) := by decide +kernel
theorem d_B_isWell_116 : decode M_B_isWell.2.1 116 = .ok (.invokestatic 118, 3) := by decide +kernel
theorem d_B_isWell_119 : decode M_B_isWell.2.1 119 = .ok (.iconst 1, 1) := by decide +kernel
theorem d_B_isWell_120 : decode M_B_isWell.2.1 120 = .ok (.if_icmp .le 5, 3) := by decide +kernel
theorem d_B_isWell_123 : decode M_B_isWell.2.1 123 = .ok (.iconst 0, 1) := by decide +kernel
theorem d_B_isWell_124 : decode M_B_isWell.2.1 124 = .ok (.ireturn, 1) := by decide +kernel
theorem d_B_isWell_125 : decode M_B_isWell.2.1 125 = .ok (.aload_n 0, 1) := by decide +kernel
theorem d_B_isWell_126 : decode M_B_isWell.2.1 126 = .ok (.getfield 18, 3) := by decide +kernel
theorem d_B_isWell_129 : decode M_B_isWell.2.1 129 = .ok (.iload_n 1, 1) := by decide +kernel
theorem d_B_isWell_130 : decode M_B_isWell.2.1 130 = .ok (.iaload, 1) := by decide +kernel
theorem d_B_isWell_131 : decode M_B_isWell.2.1 131 = .ok (.iload 6, 2) := by decide +kernel
theorem d_B_isWell_133 : decode M_B_isWell.2.1 133 = .ok (.ishr, 1) := by decide +kernel
theorem d_B_isWell_134 : decode M_B_isWell.2.1 134 = .ok (.iconst 1, 1) := by decide +kernel
theorem d_B_isWell_135 : decode M_B_isWell.2.1 135 = .ok (.iand, 1) := by decide +kernel
theorem d_B_isWell_136 : decode M_B_isWell.2.1 136 = .ok (.iconst 1, 1) := by decide +kernel
theorem d_B_isWell_137 : decode M_B_isWell.2.1 137 = .ok (.if_icmp .ne 16, 3) := by decide +kernel
theorem d_B_isWell_140 : decode M_B_isWell.2.1 140 = .ok (.aload_n 0, 1) := by decide +kernel
theorem d_B_isWell_141 : decode M_B_isWell.2.1 141 = .ok (.getfield 24, 3) := by decide +kernel
theorem d_B_isWell_144 : decode M_B_isWell.2.1 144 = .ok (.iload 6, 2) := by decide +kernel
theorem d_B_isWell_146 : decode M_B_isWell.2.1 146 = .ok (.iaload, 1) := by decide +kernel
theorem d_B_isWell_147 : decode M_B_isWell.2.1 147 = .ok (.iload_n 3, 1) := by decide +kernel
theorem d_B_isWell_148 : decode M_B_isWell.2.1 148 = .ok (.if_icmp .le 5, 3) := by decide +kernel
theorem d_B_isWell_151 : decode M_B_isWell.2.1 151 = .ok (.iconst 0, 1) := by decide +kernel
theorem d_B_isWell_152 : decode M_B_isWell.2.1 152 = .ok (.ireturn, 1) := by decide +kernel
theorem d_B_isWell_153 : decode M_B_isWell.2.1 153 = .ok (.iinc 6 1, 3) := by decide +kernel
theorem d_B_isWell_156 : decode M_B_isWell.2.1 156 = .ok (.goto (-140), 3) := by decide +kernel
theorem d_B_isWell_159 : decode M_B_isWell.2.1 159 = .ok (.aload_n 2, 1) := by decide +kernel
theorem d_B_isWell_160 : decode M_B_isWell.2.1 160 = .ok (.getfield 86, 3) := by decide +kernel
theorem d_B_isWell_163 : decode M_B_isWell.2.1 163 = .ok (.aload_n 0, 1) := by decide +kernel
theorem d_B_isWell_164 : decode M_B_isWell.2.1 164 = .ok (.getfield 15, 3) := by decide +kernel
theorem d_B_isWell_167 : decode M_B_isWell.2.1 167 = .ok (.iload_n 1, 1) := by decide +kernel
theorem d_B_isWell_168 : decode M_B_isWell.2.1 168 = .ok (.iaload, 1) := by decide +kernel
theorem d_B_isWell_169 : decode M_B_isWell.2.1 169 = .ok (.iaload, 1) := by decide +kernel
theorem d_B_isWell_170 : decode M_B_isWell.2.1 170 = .ok (.aload_n 0, 1) := by decide +kernel
theorem d_B_isWell_171 : decode M_B_isWell.2.1 171 = .ok (.getfield 9, 3) := by decide +kernel
theorem d_B_isWell_174 : decode M_B_isWell.2.1 174 = .ok (.iload_n 3, 1) := by decide +kernel
theorem d_B_isWell_175 : decode M_B_isWell.2.1 175 = .ok (.iaload, 1) := by decide +kernel
theorem d_B_isWell_176 : decode M_B_isWell.2.1 176 = .ok (.iand, 1) := by decide +kernel
theorem d_B_isWell_177 : decode M_B_isWell.2.1 177 = .ok (.ifCond .ne 7, 3) := by decide +kernel
theorem d_B_isWell_180 : decode M_B_isWell.2.1 180 = .ok (.iconst 1, 1) := by decide +kernel
theorem d_B_isWell_181 : decode M_B_isWell.2.1 181 = .ok (.goto 4, 3) := by decide +kernel
theorem d_B_isWell_184 : decode M_B_isWell.2.1 184 = .ok (.iconst 0, 1) := by decide +kernel
theorem d_B_isWell_185 : decode M_B_isWell.2.1 185 = .ok (.istore 6, 2) := by decide +kernel
theorem d_B_isWell_187 : decode M_B_isWell.2.1 187 = .ok (.iload 6, 2) := by decide +kernel
theorem d_B_isWell_189 : decode M_B_isWell.2.1 189 = .ok (.ifCond .eq 28, 3) := by decide +kernel
theorem d_B_isWell_192 : decode M_B_isWell.2.1 192 = .ok (.iload 4, 2) := by decide +kernel
theorem d_B_isWell_194 : decode M_B_isWell.2.1 194 = .ok (.aload_n 0, 1) := by decide +kernel
theorem d_B_isWell_195 : decode M_B_isWell.2.1 195 = .ok (.getfield 43, 3) := by decide +kernel
theorem d_B_isWell_198 : decode M_B_isWell.2.1 198 = .ok (.if_icmp .gt 19, 3) := by decide +kernel
theorem d_B_isWell_201 : decode M_B_isWell.2.1 201 = .ok (.iload 5, 2) := by decide +kernel
theorem d_B_isWell_203 : decode M_B_isWell.2.1 203 = .ok (.invokestatic 107, 3) := by decide +kernel
theorem d_B_isWell_206 : decode M_B_isWell.2.1 206 = .ok (.aload_n 0, 1) := by decide +kernel
theorem d_B_isWell_207 : decode M_B_isWell.2.1 207 = .ok (.getfield 46, 3) := by decide +kernel
theorem d_B_isWell_210 : decode M_B_isWell.2.1 210 = .ok (.if_icmp .gt 7, 3) := by decide +kernel
theorem d_B_isWell_213 : decode M_B_isWell.2.1 213 = .ok (.iconst 1, 1) := by decide +kernel
theorem d_B_isWell_214 : decode M_B_isWell.2.1 214 = .ok (.goto 4, 3) := by decide +kernel
theorem d_B_isWell_217 : decode M_B_isWell.2.1 217 = .ok (.iconst 0, 1) := by decide +kernel
theorem d_B_isWell_218 : decode M_B_isWell.2.1 218 = .ok (.ireturn, 1) := by decide +kernel
theorem d_B_castOn_0 : decode M_B_castOn.2.1 0 = .ok (.iconst 0, 1) := by decide +kernel
theorem d_B_castOn_1 : decode M_B_castOn.2.1 1 = .ok (.istore_n 3, 1) := by decide +kernel
theorem d_B_castOn_2 : decode M_B_castOn.2.1 2 = .ok (.iconst 0, 1) := by decide +kernel
theorem d_B_castOn_3 : decode M_B_castOn.2.1 3 = .ok (.istore 4, 2) := by decide +kernel
theorem d_B_castOn_5 : decode M_B_castOn.2.1 5 = .ok (.iload 4, 2) := by decide +kernel
theorem d_B_castOn_7 : decode M_B_castOn.2.1 7 = .ok (.aload_n 0, 1) := by decide +kernel
theorem d_B_castOn_8 : decode M_B_castOn.2.1 8 = .ok (.getfield 49, 3) := by decide +kernel
theorem d_B_castOn_11 : decode M_B_castOn.2.1 11 = .ok (.if_icmp .ge 35, 3) := by decide +kernel
theorem d_B_castOn_14 : decode M_B_castOn.2.1 14 = .ok (.aload_n 0, 1) := by decide +kernel
theorem d_B_castOn_15 : decode M_B_castOn.2.1 15 = .ok (.getfield 24, 3) := by decide +kernel
theorem d_B_castOn_18 : decode M_B_castOn.2.1 18 = .ok (.iload 4, 2) := by decide +kernel
theorem d_B_castOn_20 : decode M_B_castOn.2.1 20 = .ok (.iaload, 1) := by decide +kernel
theorem d_B_castOn_21 : decode M_B_castOn.2.1 21 = .ok (.iload_n 1, 1) := by decide +kernel
theorem d_B_castOn_22 : decode M_B_castOn.2.1 22 = .ok (.if_icmp .ne 18, 3) := by decide +kernel
theorem d_B_castOn_25 : decode M_B_castOn.2.1 25 = .ok (.iload_n 3, 1) := by decide +kernel
theorem d_B_castOn_26 : decode M_B_castOn.2.1 26 = .ok (.aload_n 2, 1) := by decide +kernel
theorem d_B_castOn_27 : decode M_B_castOn.2.1 27 = .ok (.getfield 86, 3) := by decide +kernel
theorem d_B_castOn_30 : decode M_B_castOn.2.1 30 = .ok (.aload_n 0, 1) := by decide +kernel
theorem d_B_castOn_31 : decode M_B_castOn.2.1 31 = .ok (.getfield 15, 3) := by decide +kernel
theorem d_B_castOn_34 : decode M_B_castOn.2.1 34 = .ok (.iload 4, 2) := by decide +kernel
theorem d_B_castOn_36 : decode M_B_castOn.2.1 36 = .ok (.iaload, 1) := by decide +kernel
theorem d_B_castOn_37 : decode M_B_castOn.2.1 37 = .ok (.iaload, 1) := by decide +kernel
theorem d_B_castOn_38 : decode M_B_castOn.2.1 38 = .ok (.ior, 1) := by decide +kernel
theorem d_B_castOn_39 : decode M_B_castOn.2.1 39 = .ok (.istore_n 3, 1) := by decide +kernel
theorem d_B_castOn_40 : decode M_B_castOn.2.1 40 = .ok (.iinc 4 1, 3) := by decide +kernel
theorem d_B_castOn_43 : decode M_B_castOn.2.1 43 = .ok (.goto (-38), 3) := by decide +kernel
theorem d_B_castOn_46 : decode M_B_castOn.2.1 46 = .ok (.iload_n 3, 1) := by decide +kernel
theorem d_B_castOn_47 : decode M_B_castOn.2.1 47 = .ok (.ireturn, 1) := by decide +kernel
theorem d_C_init_0 : decode M_C_init.2.1 0 = .ok (.aload_n 0, 1) := by decide +kernel
theorem d_C_init_1 : decode M_C_init.2.1 1 = .ok (.invokespecial 3, 3) := by decide +kernel
theorem d_C_init_4 : decode M_C_init.2.1 4 = .ok (.aload_n 0, 1) := by decide +kernel
theorem d_C_init_5 : decode M_C_init.2.1 5 = .ok (.bipush 100, 2) := by decide +kernel
theorem d_C_init_7 : decode M_C_init.2.1 7 = .ok (.newarray .int, 2) := by decide +kernel
theorem d_C_init_9 : decode M_C_init.2.1 9 = .ok (.putfield 9, 3) := by decide +kernel
theorem d_C_init_12 : decode M_C_init.2.1 12 = .ok (.aload_n 0, 1) := by decide +kernel
theorem d_C_init_13 : decode M_C_init.2.1 13 = .ok (.bipush 100, 2) := by decide +kernel
theorem d_C_init_15 : decode M_C_init.2.1 15 = .ok (.newarray .boolean, 2) := by decide +kernel
theorem d_C_init_17 : decode M_C_init.2.1 17 = .ok (.putfield 15, 3) := by decide +kernel
theorem d_C_init_20 : decode M_C_init.2.1 20 = .ok (.aload_n 0, 1) := by decide +kernel
theorem d_C_init_21 : decode M_C_init.2.1 21 = .ok (.bipush 101, 2) := by decide +kernel
theorem d_C_init_23 : decode M_C_init.2.1 23 = .ok (.newarray .int, 2) := by decide +kernel
theorem d_C_init_25 : decode M_C_init.2.1 25 = .ok (.putfield 19, 3) := by decide +kernel
theorem d_C_init_28 : decode M_C_init.2.1 28 = .ok (.aload_n 0, 1) := by decide +kernel
theorem d_C_init_29 : decode M_C_init.2.1 29 = .ok (.sipush 505, 3) := by decide +kernel
theorem d_C_init_32 : decode M_C_init.2.1 32 = .ok (.newarray .int, 2) := by decide +kernel
theorem d_C_init_34 : decode M_C_init.2.1 34 = .ok (.putfield 22, 3) := by decide +kernel
theorem d_C_init_37 : decode M_C_init.2.1 37 = .ok (.return_, 1) := by decide +kernel
theorem d_C_leastGreatest_0 : decode M_C_leastGreatest.2.1 0 = .ok (.aload_n 0, 1) := by decide +kernel
theorem d_C_leastGreatest_1 : decode M_C_leastGreatest.2.1 1 = .ok (.aload_n 1, 1) := by decide +kernel
theorem d_C_leastGreatest_2 : decode M_C_leastGreatest.2.1 2 = .ok (.iload_n 2, 1) := by decide +kernel
theorem d_C_leastGreatest_3 : decode M_C_leastGreatest.2.1 3 = .ok (.invokevirtual 25, 3) := by decide +kernel
theorem d_C_leastGreatest_6 : decode M_C_leastGreatest.2.1 6 = .ok (.iconst 0, 1) := by decide +kernel
theorem d_C_leastGreatest_7 : decode M_C_leastGreatest.2.1 7 = .ok (.istore_n 3, 1) := by decide +kernel
theorem d_C_leastGreatest_8 : decode M_C_leastGreatest.2.1 8 = .ok (.iload_n 3, 1) := by decide +kernel
theorem d_C_leastGreatest_9 : decode M_C_leastGreatest.2.1 9 = .ok (.aload_n 0, 1) := by decide +kernel
theorem d_C_leastGreatest_10 : decode M_C_leastGreatest.2.1 10 = .ok (.getfield 29, 3) := by decide +kernel
theorem d_C_leastGreatest_13 : decode M_C_leastGreatest.2.1 13 = .ok (.if_icmp .gt 48, 3) := by decide +kernel
theorem d_C_leastGreatest_16 : decode M_C_leastGreatest.2.1 16 = .ok (.aload_n 0, 1) := by decide +kernel
theorem d_C_leastGreatest_17 : decode M_C_leastGreatest.2.1 17 = .ok (.getfield 22, 3) := by decide +kernel
theorem d_C_leastGreatest_20 : decode M_C_leastGreatest.2.1 20 = .ok (.sipush 404, 3) := by decide +kernel
theorem d_C_leastGreatest_23 : decode M_C_leastGreatest.2.1 23 = .ok (.iload_n 3, 1) := by decide +kernel
theorem d_C_leastGreatest_24 : decode M_C_leastGreatest.2.1 24 = .ok (.iadd, 1) := by decide +kernel
theorem d_C_leastGreatest_25 : decode M_C_leastGreatest.2.1 25 = .ok (.iload_n 3, 1) := by decide +kernel
theorem d_C_leastGreatest_26 : decode M_C_leastGreatest.2.1 26 = .ok (.aload_n 0, 1) := by decide +kernel
theorem d_C_leastGreatest_27 : decode M_C_leastGreatest.2.1 27 = .ok (.getfield 29, 3) := by decide +kernel
theorem d_C_leastGreatest_30 : decode M_C_leastGreatest.2.1 30 = .ok (.if_icmp .ge 22, 3) := by decide +kernel
theorem d_C_leastGreatest_33 : decode M_C_leastGreatest.2.1 33 = .ok (.aload_n 0, 1) := by decide +kernel
theorem d_C_leastGreatest_34 : decode M_C_leastGreatest.2.1 34 = .ok (.getfield 19, 3) := by decide +kernel
theorem d_C_leastGreatest_37 : decode M_C_leastGreatest.2.1 37 = .ok (.aload_n 0, 1) := by decide +kernel
theorem d_C_leastGreatest_38 : decode M_C_leastGreatest.2.1 38 = .ok (.getfield 29, 3) := by decide +kernel
theorem d_C_leastGreatest_41 : decode M_C_leastGreatest.2.1 41 = .ok (.iaload, 1) := by decide +kernel
theorem d_C_leastGreatest_42 : decode M_C_leastGreatest.2.1 42 = .ok (.aload_n 0, 1) := by decide +kernel
theorem d_C_leastGreatest_43 : decode M_C_leastGreatest.2.1 43 = .ok (.getfield 19, 3) := by decide +kernel
theorem d_C_leastGreatest_46 : decode M_C_leastGreatest.2.1 46 = .ok (.iload_n 3, 1) := by decide +kernel
theorem d_C_leastGreatest_47 : decode M_C_leastGreatest.2.1 47 = .ok (.iaload, 1) := by decide +kernel
theorem d_C_leastGreatest_48 : decode M_C_leastGreatest.2.1 48 = .ok (.isub, 1) := by decide +kernel
theorem d_C_leastGreatest_49 : decode M_C_leastGreatest.2.1 49 = .ok (.goto 5, 3) := by decide +kernel
theorem d_C_leastGreatest_52 : decode M_C_leastGreatest.2.1 52 = .ok (.ldc 33, 2) := by decide +kernel
theorem d_C_leastGreatest_54 : decode M_C_leastGreatest.2.1 54 = .ok (.iastore, 1) := by decide +kernel
theorem d_C_leastGreatest_55 : decode M_C_leastGreatest.2.1 55 = .ok (.iinc 3 1, 3) := by decide +kernel
theorem d_C_leastGreatest_58 : decode M_C_leastGreatest.2.1 58 = .ok (.goto (-50), 3) := by decide +kernel
theorem d_C_leastGreatest_61 : decode M_C_leastGreatest.2.1 61 = .ok (.iconst 3, 1) := by decide +kernel
theorem d_C_leastGreatest_62 : decode M_C_leastGreatest.2.1 62 = .ok (.istore_n 3, 1) := by decide +kernel
theorem d_C_leastGreatest_63 : decode M_C_leastGreatest.2.1 63 = .ok (.iload_n 3, 1) := by decide +kernel
theorem d_C_leastGreatest_64 : decode M_C_leastGreatest.2.1 64 = .ok (.ifCond .lt 46, 3) := by decide +kernel
theorem d_C_leastGreatest_67 : decode M_C_leastGreatest.2.1 67 = .ok (.iconst 0, 1) := by decide +kernel
theorem d_C_leastGreatest_68 : decode M_C_leastGreatest.2.1 68 = .ok (.istore 4, 2) := by decide +kernel
theorem d_C_leastGreatest_70 : decode M_C_leastGreatest.2.1 70 = .ok (.iload 4, 2) := by decide +kernel
theorem d_C_leastGreatest_72 : decode M_C_leastGreatest.2.1 72 = .ok (.aload_n 0, 1) := by decide +kernel
theorem d_C_leastGreatest_73 : decode M_C_leastGreatest.2.1 73 = .ok (.getfield 29, 3) := by decide +kernel
theorem d_C_leastGreatest_76 : decode M_C_leastGreatest.2.1 76 = .ok (.if_icmp .gt 28, 3) := by decide +kernel
theorem d_C_leastGreatest_79 : decode M_C_leastGreatest.2.1 79 = .ok (.aload_n 0, 1) := by decide +kernel
theorem d_C_leastGreatest_80 : decode M_C_leastGreatest.2.1 80 = .ok (.getfield 22, 3) := by decide +kernel
theorem d_C_leastGreatest_83 : decode M_C_leastGreatest.2.1 83 = .ok (.iload_n 3, 1) := by decide +kernel
theorem d_C_leastGreatest_84 : decode M_C_leastGreatest.2.1 84 = .ok (.bipush 101, 2) := by decide +kernel
theorem d_C_leastGreatest_86 : decode M_C_leastGreatest.2.1 86 = .ok (.imul, 1) := by decide +kernel
theorem d_C_leastGreatest_87 : decode M_C_leastGreatest.2.1 87 = .ok (.iload 4, 2) := by decide +kernel
theorem d_C_leastGreatest_89 : decode M_C_leastGreatest.2.1 89 = .ok (.iadd, 1) := by decide +kernel
theorem d_C_leastGreatest_90 : decode M_C_leastGreatest.2.1 90 = .ok (.aload_n 0, 1) := by decide +kernel
theorem d_C_leastGreatest_91 : decode M_C_leastGreatest.2.1 91 = .ok (.iload_n 3, 1) := by decide +kernel
theorem d_C_leastGreatest_92 : decode M_C_leastGreatest.2.1 92 = .ok (.iload 4, 2) := by decide +kernel
theorem d_C_leastGreatest_94 : decode M_C_leastGreatest.2.1 94 = .ok (.invokevirtual 34, 3) := by decide +kernel
theorem d_C_leastGreatest_97 : decode M_C_leastGreatest.2.1 97 = .ok (.iastore, 1) := by decide +kernel
theorem d_C_leastGreatest_98 : decode M_C_leastGreatest.2.1 98 = .ok (.iinc 4 1, 3) := by decide +kernel
theorem d_C_leastGreatest_101 : decode M_C_leastGreatest.2.1 101 = .ok (.goto (-31), 3) := by decide +kernel
theorem d_C_leastGreatest_104 : decode M_C_leastGreatest.2.1 104 = .ok (.iinc 3 (-1), 3) := by decide +kernel
theorem d_C_leastGreatest_107 : decode M_C_leastGreatest.2.1 107 = .ok (.goto (-44), 3) := by decide +kernel
theorem d_C_leastGreatest_110 : decode M_C_leastGreatest.2.1 110 = .ok (.aload_n 0, 1) := by decide +kernel
theorem d_C_leastGreatest_111 : decode M_C_leastGreatest.2.1 111 = .ok (.getfield 22, 3) := by decide +kernel
theorem d_C_leastGreatest_114 : decode M_C_leastGreatest.2.1 114 = .ok (.iconst 0, 1) := by decide +kernel
theorem d_C_leastGreatest_115 : decode M_C_leastGreatest.2.1 115 = .ok (.iaload, 1) := by decide +kernel
theorem d_C_leastGreatest_116 : decode M_C_leastGreatest.2.1 116 = .ok (.ldc 33, 2) := by decide +kernel
theorem d_C_leastGreatest_118 : decode M_C_leastGreatest.2.1 118 = .ok (.if_icmp .ne 8, 3) := by decide +kernel
theorem d_C_leastGreatest_121 : decode M_C_leastGreatest.2.1 121 = .ok (.bipush (-3), 2) := by decide +kernel
theorem d_C_leastGreatest_123 : decode M_C_leastGreatest.2.1 123 = .ok (.goto 9, 3) := by decide +kernel
theorem d_C_leastGreatest_126 : decode M_C_leastGreatest.2.1 126 = .ok (.aload_n 0, 1) := by decide +kernel
theorem d_C_leastGreatest_127 : decode M_C_leastGreatest.2.1 127 = .ok (.getfield 22, 3) := by decide +kernel
theorem d_C_leastGreatest_130 : decode M_C_leastGreatest.2.1 130 = .ok (.iconst 0, 1) := by decide +kernel
theorem d_C_leastGreatest_131 : decode M_C_leastGreatest.2.1 131 = .ok (.iaload, 1) := by decide +kernel
theorem d_C_leastGreatest_132 : decode M_C_leastGreatest.2.1 132 = .ok (.ireturn, 1) := by decide +kernel
theorem d_C_gather_0 : decode M_C_gather.2.1 0 = .ok (.aload_n 0, 1) := by decide +kernel
theorem d_C_gather_1 : decode M_C_gather.2.1 1 = .ok (.iconst 0, 1) := by decide +kernel
theorem d_C_gather_2 : decode M_C_gather.2.1 2 = .ok (.putfield 29, 3) := by decide +kernel
theorem d_C_gather_5 : decode M_C_gather.2.1 5 = .ok (.iconst 0, 1) := by decide +kernel
theorem d_C_gather_6 : decode M_C_gather.2.1 6 = .ok (.istore_n 3, 1) := by decide +kernel
theorem d_C_gather_7 : decode M_C_gather.2.1 7 = .ok (.iload_n 3, 1) := by decide +kernel
theorem d_C_gather_8 : decode M_C_gather.2.1 8 = .ok (.aload_n 1, 1) := by decide +kernel
theorem d_C_gather_9 : decode M_C_gather.2.1 9 = .ok (.getfield 38, 3) := by decide +kernel
theorem d_C_gather_12 : decode M_C_gather.2.1 12 = .ok (.if_icmp .ge 99, 3) := by decide +kernel
theorem d_C_gather_15 : decode M_C_gather.2.1 15 = .ok (.aload_n 1, 1) := by decide +kernel
theorem d_C_gather_16 : decode M_C_gather.2.1 16 = .ok (.getfield 43, 3) := by decide +kernel
theorem d_C_gather_19 : decode M_C_gather.2.1 19 = .ok (.iload_n 3, 1) := by decide +kernel
theorem d_C_gather_20 : decode M_C_gather.2.1 20 = .ok (.iaload, 1) := by decide +kernel
theorem d_C_gather_21 : decode M_C_gather.2.1 21 = .ok (.ifCond .ne 84, 3) := by decide +kernel
theorem d_C_gather_24 : decode M_C_gather.2.1 24 = .ok (.aload_n 1, 1) := by decide +kernel
theorem d_C_gather_25 : decode M_C_gather.2.1 25 = .ok (.getfield 46, 3) := by decide +kernel
theorem d_C_gather_28 : decode M_C_gather.2.1 28 = .ok (.iload_n 3, 1) := by decide +kernel
theorem d_C_gather_29 : decode M_C_gather.2.1 29 = .ok (.iaload, 1) := by decide +kernel
theorem d_C_gather_30 : decode M_C_gather.2.1 30 = .ok (.iload_n 2, 1) := by decide +kernel
theorem d_C_gather_31 : decode M_C_gather.2.1 31 = .ok (.if_icmp .ne 74, 3) := by decide +kernel
theorem d_C_gather_34 : decode M_C_gather.2.1 34 = .ok (.aload_n 0, 1) := by decide +kernel
theorem d_C_gather_35 : decode M_C_gather.2.1 35 = .ok (.getfield 9, 3) := by decide +kernel
theorem d_C_gather_38 : decode M_C_gather.2.1 38 = .ok (.aload_n 0, 1) := by decide +kernel
theorem d_C_gather_39 : decode M_C_gather.2.1 39 = .ok (.getfield 29, 3) := by decide +kernel
theorem d_C_gather_42 : decode M_C_gather.2.1 42 = .ok (.iload_n 3, 1) := by decide +kernel
theorem d_C_gather_43 : decode M_C_gather.2.1 43 = .ok (.iastore, 1) := by decide +kernel
theorem d_C_gather_44 : decode M_C_gather.2.1 44 = .ok (.aload_n 0, 1) := by decide +kernel
theorem d_C_gather_45 : decode M_C_gather.2.1 45 = .ok (.getfield 15, 3) := by decide +kernel
theorem d_C_gather_48 : decode M_C_gather.2.1 48 = .ok (.aload_n 0, 1) := by decide +kernel
theorem d_C_gather_49 : decode M_C_gather.2.1 49 = .ok (.getfield 29, 3) := by decide +kernel
theorem d_C_gather_52 : decode M_C_gather.2.1 52 = .ok (.aload_n 1, 1) := by decide +kernel
theorem d_C_gather_53 : decode M_C_gather.2.1 53 = .ok (.getfield 49, 3) := by decide +kernel
theorem d_C_gather_56 : decode M_C_gather.2.1 56 = .ok (.iload_n 3, 1) := by decide +kernel
theorem d_C_gather_57 : decode M_C_gather.2.1 57 = .ok (.iaload, 1) := by decide +kernel
theorem d_C_gather_58 : decode M_C_gather.2.1 58 = .ok (.iconst 1, 1) := by decide +kernel
theorem d_C_gather_59 : decode M_C_gather.2.1 59 = .ok (.if_icmp .ne 7, 3) := by decide +kernel
theorem d_C_gather_62 : decode M_C_gather.2.1 62 = .ok (.iconst 1, 1) := by decide +kernel
theorem d_C_gather_63 : decode M_C_gather.2.1 63 = .ok (.goto 4, 3) := by decide +kernel
theorem d_C_gather_66 : decode M_C_gather.2.1 66 = .ok (.iconst 0, 1) := by decide +kernel
theorem d_C_gather_67 : decode M_C_gather.2.1 67 = .ok (.bastore, 1) := by decide +kernel
theorem d_C_gather_68 : decode M_C_gather.2.1 68 = .ok (.aload_n 0, 1) := by decide +kernel
theorem d_C_gather_69 : decode M_C_gather.2.1 69 = .ok (.getfield 19, 3) := by decide +kernel
theorem d_C_gather_72 : decode M_C_gather.2.1 72 = .ok (.aload_n 0, 1) := by decide +kernel
theorem d_C_gather_73 : decode M_C_gather.2.1 73 = .ok (.getfield 29, 3) := by decide +kernel
theorem d_C_gather_76 : decode M_C_gather.2.1 76 = .ok (.iconst 1, 1) := by decide +kernel
theorem d_C_gather_77 : decode M_C_gather.2.1 77 = .ok (.iadd, 1) := by decide +kernel
theorem d_C_gather_78 : decode M_C_gather.2.1 78 = .ok (.aload_n 0, 1) := by decide +kernel
theorem d_C_gather_79 : decode M_C_gather.2.1 79 = .ok (.getfield 19, 3) := by decide +kernel
theorem d_C_gather_82 : decode M_C_gather.2.1 82 = .ok (.aload_n 0, 1) := by decide +kernel
theorem d_C_gather_83 : decode M_C_gather.2.1 83 = .ok (.getfield 29, 3) := by decide +kernel
theorem d_C_gather_86 : decode M_C_gather.2.1 86 = .ok (.iaload, 1) := by decide +kernel
theorem d_C_gather_87 : decode M_C_gather.2.1 87 = .ok (.aload_n 1, 1) := by decide +kernel
theorem d_C_gather_88 : decode M_C_gather.2.1 88 = .ok (.getfield 52, 3) := by decide +kernel
theorem d_C_gather_91 : decode M_C_gather.2.1 91 = .ok (.iload_n 3, 1) := by decide +kernel
theorem d_C_gather_92 : decode M_C_gather.2.1 92 = .ok (.iaload, 1) := by decide +kernel
theorem d_C_gather_93 : decode M_C_gather.2.1 93 = .ok (.iadd, 1) := by decide +kernel
theorem d_C_gather_94 : decode M_C_gather.2.1 94 = .ok (.iastore, 1) := by decide +kernel
theorem d_C_gather_95 : decode M_C_gather.2.1 95 = .ok (.aload_n 0, 1) := by decide +kernel
theorem d_C_gather_96 : decode M_C_gather.2.1 96 = .ok (.dup, 1) := by decide +kernel
theorem d_C_gather_97 : decode M_C_gather.2.1 97 = .ok (.getfield 29, 3) := by decide +kernel
theorem d_C_gather_100 : decode M_C_gather.2.1 100 = .ok (.iconst 1, 1) := by decide +kernel
theorem d_C_gather_101 : decode M_C_gather.2.1 101 = .ok (.iadd, 1) := by decide +kernel
theorem d_C_gather_102 : decode M_C_gather.2.1 102 = .ok (.putfield 29, 3) := by decide +kernel
theorem d_C_gather_105 : decode M_C_gather.2.1 105 = .ok (.iinc 3 1, 3) := by decide +kernel
theorem d_C_gather_108 : decode M_C_gather.2.1 108 = .ok (.goto (-101), 3) := by decide +kernel
theorem d_C_gather_111 : decode M_C_gather.2.1 111 = .ok (.return_, 1) := by decide +kernel
theorem d_C_leastFor_0 : decode M_C_leastFor.2.1 0 = .ok (.ldc 33, 2) := by decide +kernel
theorem d_C_leastFor_2 : decode M_C_leastFor.2.1 2 = .ok (.istore_n 3, 1) := by decide +kernel
theorem d_C_leastFor_3 : decode M_C_leastFor.2.1 3 = .ok (.iload_n 2, 1) := by decide +kernel
theorem d_C_leastFor_4 : decode M_C_leastFor.2.1 4 = .ok (.istore 4, 2) := by decide +kernel
theorem d_C_leastFor_6 : decode M_C_leastFor.2.1 6 = .ok (.iload 4, 2) := by decide +kernel
theorem d_C_leastFor_8 : decode M_C_leastFor.2.1 8 = .ok (.aload_n 0, 1) := by decide +kernel
theorem d_C_leastFor_9 : decode M_C_leastFor.2.1 9 = .ok (.getfield 29, 3) := by decide +kernel
theorem d_C_leastFor_12 : decode M_C_leastFor.2.1 12 = .ok (.if_icmp .ge 32, 3) := by decide +kernel
theorem d_C_leastFor_15 : decode M_C_leastFor.2.1 15 = .ok (.aload_n 0, 1) := by decide +kernel
theorem d_C_leastFor_16 : decode M_C_leastFor.2.1 16 = .ok (.getfield 15, 3) := by decide +kernel
theorem d_C_leastFor_19 : decode M_C_leastFor.2.1 19 = .ok (.iload 4, 2) := by decide +kernel
theorem d_C_leastFor_21 : decode M_C_leastFor.2.1 21 = .ok (.baload, 1) := by decide +kernel
theorem d_C_leastFor_22 : decode M_C_leastFor.2.1 22 = .ok (.ifCond .eq 16, 3) := by decide +kernel
theorem d_C_leastFor_25 : decode M_C_leastFor.2.1 25 = .ok (.iload_n 3, 1) := by decide +kernel
theorem d_C_leastFor_26 : decode M_C_leastFor.2.1 26 = .ok (.aload_n 0, 1) := by decide +kernel
theorem d_C_leastFor_27 : decode M_C_leastFor.2.1 27 = .ok (.iload_n 1, 1) := by decide +kernel
theorem d_C_leastFor_28 : decode M_C_leastFor.2.1 28 = .ok (.iload_n 2, 1) := by decide +kernel
theorem d_C_leastFor_29 : decode M_C_leastFor.2.1 29 = .ok (.iload 4, 2) := by decide +kernel
theorem d_C_leastFor_31 : decode M_C_leastFor.2.1 31 = .ok (.invokevirtual 55, 3) := by decide +kernel
theorem d_C_leastFor_34 : decode M_C_leastFor.2.1 34 = .ok (.invokestatic 59, 3) := by decide +kernel
theorem d_C_leastFor_37 : decode M_C_leastFor.2.1 37 = .ok (.istore_n 3, 1) := by decide +kernel
theorem d_C_leastFor_38 : decode M_C_leastFor.2.1 38 = .ok (.iinc 4 1, 3) := by decide +kernel
theorem d_C_leastFor_41 : decode M_C_leastFor.2.1 41 = .ok (.goto (-35), 3) := by decide +kernel
theorem d_C_leastFor_44 : decode M_C_leastFor.2.1 44 = .ok (.iload_n 3, 1) := by decide +kernel
theorem d_C_leastFor_45 : decode M_C_leastFor.2.1 45 = .ok (.ireturn, 1) := by decide +kernel
theorem d_C_greatestIf_0 : decode M_C_greatestIf.2.1 0 = .ok (.aload_n 0, 1) := by decide +kernel
theorem d_C_greatestIf_1 : decode M_C_greatestIf.2.1 1 = .ok (.getfield 19, 3) := by decide +kernel
theorem d_C_greatestIf_4 : decode M_C_greatestIf.2.1 4 = .ok (.iload_n 3, 1) := by decide +kernel
theorem d_C_greatestIf_5 : decode M_C_greatestIf.2.1 5 = .ok (.iconst 1, 1) := by decide +kernel
theorem d_C_greatestIf_6 : decode M_C_greatestIf.2.1 6 = .ok (.iadd, 1) := by decide +kernel
theorem d_C_greatestIf_7 : decode M_C_greatestIf.2.1 7 = .ok (.iaload, 1) := by decide +kernel
theorem d_C_greatestIf_8 : decode M_C_greatestIf.2.1 8 = .ok (.aload_n 0, 1) := by decide +kernel
theorem d_C_greatestIf_9 : decode M_C_greatestIf.2.1 9 = .ok (.getfield 19, 3) := by decide +kernel
theorem d_C_greatestIf_12 : decode M_C_greatestIf.2.1 12 = .ok (.iload_n 2, 1) := by decide +kernel
theorem d_C_greatestIf_13 : decode M_C_greatestIf.2.1 13 = .ok (.iaload, 1) := by decide +kernel
theorem d_C_greatestIf_14 : decode M_C_greatestIf.2.1 14 = .ok (.isub, 1) := by decide +kernel
theorem d_C_greatestIf_15 : decode M_C_greatestIf.2.1 15 = .ok (.aload_n 0, 1) := by decide +kernel
theorem d_C_greatestIf_16 : decode M_C_greatestIf.2.1 16 = .ok (.getfield 22, 3) := by decide +kernel
theorem d_C_greatestIf_19 : decode M_C_greatestIf.2.1 19 = .ok (.iload_n 1, 1) := by decide +kernel
theorem d_C_greatestIf_20 : decode M_C_greatestIf.2.1 20 = .ok (.iconst 1, 1) := by decide +kernel
theorem d_C_greatestIf_21 : decode M_C_greatestIf.2.1 21 = .ok (.iadd, 1) := by decide +kernel
theorem d_C_greatestIf_22 : decode M_C_greatestIf.2.1 22 = .ok (.bipush 101, 2) := by decide +kernel
theorem d_C_greatestIf_24 : decode M_C_greatestIf.2.1 24 = .ok (.imul, 1) := by decide +kernel
theorem d_C_greatestIf_25 : decode M_C_greatestIf.2.1 25 = .ok (.iload_n 3, 1) := by decide +kernel
theorem d_C_greatestIf_26 : decode M_C_greatestIf.2.1 26 = .ok (.iadd, 1) := by decide +kernel
theorem d_C_greatestIf_27 : decode M_C_greatestIf.2.1 27 = .ok (.iconst 1, 1) := by decide +kernel
theorem d_C_greatestIf_28 : decode M_C_greatestIf.2.1 28 = .ok (.iadd, 1) := by decide +kernel
theorem d_C_greatestIf_29 : decode M_C_greatestIf.2.1 29 = .ok (.iaload, 1) := by decide +kernel
theorem d_C_greatestIf_30 : decode M_C_greatestIf.2.1 30 = .ok (.invokestatic 64, 3) := by decide +kernel
theorem d_C_greatestIf_33 : decode M_C_greatestIf.2.1 33 = .ok (.ireturn, 1) := by decide +kernel
theorem d_C_lastSceneOf_0 : decode M_C_lastSceneOf.2.1 0 = .ok (.iconst 0, 1) := by decide +kernel
theorem d_C_lastSceneOf_1 : decode M_C_lastSceneOf.2.1 1 = .ok (.istore_n 3, 1) := by decide +kernel
theorem d_C_lastSceneOf_2 : decode M_C_lastSceneOf.2.1 2 = .ok (.aload_n 0, 1) := by decide +kernel
theorem d_C_lastSceneOf_3 : decode M_C_lastSceneOf.2.1 3 = .ok (.getfield 29, 3) := by decide +kernel
theorem d_C_lastSceneOf_6 : decode M_C_lastSceneOf.2.1 6 = .ok (.iconst 1, 1) := by decide +kernel
theorem d_C_lastSceneOf_7 : decode M_C_lastSceneOf.2.1 7 = .ok (.isub, 1) := by decide +kernel
theorem d_C_lastSceneOf_8 : decode M_C_lastSceneOf.2.1 8 = .ok (.istore 4, 2) := by decide +kernel
theorem d_C_lastSceneOf_10 : decode M_C_lastSceneOf.2.1 10 = .ok (.iconst 0, 1) := by decide +kernel
theorem d_C_lastSceneOf_11 : decode M_C_lastSceneOf.2.1 11 = .ok (.istore 5, 2) := by decide +kernel
theorem d_C_lastSceneOf_13 : decode M_C_lastSceneOf.2.1 13 = .ok (.iload 5, 2) := by decide +kernel
theorem d_C_lastSceneOf_15 : decode M_C_lastSceneOf.2.1 15 = .ok (.iload_n 1, 1) := by decide +kernel
theorem d_C_lastSceneOf_16 : decode M_C_lastSceneOf.2.1 16 = .ok (.if_icmp .gt 39, 3) := by decide +kernel
theorem d_C_lastSceneOf_19 : decode M_C_lastSceneOf.2.1 19 = .ok (.iload 5, 2) := by decide +kernel
theorem d_C_lastSceneOf_21 : decode M_C_lastSceneOf.2.1 21 = .ok (.iconst 4, 1) := by decide +kernel
theorem d_C_lastSceneOf_22 : decode M_C_lastSceneOf.2.1 22 = .ok (.if_icmp .ne 12, 3) := by decide +kernel
theorem d_C_lastSceneOf_25 : decode M_C_lastSceneOf.2.1 25 = .ok (.aload_n 0, 1) := by decide +kernel
theorem d_C_lastSceneOf_26 : decode M_C_lastSceneOf.2.1 26 = .ok (.getfield 29, 3) := by decide +kernel
theorem d_C_lastSceneOf_29 : decode M_C_lastSceneOf.2.1 29 = .ok (.iconst 1, 1) := by decide +kernel
theorem d_C_lastSceneOf_30 : decode M_C_lastSceneOf.2.1 30 = .ok (.isub, 1) := by decide +kernel
theorem d_C_lastSceneOf_31 : decode M_C_lastSceneOf.2.1 31 = .ok (.goto 11, 3) := by decide +kernel
theorem d_C_lastSceneOf_34 : decode M_C_lastSceneOf.2.1 34 = .ok (.aload_n 0, 1) := by decide +kernel
theorem d_C_lastSceneOf_35 : decode M_C_lastSceneOf.2.1 35 = .ok (.iload 5, 2) := by decide +kernel
theorem d_C_lastSceneOf_37 : decode M_C_lastSceneOf.2.1 37 = .ok (.iload_n 3, 1) := by decide +kernel
theorem d_C_lastSceneOf_38 : decode M_C_lastSceneOf.2.1 38 = .ok (.iload_n 2, 1) := by decide +kernel
theorem d_C_lastSceneOf_39 : decode M_C_lastSceneOf.2.1 39 = .ok (.invokevirtual 67, 3) := by decide +kernel
theorem d_C_lastSceneOf_42 : decode M_C_lastSceneOf.2.1 42 = .ok (.istore 4, 2) := by decide +kernel
theorem d_C_lastSceneOf_44 : decode M_C_lastSceneOf.2.1 44 = .ok (.iload 4, 2) := by decide +kernel
theorem d_C_lastSceneOf_46 : decode M_C_lastSceneOf.2.1 46 = .ok (.iconst 1, 1) := by decide +kernel
theorem d_C_lastSceneOf_47 : decode M_C_lastSceneOf.2.1 47 = .ok (.iadd, 1) := by decide +kernel
theorem d_C_lastSceneOf_48 : decode M_C_lastSceneOf.2.1 48 = .ok (.istore_n 3, 1) := by decide +kernel
theorem d_C_lastSceneOf_49 : decode M_C_lastSceneOf.2.1 49 = .ok (.iinc 5 1, 3) := by decide +kernel
theorem d_C_lastSceneOf_52 : decode M_C_lastSceneOf.2.1 52 = .ok (.goto (-39), 3) := by decide +kernel
theorem d_C_lastSceneOf_55 : decode M_C_lastSceneOf.2.1 55 = .ok (.aload_n 0, 1) := by decide +kernel
theorem d_C_lastSceneOf_56 : decode M_C_lastSceneOf.2.1 56 = .ok (.getfield 9, 3) := by decide +kernel
theorem d_C_lastSceneOf_59 : decode M_C_lastSceneOf.2.1 59 = .ok (.iload 4, 2) := by decide +kernel
theorem d_C_lastSceneOf_61 : decode M_C_lastSceneOf.2.1 61 = .ok (.iaload, 1) := by decide +kernel
theorem d_C_lastSceneOf_62 : decode M_C_lastSceneOf.2.1 62 = .ok (.ireturn, 1) := by decide +kernel
theorem d_C_earliestEnd_0 : decode M_C_earliestEnd.2.1 0 = .ok (.iload_n 2, 1) := by decide +kernel
theorem d_C_earliestEnd_1 : decode M_C_earliestEnd.2.1 1 = .ok (.istore 4, 2) := by decide +kernel
theorem d_C_earliestEnd_3 : decode M_C_earliestEnd.2.1 3 = .ok (.iload 4, 2) := by decide +kernel
theorem d_C_earliestEnd_5 : decode M_C_earliestEnd.2.1 5 = .ok (.aload_n 0, 1) := by decide +kernel
theorem d_C_earliestEnd_6 : decode M_C_earliestEnd.2.1 6 = .ok (.getfield 29, 3) := by decide +kernel
theorem d_C_earliestEnd_9 : decode M_C_earliestEnd.2.1 9 = .ok (.if_icmp .ge 34, 3) := by decide +kernel
theorem d_C_earliestEnd_12 : decode M_C_earliestEnd.2.1 12 = .ok (.aload_n 0, 1) := by decide +kernel
theorem d_C_earliestEnd_13 : decode M_C_earliestEnd.2.1 13 = .ok (.getfield 15, 3) := by decide +kernel
theorem d_C_earliestEnd_16 : decode M_C_earliestEnd.2.1 16 = .ok (.iload 4, 2) := by decide +kernel
theorem d_C_earliestEnd_18 : decode M_C_earliestEnd.2.1 18 = .ok (.baload, 1) := by decide +kernel
theorem d_C_earliestEnd_19 : decode M_C_earliestEnd.2.1 19 = .ok (.ifCond .eq 18, 3) := by decide +kernel
theorem d_C_earliestEnd_22 : decode M_C_earliestEnd.2.1 22 = .ok (.aload_n 0, 1) := by decide +kernel
theorem d_C_earliestEnd_23 : decode M_C_earliestEnd.2.1 23 = .ok (.iload_n 1, 1) := by decide +kernel
theorem d_C_earliestEnd_24 : decode M_C_earliestEnd.2.1 24 = .ok (.iload_n 2, 1) := by decide +kernel
theorem d_C_earliestEnd_25 : decode M_C_earliestEnd.2.1 25 = .ok (.iload 4, 2) := by decide +kernel
theorem d_C_earliestEnd_27 : decode M_C_earliestEnd.2.1 27 = .ok (.invokevirtual 55, 3) := by decide +kernel
theorem d_C_earliestEnd_30 : decode M_C_earliestEnd.2.1 30 = .ok (.iload_n 3, 1) := by decide +kernel
theorem d_C_earliestEnd_31 : decode M_C_earliestEnd.2.1 31 = .ok (.if_icmp .gt 6, 3) := by decide +kernel
theorem d_C_earliestEnd_34 : decode M_C_earliestEnd.2.1 34 = .ok (.iload 4, 2) := by decide +kernel
theorem d_C_earliestEnd_36 : decode M_C_earliestEnd.2.1 36 = .ok (.ireturn, 1) := by decide +kernel
theorem d_C_earliestEnd_37 : decode M_C_earliestEnd.2.1 37 = .ok (.iinc 4 1, 3) := by decide +kernel
theorem d_C_earliestEnd_40 : decode M_C_earliestEnd.2.1 40 = .ok (.goto (-37), 3) := by decide +kernel
theorem d_C_earliestEnd_43 : decode M_C_earliestEnd.2.1 43 = .ok (.aload_n 0, 1) := by decide +kernel
theorem d_C_earliestEnd_44 : decode M_C_earliestEnd.2.1 44 = .ok (.getfield 29, 3) := by decide +kernel
theorem d_C_earliestEnd_47 : decode M_C_earliestEnd.2.1 47 = .ok (.iconst 1, 1) := by decide +kernel
theorem d_C_earliestEnd_48 : decode M_C_earliestEnd.2.1 48 = .ok (.isub, 1) := by decide +kernel
theorem d_C_earliestEnd_49 : decode M_C_earliestEnd.2.1 49 = .ok (.ireturn, 1) := by decide +kernel
