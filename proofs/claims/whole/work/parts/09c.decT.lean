theorem d_T_init_0 : decode M_T_init.2.1 0 = .ok (.aload_n 0, 1) := by decide +kernel
theorem d_T_init_1 : decode M_T_init.2.1 1 = .ok (.invokespecial 3, 3) := by decide +kernel
theorem d_T_init_4 : decode M_T_init.2.1 4 = .ok (.aload_n 0, 1) := by decide +kernel
theorem d_T_init_5 : decode M_T_init.2.1 5 = .ok (.iconst 4, 1) := by decide +kernel
theorem d_T_init_6 : decode M_T_init.2.1 6 = .ok (.newarray .int, 2) := by decide +kernel
theorem d_T_init_8 : decode M_T_init.2.1 8 = .ok (.putfield 9, 3) := by decide +kernel
theorem d_T_init_11 : decode M_T_init.2.1 11 = .ok (.aload_n 0, 1) := by decide +kernel
theorem d_T_init_12 : decode M_T_init.2.1 12 = .ok (.bipush 100, 2) := by decide +kernel
theorem d_T_init_14 : decode M_T_init.2.1 14 = .ok (.newarray .int, 2) := by decide +kernel
theorem d_T_init_16 : decode M_T_init.2.1 16 = .ok (.putfield 15, 3) := by decide +kernel
theorem d_T_init_19 : decode M_T_init.2.1 19 = .ok (.aload_n 0, 1) := by decide +kernel
theorem d_T_init_20 : decode M_T_init.2.1 20 = .ok (.bipush 28, 2) := by decide +kernel
theorem d_T_init_22 : decode M_T_init.2.1 22 = .ok (.newarray .int, 2) := by decide +kernel
theorem d_T_init_24 : decode M_T_init.2.1 24 = .ok (.putfield 18, 3) := by decide +kernel
theorem d_T_init_27 : decode M_T_init.2.1 27 = .ok (.aload_n 0, 1) := by decide +kernel
theorem d_T_init_28 : decode M_T_init.2.1 28 = .ok (.bipush 12, 2) := by decide +kernel
theorem d_T_init_30 : decode M_T_init.2.1 30 = .ok (.newarray .int, 2) := by decide +kernel
theorem d_T_init_32 : decode M_T_init.2.1 32 = .ok (.putfield 21, 3) := by decide +kernel
theorem d_T_init_35 : decode M_T_init.2.1 35 = .ok (.aload_n 0, 1) := by decide +kernel
theorem d_T_init_36 : decode M_T_init.2.1 36 = .ok (.bipush 12, 2) := by decide +kernel
theorem d_T_init_38 : decode M_T_init.2.1 38 = .ok (.newarray .int, 2) := by decide +kernel
theorem d_T_init_40 : decode M_T_init.2.1 40 = .ok (.putfield 24, 3) := by decide +kernel
theorem d_T_init_43 : decode M_T_init.2.1 43 = .ok (.aload_n 0, 1) := by decide +kernel
theorem d_T_init_44 : decode M_T_init.2.1 44 = .ok (.sipush 288, 3) := by decide +kernel
theorem d_T_init_47 : decode M_T_init.2.1 47 = .ok (.newarray .int, 2) := by decide +kernel
theorem d_T_init_49 : decode M_T_init.2.1 49 = .ok (.putfield 27, 3) := by decide +kernel
theorem d_T_init_52 : decode M_T_init.2.1 52 = .ok (.aload_n 0, 1) := by decide +kernel
theorem d_T_init_53 : decode M_T_init.2.1 53 = .ok (.sipush 288, 3) := by decide +kernel
theorem d_T_init_56 : decode M_T_init.2.1 56 = .ok (.newarray .int, 2) := by decide +kernel
theorem d_T_init_58 : decode M_T_init.2.1 58 = .ok (.putfield 30, 3) := by decide +kernel
theorem d_T_init_61 : decode M_T_init.2.1 61 = .ok (.aload_n 0, 1) := by decide +kernel
theorem d_T_init_62 : decode M_T_init.2.1 62 = .ok (.sipush 288, 3) := by decide +kernel
theorem d_T_init_65 : decode M_T_init.2.1 65 = .ok (.newarray .int, 2) := by decide +kernel
theorem d_T_init_67 : decode M_T_init.2.1 67 = .ok (.putfield 33, 3) := by decide +kernel
theorem d_T_init_70 : decode M_T_init.2.1 70 = .ok (.aload_n 0, 1) := by decide +kernel
theorem d_T_init_71 : decode M_T_init.2.1 71 = .ok (.bipush 24, 2) := by decide +kernel
theorem d_T_init_73 : decode M_T_init.2.1 73 = .ok (.newarray .int, 2) := by decide +kernel
theorem d_T_init_75 : decode M_T_init.2.1 75 = .ok (.putfield 36, 3) := by decide +kernel
theorem d_T_init_78 : decode M_T_init.2.1 78 = .ok (.aload_n 0, 1) := by decide +kernel
theorem d_T_init_79 : decode M_T_init.2.1 79 = .ok (.bipush 100, 2) := by decide +kernel
theorem d_T_init_81 : decode M_T_init.2.1 81 = .ok (.newarray .int, 2) := by decide +kernel
theorem d_T_init_83 : decode M_T_init.2.1 83 = .ok (.putfield 39, 3) := by decide +kernel
theorem d_T_init_86 : decode M_T_init.2.1 86 = .ok (.aload_n 0, 1) := by decide +kernel
theorem d_T_init_87 : decode M_T_init.2.1 87 = .ok (.bipush 100, 2) := by decide +kernel
theorem d_T_init_89 : decode M_T_init.2.1 89 = .ok (.newarray .int, 2) := by decide +kernel
theorem d_T_init_91 : decode M_T_init.2.1 91 = .ok (.putfield 42, 3) := by decide +kernel
theorem d_T_init_94 : decode M_T_init.2.1 94 = .ok (.aload_n 0, 1) := by decide +kernel
theorem d_T_init_95 : decode M_T_init.2.1 95 = .ok (.aload_n 1, 1) := by decide +kernel
theorem d_T_init_96 : decode M_T_init.2.1 96 = .ok (.putfield 45, 3) := by decide +kernel
theorem d_T_init_99 : decode M_T_init.2.1 99 = .ok (.aload_n 0, 1) := by decide +kernel
theorem d_T_init_100 : decode M_T_init.2.1 100 = .ok (.aload_n 2, 1) := by decide +kernel
theorem d_T_init_101 : decode M_T_init.2.1 101 = .ok (.putfield 49, 3) := by decide +kernel
theorem d_T_init_104 : decode M_T_init.2.1 104 = .ok (.return_, 1) := by decide +kernel
theorem d_T_open_0 : decode M_T_open.2.1 0 = .ok (.aload_n 0, 1) := by decide +kernel
theorem d_T_open_1 : decode M_T_open.2.1 1 = .ok (.aload_n 1, 1) := by decide +kernel
theorem d_T_open_2 : decode M_T_open.2.1 2 = .ok (.putfield 49, 3) := by decide +kernel
theorem d_T_open_5 : decode M_T_open.2.1 5 = .ok (.aload_n 0, 1) := by decide +kernel
theorem d_T_open_6 : decode M_T_open.2.1 6 = .ok (.iconst (-1), 1) := by decide +kernel
theorem d_T_open_7 : decode M_T_open.2.1 7 = .ok (.putfield 53, 3) := by decide +kernel
theorem d_T_open_10 : decode M_T_open.2.1 10 = .ok (.aload_n 0, 1) := by decide +kernel
theorem d_T_open_11 : decode M_T_open.2.1 11 = .ok (.iconst (-1), 1) := by decide +kernel
theorem d_T_open_12 : decode M_T_open.2.1 12 = .ok (.putfield 57, 3) := by decide +kernel
theorem d_T_open_15 : decode M_T_open.2.1 15 = .ok (.aload_n 0, 1) := by decide +kernel
theorem d_T_open_16 : decode M_T_open.2.1 16 = .ok (.iconst 0, 1) := by decide +kernel
theorem d_T_open_17 : decode M_T_open.2.1 17 = .ok (.putfield 60, 3) := by decide +kernel
theorem d_T_open_20 : decode M_T_open.2.1 20 = .ok (.aload_n 0, 1) := by decide +kernel
theorem d_T_open_21 : decode M_T_open.2.1 21 = .ok (.iconst 0, 1) := by decide +kernel
theorem d_T_open_22 : decode M_T_open.2.1 22 = .ok (.putfield 63, 3) := by decide +kernel
theorem d_T_open_25 : decode M_T_open.2.1 25 = .ok (.aload_n 0, 1) := by decide +kernel
theorem d_T_open_26 : decode M_T_open.2.1 26 = .ok (.getfield 24, 3) := by decide +kernel
theorem d_T_open_29 : decode M_T_open.2.1 29 = .ok (.iconst 0, 1) := by decide +kernel
theorem d_T_open_30 : decode M_T_open.2.1 30 = .ok (.invokestatic 66, 3) := by decide +kernel
theorem d_T_open_33 : decode M_T_open.2.1 33 = .ok (.aload_n 0, 1) := by decide +kernel
theorem d_T_open_34 : decode M_T_open.2.1 34 = .ok (.getfield 36, 3) := by decide +kernel
theorem d_T_open_37 : decode M_T_open.2.1 37 = .ok (.bipush (-3), 2) := by decide +kernel
theorem d_T_open_39 : decode M_T_open.2.1 39 = .ok (.invokestatic 66, 3) := by decide +kernel
theorem d_T_open_42 : decode M_T_open.2.1 42 = .ok (.aload_n 0, 1) := by decide +kernel
theorem d_T_open_43 : decode M_T_open.2.1 43 = .ok (.getfield 39, 3) := by decide +kernel
theorem d_T_open_46 : decode M_T_open.2.1 46 = .ok (.iconst 0, 1) := by decide +kernel
theorem d_T_open_47 : decode M_T_open.2.1 47 = .ok (.invokestatic 66, 3) := by decide +kernel
theorem d_T_open_50 : decode M_T_open.2.1 50 = .ok (.aload_n 0, 1) := by decide +kernel
theorem d_T_open_51 : decode M_T_open.2.1 51 = .ok (.invokevirtual 72, 3) := by decide +kernel
theorem d_T_open_54 : decode M_T_open.2.1 54 = .ok (.aload_n 0, 1) := by decide +kernel
theorem d_T_open_55 : decode M_T_open.2.1 55 = .ok (.invokevirtual 75, 3) := by decide +kernel
theorem d_T_open_58 : decode M_T_open.2.1 58 = .ok (.ireturn, 1) := by decide +kernel
theorem d_T_openBible_0 : decode M_T_openBible.2.1 0 = .ok (.iconst 0, 1) := by decide +kernel
theorem d_T_openBible_1 : decode M_T_openBible.2.1 1 = .ok (.istore_n 1, 1) := by decide +kernel
theorem d_T_openBible_2 : decode M_T_openBible.2.1 2 = .ok (.iload_n 1, 1) := by decide +kernel
theorem d_T_openBible_3 : decode M_T_openBible.2.1 3 = .ok (.aload_n 0, 1) := by decide +kernel
theorem d_T_openBible_4 : decode M_T_openBible.2.1 4 = .ok (.getfield 49, 3) := by decide +kernel
theorem d_T_openBible_7 : decode M_T_openBible.2.1 7 = .ok (.getfield 79, 3) := by decide +kernel
theorem d_T_openBible_10 : decode M_T_openBible.2.1 10 = .ok (.if_icmp .ge 124, 3) := by decide +kernel
theorem d_T_openBible_13 : decode M_T_openBible.2.1 13 = .ok (.aload_n 0, 1) := by decide +kernel
theorem d_T_openBible_14 : decode M_T_openBible.2.1 14 = .ok (.getfield 21, 3) := by decide +kernel
theorem d_T_openBible_17 : decode M_T_openBible.2.1 17 = .ok (.iload_n 1, 1) := by decide +kernel
theorem d_T_openBible_18 : decode M_T_openBible.2.1 18 = .ok (.aload_n 0, 1) := by decide +kernel
theorem d_T_openBible_19 : decode M_T_openBible.2.1 19 = .ok (.getfield 49, 3) := by decide +kernel
theorem d_T_openBible_22 : decode M_T_openBible.2.1 22 = .ok (.getfield 84, 3) := by decide +kernel
theorem d_T_openBible_25 : decode M_T_openBible.2.1 25 = .ok (.iload_n 1, 1) := by decide +kernel
theorem d_T_openBible_26 : decode M_T_openBible.2.1 26 = .ok (.iaload, 1) := by decide +kernel
theorem d_T_openBible_27 : decode M_T_openBible.2.1 27 = .ok (.iastore, 1) := by decide +kernel
theorem d_T_openBible_28 : decode M_T_openBible.2.1 28 = .ok (.iconst 0, 1) := by decide +kernel
theorem d_T_openBible_29 : decode M_T_openBible.2.1 29 = .ok (.istore_n 2, 1) := by decide +kernel
theorem d_T_openBible_30 : decode M_T_openBible.2.1 30 = .ok (.iload_n 2, 1) := by decide +kernel
theorem d_T_openBible_31 : decode M_T_openBible.2.1 31 = .ok (.aload_n 0, 1) := by decide +kernel
theorem d_T_openBible_32 : decode M_T_openBible.2.1 32 = .ok (.getfield 49, 3) := by decide +kernel
theorem d_T_openBible_35 : decode M_T_openBible.2.1 35 = .ok (.getfield 87, 3) := by decide +kernel
theorem d_T_openBible_38 : decode M_T_openBible.2.1 38 = .ok (.if_icmp .ge 90, 3) := by decide +kernel
theorem d_T_openBible_41 : decode M_T_openBible.2.1 41 = .ok (.aload_n 0, 1) := by decide +kernel
theorem d_T_openBible_42 : decode M_T_openBible.2.1 42 = .ok (.getfield 21, 3) := by decide +kernel
theorem d_T_openBible_45 : decode M_T_openBible.2.1 45 = .ok (.iload_n 1, 1) := by decide +kernel
theorem d_T_openBible_46 : decode M_T_openBible.2.1 46 = .ok (.iaload, 1) := by decide +kernel
theorem d_T_openBible_47 : decode M_T_openBible.2.1 47 = .ok (.iload_n 2, 1) := by decide +kernel
theorem d_T_openBible_48 : decode M_T_openBible.2.1 48 = .ok (.ishr, 1) := by decide +kernel
theorem d_T_openBible_49 : decode M_T_openBible.2.1 49 = .ok (.iconst 1, 1) := by decide +kernel
theorem d_T_openBible_50 : decode M_T_openBible.2.1 50 = .ok (.iand, 1) := by decide +kernel
theorem d_T_openBible_51 : decode M_T_openBible.2.1 51 = .ok (.iconst 1, 1) := by decide +kernel
theorem d_T_openBible_52 : decode M_T_openBible.2.1 52 = .ok (.if_icmp .ne 7, 3) := by decide +kernel
theorem d_T_openBible_55 : decode M_T_openBible.2.1 55 = .ok (.iconst 1, 1) := by decide +kernel
theorem d_T_openBible_56 : decode M_T_openBible.2.1 56 = .ok (.goto 4, 3) := by decide +kernel
theorem d_T_openBible_59 : decode M_T_openBible.2.1 59 = .ok (.iconst 0, 1) := by decide +kernel
theorem d_T_openBible_60 : decode M_T_openBible.2.1 60 = .ok (.istore_n 3, 1) := by decide +kernel
theorem d_T_openBible_61 : decode M_T_openBible.2.1 61 = .ok (.iload_n 1, 1) := by decide +kernel
theorem d_T_openBible_62 : decode M_T_openBible.2.1 62 = .ok (.bipush 24, 2) := by decide +kernel
theorem d_T_openBible_64 : decode M_T_openBible.2.1 64 = .ok (.imul, 1) := by decide +kernel
theorem d_T_openBible_65 : decode M_T_openBible.2.1 65 = .ok (.iload_n 2, 1) := by decide +kernel
theorem d_T_openBible_66 : decode M_T_openBible.2.1 66 = .ok (.iadd, 1) := by decide +kernel
theorem d_T_openBible_67 : decode M_T_openBible.2.1 67 = .ok (.istore 4, 2) := by decide +kernel
theorem d_T_openBible_69 : decode M_T_openBible.2.1 69 = .ok (.aload_n 0, 1) := by decide +kernel
theorem d_T_openBible_70 : decode M_T_openBible.2.1 70 = .ok (.getfield 27, 3) := by decide +kernel
theorem d_T_openBible_73 : decode M_T_openBible.2.1 73 = .ok (.iload 4, 2) := by decide +kernel
theorem d_T_openBible_75 : decode M_T_openBible.2.1 75 = .ok (.iload_n 3, 1) := by decide +kernel
theorem d_T_openBible_76 : decode M_T_openBible.2.1 76 = .ok (.ifCond .eq 8, 3) := by decide +kernel
theorem d_T_openBible_79 : decode M_T_openBible.2.1 79 = .ok (.bipush (-2), 2) := by decide +kernel
theorem d_T_openBible_81 : decode M_T_openBible.2.1 81 = .ok (.goto 5, 3) := by decide +kernel
theorem d_T_openBible_84 : decode M_T_openBible.2.1 84 = .ok (.bipush (-3), 2) := by decide +kernel
theorem d_T_openBible_86 : decode M_T_openBible.2.1 86 = .ok (.iastore, 1) := by decide +kernel
theorem d_T_openBible_87 : decode M_T_openBible.2.1 87 = .ok (.aload_n 0, 1) := by decide +kernel
theorem d_T_openBible_88 : decode M_T_openBible.2.1 88 = .ok (.getfield 30, 3) := by decide +kernel
theorem d_T_openBible_91 : decode M_T_openBible.2.1 91 = .ok (.iload 4, 2) := by decide +kernel
theorem d_T_openBible_93 : decode M_T_openBible.2.1 93 = .ok (.iload_n 3, 1) := by decide +kernel
theorem d_T_openBible_94 : decode M_T_openBible.2.1 94 = .ok (.ifCond .eq 8, 3) := by decide +kernel
theorem d_T_openBible_97 : decode M_T_openBible.2.1 97 = .ok (.bipush (-2), 2) := by decide +kernel
theorem d_T_openBible_99 : decode M_T_openBible.2.1 99 = .ok (.goto 5, 3) := by decide +kernel
theorem d_T_openBible_102 : decode M_T_openBible.2.1 102 = .ok (.bipush (-3), 2) := by decide +kernel
theorem d_T_openBible_104 : decode M_T_openBible.2.1 104 = .ok (.iastore, 1) := by decide +kernel
theorem d_T_openBible_105 : decode M_T_openBible.2.1 105 = .ok (.aload_n 0, 1) := by decide +kernel
theorem d_T_openBible_106 : decode M_T_openBible.2.1 106 = .ok (.getfield 33, 3) := by decide +kernel
theorem d_T_openBible_109 : decode M_T_openBible.2.1 109 = .ok (.iload 4, 2) := by decide +kernel
theorem d_T_openBible_111 : decode M_T_openBible.2.1 111 = .ok (.iload_n 3, 1) := by decide +kernel
theorem d_T_openBible_112 : decode M_T_openBible.2.1 112 = .ok (.ifCond .eq 7, 3) := by decide +kernel
theorem d_T_openBible_115 : decode M_T_openBible.2.1 115 = .ok (.iconst 0, 1) := by decide +kernel
theorem d_T_openBible_116 : decode M_T_openBible.2.1 116 = .ok (.goto 5, 3) := by decide +kernel
theorem d_T_openBible_119 : decode M_T_openBible.2.1 119 = .ok (.bipush (-3), 2) := by decide +kernel
theorem d_T_openBible_121 : decode M_T_openBible.2.1 121 = .ok (.iastore, 1) := by decide +kernel
theorem d_T_openBible_122 : decode M_T_openBible.2.1 122 = .ok (.iinc 2 1, 3) := by decide +kernel
theorem d_T_openBible_125 : decode M_T_openBible.2.1 125 = .ok (.goto (-95), 3) := by decide +kernel
theorem d_T_openBible_128 : decode M_T_openBible.2.1 128 = .ok (.iinc 1 1, 3) := by decide +kernel
theorem d_T_openBible_131 : decode M_T_openBible.2.1 131 = .ok (.goto (-129), 3) := by decide +kernel
theorem d_T_openBible_134 : decode M_T_openBible.2.1 134 = .ok (.return_, 1) := by decide +kernel
theorem d_T_putInAirOrder_0 : decode M_T_putInAirOrder.2.1 0 = .ok (.aload_n 0, 1) := by decide +kernel
theorem d_T_putInAirOrder_1 : decode M_T_putInAirOrder.2.1 1 = .ok (.getfield 18, 3) := by decide +kernel
theorem d_T_putInAirOrder_4 : decode M_T_putInAirOrder.2.1 4 = .ok (.iconst 0, 1) := by decide +kernel
theorem d_T_putInAirOrder_5 : decode M_T_putInAirOrder.2.1 5 = .ok (.invokestatic 66, 3) := by decide +kernel
theorem d_T_putInAirOrder_8 : decode M_T_putInAirOrder.2.1 8 = .ok (.iconst 0, 1) := by decide +kernel
theorem d_T_putInAirOrder_9 : decode M_T_putInAirOrder.2.1 9 = .ok (.istore_n 1, 1) := by decide +kernel
theorem d_T_putInAirOrder_10 : decode M_T_putInAirOrder.2.1 10 = .ok (.iconst 0, 1) := by decide +kernel
theorem d_T_putInAirOrder_11 : decode M_T_putInAirOrder.2.1 11 = .ok (.istore_n 2, 1) := by decide +kernel
theorem d_T_putInAirOrder_12 : decode M_T_putInAirOrder.2.1 12 = .ok (.iload_n 2, 1) := by decide +kernel
theorem d_T_putInAirOrder_13 : decode M_T_putInAirOrder.2.1 13 = .ok (.aload_n 0, 1) := by decide +kernel
theorem d_T_putInAirOrder_14 : decode M_T_putInAirOrder.2.1 14 = .ok (.getfield 49, 3) := by decide +kernel
theorem d_T_putInAirOrder_17 : decode M_T_putInAirOrder.2.1 17 = .ok (.getfield 90, 3) := by decide +kernel
theorem d_T_putInAirOrder_20 : decode M_T_putInAirOrder.2.1 20 = .ok (.if_icmp .ge 44, 3) := by decide +kernel
theorem d_T_putInAirOrder_23 : decode M_T_putInAirOrder.2.1 23 = .ok (.aload_n 0, 1) := by decide +kernel
theorem d_T_putInAirOrder_24 : decode M_T_putInAirOrder.2.1 24 = .ok (.getfield 49, 3) := by decide +kernel
theorem d_T_putInAirOrder_27 : decode M_T_putInAirOrder.2.1 27 = .ok (.getfield 93, 3) := by decide +kernel
theorem d_T_putInAirOrder_30 : decode M_T_putInAirOrder.2.1 30 = .ok (.iload_n 2, 1) := by decide +kernel
theorem d_T_putInAirOrder_31 : decode M_T_putInAirOrder.2.1 31 = .ok (.iaload, 1) := by decide +kernel
theorem d_T_putInAirOrder_32 : decode M_T_putInAirOrder.2.1 32 = .ok (.ifCond .ne 26, 3) := by decide +kernel
theorem d_T_putInAirOrder_35 : decode M_T_putInAirOrder.2.1 35 = .ok (.aload_n 0, 1) := by decide +kernel
theorem d_T_putInAirOrder_36 : decode M_T_putInAirOrder.2.1 36 = .ok (.getfield 18, 3) := by decide +kernel
theorem d_T_putInAirOrder_39 : decode M_T_putInAirOrder.2.1 39 = .ok (.aload_n 0, 1) := by decide +kernel
theorem d_T_putInAirOrder_40 : decode M_T_putInAirOrder.2.1 40 = .ok (.getfield 49, 3) := by decide +kernel
theorem d_T_putInAirOrder_43 : decode M_T_putInAirOrder.2.1 43 = .ok (.getfield 96, 3) := by decide +kernel
theorem d_T_putInAirOrder_46 : decode M_T_putInAirOrder.2.1 46 = .ok (.iload_n 2, 1) := by decide +kernel
theorem d_T_putInAirOrder_47 : decode M_T_putInAirOrder.2.1 47 = .ok (.iaload, 1) := by decide +kernel
theorem d_T_putInAirOrder_48 : decode M_T_putInAirOrder.2.1 48 = .ok (.iconst 1, 1) := by decide +kernel
theorem d_T_putInAirOrder_49 : decode M_T_putInAirOrder.2.1 49 = .ok (.iadd, 1) := by decide +kernel
theorem d_T_putInAirOrder_50 : decode M_T_putInAirOrder.2.1 50 = .ok (.dup2, 1) := by decide +kernel
theorem d_T_putInAirOrder_51 : decode M_T_putInAirOrder.2.1 51 = .ok (.iaload, 1) := by decide +kernel
theorem d_T_putInAirOrder_52 : decode M_T_putInAirOrder.2.1 52 = .ok (.iconst 1, 1) := by decide +kernel
theorem d_T_putInAirOrder_53 : decode M_T_putInAirOrder.2.1 53 = .ok (.iadd, 1) := by decide +kernel
theorem d_T_putInAirOrder_54 : decode M_T_putInAirOrder.2.1 54 = .ok (.iastore, 1) := by decide +kernel
theorem d_T_putInAirOrder_55 : decode M_T_putInAirOrder.2.1 55 = .ok (.iinc 1 1, 3) := by decide +kernel
theorem d_T_putInAirOrder_58 : decode M_T_putInAirOrder.2.1 58 = .ok (.iinc 2 1, 3) := by decide +kernel
theorem d_T_putInAirOrder_61 : decode M_T_putInAirOrder.2.1 61 = .ok (.goto (-49), 3) := by decide +kernel
theorem d_T_putInAirOrder_64 : decode M_T_putInAirOrder.2.1 64 = .ok (.iconst 1, 1) := by decide +kernel
theorem d_T_putInAirOrder_65 : decode M_T_putInAirOrder.2.1 65 = .ok (.istore_n 2, 1) := by decide +kernel
theorem d_T_putInAirOrder_66 : decode M_T_putInAirOrder.2.1 66 = .ok (.iload_n 2, 1) := by decide +kernel
theorem d_T_putInAirOrder_67 : decode M_T_putInAirOrder.2.1 67 = .ok (.bipush 26, 2) := by decide +kernel
theorem d_T_putInAirOrder_69 : decode M_T_putInAirOrder.2.1 69 = .ok (.if_icmp .gt 26, 3) := by decide +kernel
theorem d_T_putInAirOrder_72 : decode M_T_putInAirOrder.2.1 72 = .ok (.aload_n 0, 1) := by decide +kernel
theorem d_T_putInAirOrder_73 : decode M_T_putInAirOrder.2.1 73 = .ok (.getfield 18, 3) := by decide +kernel
theorem d_T_putInAirOrder_76 : decode M_T_putInAirOrder.2.1 76 = .ok (.iload_n 2, 1) := by decide +kernel
theorem d_T_putInAirOrder_77 : decode M_T_putInAirOrder.2.1 77 = .ok (.dup2, 1) := by decide +kernel
theorem d_T_putInAirOrder_78 : decode M_T_putInAirOrder.2.1 78 = .ok (.iaload, 1) := by decide +kernel
theorem d_T_putInAirOrder_79 : decode M_T_putInAirOrder.2.1 79 = .ok (.aload_n 0, 1) := by decide +kernel
theorem d_T_putInAirOrder_80 : decode M_T_putInAirOrder.2.1 80 = .ok (.getfield 18, 3) := by decide +kernel
theorem d_T_putInAirOrder_83 : decode M_T_putInAirOrder.2.1 83 = .ok (.iload_n 2, 1) := by decide +kernel
theorem d_T_putInAirOrder_84 : decode M_T_putInAirOrder.2.1 84 = .ok (.iconst 1, 1) := by decide +kernel
theorem d_T_putInAirOrder_85 : decode M_T_putInAirOrder.2.1 85 = .ok (.isub, 1) := by decide +kernel
theorem d_T_putInAirOrder_86 : decode M_T_putInAirOrder.2.1 86 = .ok (.iaload, 1) := by decide +kernel
theorem d_T_putInAirOrder_87 : decode M_T_putInAirOrder.2.1 87 = .ok (.iadd, 1) := by decide +kernel
theorem d_T_putInAirOrder_88 : decode M_T_putInAirOrder.2.1 88 = .ok (.iastore, 1) := by decide +kernel
theorem d_T_putInAirOrder_89 : decode M_T_putInAirOrder.2.1 89 = .ok (.iinc 2 1, 3) := by decide +kernel
theorem d_T_putInAirOrder_92 : decode M_T_putInAirOrder.2.1 92 = .ok (.goto (-26), 3) := by decide +kernel
theorem d_T_putInAirOrder_95 : decode M_T_putInAirOrder.2.1 95 = .ok (.iconst 0, 1) := by decide +kernel
theorem d_T_putInAirOrder_96 : decode M_T_putInAirOrder.2.1 96 = .ok (.istore_n 2, 1) := by decide +kernel
theorem d_T_putInAirOrder_97 : decode M_T_putInAirOrder.2.1 97 = .ok (.iload_n 2, 1) := by decide +kernel
theorem d_T_putInAirOrder_98 : decode M_T_putInAirOrder.2.1 98 = .ok (.aload_n 0, 1) := by decide +kernel
theorem d_T_putInAirOrder_99 : decode M_T_putInAirOrder.2.1 99 = .ok (.getfield 49, 3) := by decide +kernel
theorem d_T_putInAirOrder_102 : decode M_T_putInAirOrder.2.1 102 = .ok (.getfield 90, 3) := by decide +kernel
theorem d_T_putInAirOrder_105 : decode M_T_putInAirOrder.2.1 105 = .ok (.if_icmp .ge 46, 3) := by decide +kernel
theorem d_T_putInAirOrder_108 : decode M_T_putInAirOrder.2.1 108 = .ok (.aload_n 0, 1) := by decide +kernel
theorem d_T_putInAirOrder_109 : decode M_T_putInAirOrder.2.1 109 = .ok (.getfield 49, 3) := by decide +kernel
theorem d_T_putInAirOrder_112 : decode M_T_putInAirOrder.2.1 112 = .ok (.getfield 93, 3) := by decide +kernel
theorem d_T_putInAirOrder_115 : decode M_T_putInAirOrder.2.1 115 = .ok (.iload_n 2, 1) := by decide +kernel
theorem d_T_putInAirOrder_116 : decode M_T_putInAirOrder.2.1 116 = .ok (.iaload, 1) := by decide +kernel
theorem d_T_putInAirOrder_117 : decode M_T_putInAirOrder.2.1 117 = .ok (.ifCond .ne 28, 3) := by decide +kernel
theorem d_T_putInAirOrder_120 : decode M_T_putInAirOrder.2.1 120 = .ok (.aload_n 0, 1) := by decide +kernel
theorem d_T_putInAirOrder_121 : decode M_T_putInAirOrder.2.1 121 = .ok (.getfield 15, 3) := by decide +kernel
theorem d_T_putInAirOrder_124 : decode M_T_putInAirOrder.2.1 124 = .ok (.aload_n 0, 1) := by decide +kernel
theorem d_T_putInAirOrder_125 : decode M_T_putInAirOrder.2.1 125 = .ok (.getfield 18, 3) := by decide +kernel
theorem d_T_putInAirOrder_128 : decode M_T_putInAirOrder.2.1 128 = .ok (.aload_n 0, 1) := by decide +kernel
theorem d_T_putInAirOrder_129 : decode M_T_putInAirOrder.2.1 129 = .ok (.getfield 49, 3) := by decide +kernel
theorem d_T_putInAirOrder_132 : decode M_T_putInAirOrder.2.1 132 = .ok (.getfield 96, 3) := by decide +kernel
theorem d_T_putInAirOrder_135 : decode M_T_putInAirOrder.2.1 135 = .ok (.iload_n 2, 1) := by decide +kernel
theorem d_T_putInAirOrder_136 : decode M_T_putInAirOrder.2.1 136 = .ok (.iaload, 1) := by decide +kernel
theorem d_T_putInAirOrder_137 : decode M_T_putInAirOrder.2.1 137 = .ok (.dup2, 1) := by decide +kernel
theorem d_T_putInAirOrder_138 : decode M_T_putInAirOrder.2.1 138 = .ok (.iaload, 1) := by decide +kernel
theorem d_T_putInAirOrder_139 : decode M_T_putInAirOrder.2.1 139 = .ok (.dup_x2, 1) := by decide +kernel
theorem d_T_putInAirOrder_140 : decode M_T_putInAirOrder.2.1 140 = .ok (.iconst 1, 1) := by decide +kernel
theorem d_T_putInAirOrder_141 : decode M_T_putInAirOrder.2.1 141 = .ok (.iadd, 1) := by decide +kernel
theorem d_T_putInAirOrder_142 : decode M_T_putInAirOrder.2.1 142 = .ok (.iastore, 1) := by decide +kernel
theorem d_T_putInAirOrder_143 : decode M_T_putInAirOrder.2.1 143 = .ok (.iload_n 2, 1) := by decide +kernel
theorem d_T_putInAirOrder_144 : decode M_T_putInAirOrder.2.1 144 = .ok (.iastore, 1) := by decide +kernel
theorem d_T_putInAirOrder_145 : decode M_T_putInAirOrder.2.1 145 = .ok (.iinc 2 1, 3) := by decide +kernel
theorem d_T_putInAirOrder_148 : decode M_T_putInAirOrder.2.1 148 = .ok (.goto (-51), 3) := by decide +kernel
theorem d_T_putInAirOrder_151 : decode M_T_putInAirOrder.2.1 151 = .ok (.iload_n 1, 1) := by decide +kernel
theorem d_T_putInAirOrder_152 : decode M_T_putInAirOrder.2.1 152 = .ok (.ireturn, 1) := by decide +kernel
theorem d_T_playAll_0 : decode M_T_playAll.2.1 0 = .ok (.aload_n 0, 1) := by decide +kernel
theorem d_T_playAll_1 : decode M_T_playAll.2.1 1 = .ok (.aload_n 0, 1) := by decide +kernel
theorem d_T_playAll_2 : decode M_T_playAll.2.1 2 = .ok (.aload_n 1, 1) := by decide +kernel
theorem d_T_playAll_3 : decode M_T_playAll.2.1 3 = .ok (.invokevirtual 99, 3) := by decide +kernel
theorem d_T_playAll_6 : decode M_T_playAll.2.1 6 = .ok (.invokevirtual 103, 3) := by decide +kernel
theorem d_T_playAll_9 : decode M_T_playAll.2.1 9 = .ok (.aload_n 0, 1) := by decide +kernel
theorem d_T_playAll_10 : decode M_T_playAll.2.1 10 = .ok (.getfield 60, 3) := by decide +kernel
theorem d_T_playAll_13 : decode M_T_playAll.2.1 13 = .ok (.ireturn, 1) := by decide +kernel
theorem d_T_playFirst_0 : decode M_T_playFirst.2.1 0 = .ok (.iconst 0, 1) := by decide +kernel
theorem d_T_playFirst_1 : decode M_T_playFirst.2.1 1 = .ok (.istore_n 2, 1) := by decide +kernel
theorem d_T_playFirst_2 : decode M_T_playFirst.2.1 2 = .ok (.iload_n 2, 1) := by decide +kernel
theorem d_T_playFirst_3 : decode M_T_playFirst.2.1 3 = .ok (.iload_n 1, 1) := by decide +kernel
theorem d_T_playFirst_4 : decode M_T_playFirst.2.1 4 = .ok (.if_icmp .ge 19, 3) := by decide +kernel
theorem d_T_playFirst_7 : decode M_T_playFirst.2.1 7 = .ok (.aload_n 0, 1) := by decide +kernel
theorem d_T_playFirst_8 : decode M_T_playFirst.2.1 8 = .ok (.aload_n 0, 1) := by decide +kernel
theorem d_T_playFirst_9 : decode M_T_playFirst.2.1 9 = .ok (.getfield 15, 3) := by decide +kernel
theorem d_T_playFirst_12 : decode M_T_playFirst.2.1 12 = .ok (.iload_n 2, 1) := by decide +kernel
theorem d_T_playFirst_13 : decode M_T_playFirst.2.1 13 = .ok (.iaload, 1) := by decide +kernel
theorem d_T_playFirst_14 : decode M_T_playFirst.2.1 14 = .ok (.invokevirtual 107, 3) := by decide +kernel
theorem d_T_playFirst_17 : decode M_T_playFirst.2.1 17 = .ok (.iinc 2 1, 3) := by decide +kernel
theorem d_T_playFirst_20 : decode M_T_playFirst.2.1 20 = .ok (.goto (-18), 3) := by decide +kernel
theorem d_T_playFirst_23 : decode M_T_playFirst.2.1 23 = .ok (.return_, 1) := by decide +kernel
theorem d_T_play_0 : decode M_T_play.2.1 0 = .ok (.aload_n 0, 1) := by decide +kernel
theorem d_T_play_1 : decode M_T_play.2.1 1 = .ok (.getfield 53, 3) := by decide +kernel
theorem d_T_play_4 : decode M_T_play.2.1 4 = .ok (.ifCond .lt 28, 3) := by decide +kernel
theorem d_T_play_7 : decode M_T_play.2.1 7 = .ok (.aload_n 0, 1) := by decide +kernel
theorem d_T_play_8 : decode M_T_play.2.1 8 = .ok (.getfield 49, 3) := by decide +kernel
theorem d_T_play_11 : decode M_T_play.2.1 11 = .ok (.getfield 96, 3) := by decide +kernel
theorem d_T_play_14 : decode M_T_play.2.1 14 = .ok (.iload_n 1, 1) := by decide +kernel
theorem d_T_play_15 : decode M_T_play.2.1 15 = .ok (.iaload, 1) := by decide +kernel
theorem d_T_play_16 : decode M_T_play.2.1 16 = .ok (.aload_n 0, 1) := by decide +kernel
theorem d_T_play_17 : decode M_T_play.2.1 17 = .ok (.getfield 116, 3) := by decide +kernel
theorem d_T_play_20 : decode M_T_play.2.1 20 = .ok (.if_icmp .lt 12, 3) := by decide +kernel
theorem d_T_play_23 : decode M_T_play.2.1 23 = .ok (.iconst 1, 1) := by decide +kernel
theorem d_T_play_24 : decode M_T_play.2.1 24 = .ok (.aload_n 0, 1) := by decide +kernel
theorem d_T_play_25 : decode M_T_play.2.1 25 = .ok (.getfield 53, 3) := by decide +kernel
theorem d_T_play_28 : decode M_T_play.2.1 28 = .ok (.ishl, 1) := by decide +kernel
theorem d_T_play_29 : decode M_T_play.2.1 29 = .ok (.goto 4, 3) := by decide +kernel
theorem d_T_play_32 : decode M_T_play.2.1 32 = .ok (.iconst 0, 1) := by decide +kernel
theorem d_T_play_33 : decode M_T_play.2.1 33 = .ok (.istore_n 2, 1) := by decide +kernel
theorem d_T_play_34 : decode M_T_play.2.1 34 = .ok (.aload_n 0, 1) := by decide +kernel
theorem d_T_play_35 : decode M_T_play.2.1 35 = .ok (.getfield 49, 3) := by decide +kernel
theorem d_T_play_38 : decode M_T_play.2.1 38 = .ok (.getfield 125, 3) := by decide +kernel
theorem d_T_play_41 : decode M_T_play.2.1 41 = .ok (.iload_n 1, 1) := by decide +kernel
theorem d_T_play_42 : decode M_T_play.2.1 42 = .ok (.iaload, 1) := by decide +kernel
theorem d_T_play_43 : decode M_T_play.2.1 43 = .ok (.iload_n 2, 1) := by decide +kernel
theorem d_T_play_44 : decode M_T_play.2.1 44 = .ok (.iconst (-1), 1) := by decide +kernel
theorem d_T_play_45 : decode M_T_play.2.1 45 = .ok (.ixor, 1) := by decide +kernel
theorem d_T_play_46 : decode M_T_play.2.1 46 = .ok (.iand, 1) := by decide +kernel
theorem d_T_play_47 : decode M_T_play.2.1 47 = .ok (.istore_n 3, 1) := by decide +kernel
theorem d_T_play_48 : decode M_T_play.2.1 48 = .ok (.aload_n 0, 1) := by decide +kernel
theorem d_T_play_49 : decode M_T_play.2.1 49 = .ok (.iload_n 1, 1) := by decide +kernel
theorem d_T_play_50 : decode M_T_play.2.1 50 = .ok (.iload_n 3, 1) := by decide +kernel
theorem d_T_play_51 : decode M_T_play.2.1 51 = .ok (.invokevirtual 128, 3) := by decide +kernel
theorem d_T_play_54 : decode M_T_play.2.1 54 = .ok (.iconst 0, 1) := by decide +kernel
theorem d_T_play_55 : decode M_T_play.2.1 55 = .ok (.istore 4, 2) := by decide +kernel
theorem d_T_play_57 : decode M_T_play.2.1 57 = .ok (.iload 4, 2) := by decide +kernel
theorem d_T_play_59 : decode M_T_play.2.1 59 = .ok (.aload_n 0, 1) := by decide +kernel
theorem d_T_play_60 : decode M_T_play.2.1 60 = .ok (.getfield 49, 3) := by decide +kernel
theorem d_T_play_63 : decode M_T_play.2.1 63 = .ok (.getfield 132, 3) := by decide +kernel
theorem d_T_play_66 : decode M_T_play.2.1 66 = .ok (.iload_n 1, 1) := by decide +kernel
theorem d_T_play_67 : decode M_T_play.2.1 67 = .ok (.iaload, 1) := by decide +kernel
theorem d_T_play_68 : decode M_T_play.2.1 68 = .ok (.if_icmp .ge 99, 3) := by decide +kernel
theorem d_T_play_71 : decode M_T_play.2.1 71 = .ok (.aload_n 0, 1) := by decide +kernel
theorem d_T_play_72 : decode M_T_play.2.1 72 = .ok (.getfield 49, 3) := by decide +kernel
theorem d_T_play_75 : decode M_T_play.2.1 75 = .ok (.getfield 135, 3) := by decide +kernel
theorem d_T_play_78 : decode M_T_play.2.1 78 = .ok (.iload_n 1, 1) := by decide +kernel
theorem d_T_play_79 : decode M_T_play.2.1 79 = .ok (.bipush 6, 2) := by decide +kernel
theorem d_T_play_81 : decode M_T_play.2.1 81 = .ok (.imul, 1) := by decide +kernel
theorem d_T_play_82 : decode M_T_play.2.1 82 = .ok (.iload 4, 2) := by decide +kernel
theorem d_T_play_84 : decode M_T_play.2.1 84 = .ok (.iadd, 1) := by decide +kernel
theorem d_T_play_85 : decode M_T_play.2.1 85 = .ok (.iaload, 1) := by decide +kernel
theorem d_T_play_86 : decode M_T_play.2.1 86 = .ok (.istore 5, 2) := by decide +kernel
theorem d_T_play_88 : decode M_T_play.2.1 88 = .ok (.iload 5, 2) := by decide +kernel
theorem d_T_play_90 : decode M_T_play.2.1 90 = .ok (.invokestatic 138, 3) := by decide +kernel
theorem d_T_play_93 : decode M_T_play.2.1 93 = .ok (.iload_n 2, 1) := by decide +kernel
theorem d_T_play_94 : decode M_T_play.2.1 94 = .ok (.iand, 1) := by decide +kernel
theorem d_T_play_95 : decode M_T_play.2.1 95 = .ok (.ifCond .eq 6, 3) := by decide +kernel
theorem d_T_play_98 : decode M_T_play.2.1 98 = .ok (.goto 63, 3) := by decide +kernel
theorem d_T_play_101 : decode M_T_play.2.1 101 = .ok (.aload_n 0, 1) := by decide +kernel
theorem d_T_play_102 : decode M_T_play.2.1 102 = .ok (.aload_n 0, 1) := by decide +kernel
theorem d_T_play_103 : decode M_T_play.2.1 103 = .ok (.getfield 49, 3) := by decide +kernel
theorem d_T_play_106 : decode M_T_play.2.1 106 = .ok (.getfield 96, 3) := by decide +kernel
theorem d_T_play_109 : decode M_T_play.2.1 109 = .ok (.iload_n 1, 1) := by decide +kernel
theorem d_T_play_110 : decode M_T_play.2.1 110 = .ok (.iaload, 1) := by decide +kernel
theorem d_T_play_111 : decode M_T_play.2.1 111 = .ok (.iload 5, 2) := by decide +kernel
theorem d_T_play_113 : decode M_T_play.2.1 113 = .ok (.iload_n 3, 1) := by decide +kernel
theorem d_T_play_114 : decode M_T_play.2.1 114 = .ok (.invokevirtual 141, 3) := by decide +kernel
theorem d_T_play_117 : decode M_T_play.2.1 117 = .ok (.istore 6, 2) := by decide +kernel
theorem d_T_play_119 : decode M_T_play.2.1 119 = .ok (.iload 6, 2) := by decide +kernel
theorem d_T_play_121 : decode M_T_play.2.1 121 = .ok (.ifCond .ne 26, 3) := by decide +kernel
theorem d_T_play_124 : decode M_T_play.2.1 124 = .ok (.aload_n 0, 1) := by decide +kernel
theorem d_T_play_125 : decode M_T_play.2.1 125 = .ok (.getfield 39, 3) := by decide +kernel
theorem d_T_play_128 : decode M_T_play.2.1 128 = .ok (.iload_n 1, 1) := by decide +kernel
theorem d_T_play_129 : decode M_T_play.2.1 129 = .ok (.dup2, 1) := by decide +kernel
theorem d_T_play_130 : decode M_T_play.2.1 130 = .ok (.iaload, 1) := by decide +kernel
theorem d_T_play_131 : decode M_T_play.2.1 131 = .ok (.iconst 1, 1) := by decide +kernel
theorem d_T_play_132 : decode M_T_play.2.1 132 = .ok (.iload 4, 2) := by decide +kernel
theorem d_T_play_134 : decode M_T_play.2.1 134 = .ok (.ishl, 1) := by decide +kernel
theorem d_T_play_135 : decode M_T_play.2.1 135 = .ok (.ior, 1) := by decide +kernel
theorem d_T_play_136 : decode M_T_play.2.1 136 = .ok (.iastore, 1) := by decide +kernel
theorem d_T_play_137 : decode M_T_play.2.1 137 = .ok (.aload_n 0, 1) := by decide +kernel
theorem d_T_play_138 : decode M_T_play.2.1 138 = .ok (.iload_n 1, 1) := by decide +kernel
theorem d_T_play_139 : decode M_T_play.2.1 139 = .ok (.iload 5, 2) := by decide +kernel
theorem d_T_play_141 : decode M_T_play.2.1 141 = .ok (.invokevirtual 145, 3) := by decide +kernel
theorem d_T_play_144 : decode M_T_play.2.1 144 = .ok (.goto 17, 3) := by decide +kernel
theorem d_T_play_147 : decode M_T_play.2.1 147 = .ok (.aload_n 0, 1) := by decide +kernel
theorem d_T_play_148 : decode M_T_play.2.1 148 = .ok (.iload_n 1, 1) := by decide +kernel
theorem d_T_play_149 : decode M_T_play.2.1 149 = .ok (.iload 4, 2) := by decide +kernel
theorem d_T_play_151 : decode M_T_play.2.1 151 = .ok (.iload 6, 2) := by decide +kernel
theorem d_T_play_153 : decode M_T_play.2.1 153 = .ok (.iload 5, 2) := by decide +kernel
theorem d_T_play_155 : decode M_T_play.2.1 155 = .ok (.invokestatic 148, 3) := by decide +kernel
theorem d_T_play_158 : decode M_T_play.2.1 158 = .ok (.invokevirtual 151, 3) := by decide +kernel
theorem d_T_play_161 : decode M_T_play.2.1 161 = .ok (.iinc 4 1, 3) := by decide +kernel
theorem d_T_play_164 : decode M_T_play.2.1 164 = .ok (.goto (-107), 3) := by decide +kernel
theorem d_T_play_167 : decode M_T_play.2.1 167 = .ok (.return_, 1) := by decide +kernel
theorem d_T_noteTheDead_0 : decode M_T_noteTheDead.2.1 0 = .ok (.iload_n 2, 1) := by decide +kernel
theorem d_T_noteTheDead_1 : decode M_T_noteTheDead.2.1 1 = .ok (.aload_n 0, 1) := by decide +kernel
theorem d_T_noteTheDead_2 : decode M_T_noteTheDead.2.1 2 = .ok (.getfield 63, 3) := by decide +kernel
theorem d_T_noteTheDead_5 : decode M_T_noteTheDead.2.1 5 = .ok (.iand, 1) := by decide +kernel
theorem d_T_noteTheDead_6 : decode M_T_noteTheDead.2.1 6 = .ok (.istore_n 3, 1) := by decide +kernel
theorem d_T_noteTheDead_7 : decode M_T_noteTheDead.2.1 7 = .ok (.iconst 0, 1) := by decide +kernel
theorem d_T_noteTheDead_8 : decode M_T_noteTheDead.2.1 8 = .ok (.istore 4, 2) := by decide +kernel
theorem d_T_noteTheDead_10 : decode M_T_noteTheDead.2.1 10 = .ok (.iload_n 3, 1) := by decide +kernel
theorem d_T_noteTheDead_11 : decode M_T_noteTheDead.2.1 11 = .ok (.ifCond .eq 59, 3) := by decide +kernel
theorem d_T_noteTheDead_14 : decode M_T_noteTheDead.2.1 14 = .ok (.iload 4, 2) := by decide +kernel
theorem d_T_noteTheDead_16 : decode M_T_noteTheDead.2.1 16 = .ok (.aload_n 0, 1) := by decide +kernel
theorem d_T_noteTheDead_17 : decode M_T_noteTheDead.2.1 17 = .ok (.getfield 49, 3) := by decide +kernel
theorem d_T_noteTheDead_20 : decode M_T_noteTheDead.2.1 20 = .ok (.getfield 132, 3) := by decide +kernel
theorem d_T_noteTheDead_23 : decode M_T_noteTheDead.2.1 23 = .ok (.iload_n 1, 1) := by decide +kernel
theorem d_T_noteTheDead_24 : decode M_T_noteTheDead.2.1 24 = .ok (.iaload, 1) := by decide +kernel
theorem d_T_noteTheDead_25 : decode M_T_noteTheDead.2.1 25 = .ok (.if_icmp .ge 45, 3) := by decide +kernel
theorem d_T_noteTheDead_28 : decode M_T_noteTheDead.2.1 28 = .ok (.aload_n 0, 1) := by decide +kernel
theorem d_T_noteTheDead_29 : decode M_T_noteTheDead.2.1 29 = .ok (.getfield 49, 3) := by decide +kernel
theorem d_T_noteTheDead_32 : decode M_T_noteTheDead.2.1 32 = .ok (.getfield 135, 3) := by decide +kernel
theorem d_T_noteTheDead_35 : decode M_T_noteTheDead.2.1 35 = .ok (.iload_n 1, 1) := by decide +kernel
theorem d_T_noteTheDead_36 : decode M_T_noteTheDead.2.1 36 = .ok (.bipush 6, 2) := by decide +kernel
theorem d_T_noteTheDead_38 : decode M_T_noteTheDead.2.1 38 = .ok (.imul, 1) := by decide +kernel
theorem d_T_noteTheDead_39 : decode M_T_noteTheDead.2.1 39 = .ok (.iload 4, 2) := by decide +kernel
theorem d_T_noteTheDead_41 : decode M_T_noteTheDead.2.1 41 = .ok (.iadd, 1) := by decide +kernel
theorem d_T_noteTheDead_42 : decode M_T_noteTheDead.2.1 42 = .ok (.iaload, 1) := by decide +kernel
theorem d_T_noteTheDead_43 : decode M_T_noteTheDead.2.1 43 = .ok (.istore 5, 2) := by decide +kernel
theorem d_T_noteTheDead_45 : decode M_T_noteTheDead.2.1 45 = .ok (.iload 5, 2) := by decide +kernel
theorem d_T_noteTheDead_47 : decode M_T_noteTheDead.2.1 47 = .ok (.invokestatic 155, 3) := by decide +kernel
theorem d_T_noteTheDead_50 : decode M_T_noteTheDead.2.1 50 = .ok (.iconst 4, 1) := by decide +kernel
theorem d_T_noteTheDead_51 : decode M_T_noteTheDead.2.1 51 = .ok (.if_icmp .ne 13, 3) := by decide +kernel
theorem d_T_noteTheDead_54 : decode M_T_noteTheDead.2.1 54 = .ok (.iload_n 3, 1) := by decide +kernel
theorem d_T_noteTheDead_55 : decode M_T_noteTheDead.2.1 55 = .ok (.iload 5, 2) := by decide +kernel
theorem d_T_noteTheDead_57 : decode M_T_noteTheDead.2.1 57 = .ok (.invokestatic 138, 3) := by decide +kernel
theorem d_T_noteTheDead_60 : decode M_T_noteTheDead.2.1 60 = .ok (.iconst (-1), 1) := by decide +kernel
theorem d_T_noteTheDead_61 : decode M_T_noteTheDead.2.1 61 = .ok (.ixor, 1) := by decide +kernel
theorem d_T_noteTheDead_62 : decode M_T_noteTheDead.2.1 62 = .ok (.iand, 1) := by decide +kernel
theorem d_T_noteTheDead_63 : decode M_T_noteTheDead.2.1 63 = .ok (.istore_n 3, 1) := by decide +kernel
theorem d_T_noteTheDead_64 : decode M_T_noteTheDead.2.1 64 = .ok (.iinc 4 1, 3) := by decide +kernel
theorem d_T_noteTheDead_67 : decode M_T_noteTheDead.2.1 67 = .ok (.goto (-57), 3) := by decide +kernel
theorem d_T_noteTheDead_70 : decode M_T_noteTheDead.2.1 70 = .ok (.iconst 0, 1) := by decide +kernel
theorem d_T_noteTheDead_71 : decode M_T_noteTheDead.2.1 71 = .ok (.istore 4, 2) := by decide +kernel
theorem d_T_noteTheDead_73 : decode M_T_noteTheDead.2.1 73 = .ok (.iload_n 3, 1) := by decide +kernel
theorem d_T_noteTheDead_74 : decode M_T_noteTheDead.2.1 74 = .ok (.ifCond .eq 40, 3) := by decide +kernel
theorem d_T_noteTheDead_77 : decode M_T_noteTheDead.2.1 77 = .ok (.iload 4, 2) := by decide +kernel
theorem d_T_noteTheDead_79 : decode M_T_noteTheDead.2.1 79 = .ok (.aload_n 0, 1) := by decide +kernel
theorem d_T_noteTheDead_80 : decode M_T_noteTheDead.2.1 80 = .ok (.getfield 49, 3) := by decide +kernel
theorem d_T_noteTheDead_83 : decode M_T_noteTheDead.2.1 83 = .ok (.getfield 79, 3) := by decide +kernel
theorem d_T_noteTheDead_86 : decode M_T_noteTheDead.2.1 86 = .ok (.if_icmp .ge 28, 3) := by decide +kernel
theorem d_T_noteTheDead_89 : decode M_T_noteTheDead.2.1 89 = .ok (.iload_n 3, 1) := by decide +kernel
theorem d_T_noteTheDead_90 : decode M_T_noteTheDead.2.1 90 = .ok (.iload 4, 2) := by decide +kernel
theorem d_T_noteTheDead_92 : decode M_T_noteTheDead.2.1 92 = .ok (.ishr, 1) := by decide +kernel
theorem d_T_noteTheDead_93 : decode M_T_noteTheDead.2.1 93 = .ok (.iconst 1, 1) := by decide +kernel
theorem d_T_noteTheDead_94 : decode M_T_noteTheDead.2.1 94 = .ok (.iand, 1) := by decide +kernel
theorem d_T_noteTheDead_95 : decode M_T_noteTheDead.2.1 95 = .ok (.iconst 1, 1) := by decide +kernel
theorem d_T_noteTheDead_96 : decode M_T_noteTheDead.2.1 96 = .ok (.if_icmp .ne 12, 3) := by decide +kernel
theorem d_T_noteTheDead_99 : decode M_T_noteTheDead.2.1 99 = .ok (.aload_n 0, 1) := by decide +kernel
theorem d_T_noteTheDead_100 : decode M_T_noteTheDead.2.1 100 = .ok (.iload_n 1, 1) := by decide +kernel
theorem d_T_noteTheDead_101 : decode M_T_noteTheDead.2.1 101 = .ok (.iconst (-1), 1) := by decide +kernel
theorem d_T_noteTheDead_102 : decode M_T_noteTheDead.2.1 102 = .ok (.iconst 1, 1) := by decide +kernel
theorem d_T_noteTheDead_103 : decode M_T_noteTheDead.2.1 103 = .ok (.iload 4, 2) := by decide +kernel
theorem d_T_noteTheDead_105 : decode M_T_noteTheDead.2.1 105 = .ok (.invokevirtual 151, 3) := by decide +kernel
theorem d_T_noteTheDead_108 : decode M_T_noteTheDead.2.1 108 = .ok (.iinc 4 1, 3) := by decide +kernel
theorem d_T_noteTheDead_111 : decode M_T_noteTheDead.2.1 111 = .ok (.goto (-38), 3) := by decide +kernel
theorem d_T_noteTheDead_114 : decode M_T_noteTheDead.2.1 114 = .ok (.return_, 1) := by decide +kernel
theorem d_T_note_0 : decode M_T_note.2.1 0 = .ok (.aload_n 0, 1) := by decide +kernel
theorem d_T_note_1 : decode M_T_note.2.1 1 = .ok (.getfield 60, 3) := by decide +kernel
theorem d_T_note_4 : decode M_T_note.2.1 4 = .ok (.aload_n 0, 1) := by decide +kernel
theorem d_T_note_5 : decode M_T_note.2.1 5 = .ok (.getfield 57, 3) := by decide +kernel
theorem d_T_note_8 : decode M_T_note.2.1 8 = .ok (.if_icmp .ne 32, 3) := by decide +kernel
theorem d_T_note_11 : decode M_T_note.2.1 11 = .ok (.aload_n 0, 1) := by decide +kernel
theorem d_T_note_12 : decode M_T_note.2.1 12 = .ok (.getfield 9, 3) := by decide +kernel
theorem d_T_note_15 : decode M_T_note.2.1 15 = .ok (.iconst 0, 1) := by decide +kernel
theorem d_T_note_16 : decode M_T_note.2.1 16 = .ok (.iload_n 1, 1) := by decide +kernel
theorem d_T_note_17 : decode M_T_note.2.1 17 = .ok (.iastore, 1) := by decide +kernel
theorem d_T_note_18 : decode M_T_note.2.1 18 = .ok (.aload_n 0, 1) := by decide +kernel
theorem d_T_note_19 : decode M_T_note.2.1 19 = .ok (.getfield 9, 3) := by decide +kernel
theorem d_T_note_22 : decode M_T_note.2.1 22 = .ok (.iconst 1, 1) := by decide +kernel
theorem d_T_note_23 : decode M_T_note.2.1 23 = .ok (.iload_n 2, 1) := by decide +kernel
theorem d_T_note_24 : decode M_T_note.2.1 24 = .ok (.iastore, 1) := by decide +kernel
theorem d_T_note_25 : decode M_T_note.2.1 25 = .ok (.aload_n 0, 1) := by decide +kernel
theorem d_T_note_26 : decode M_T_note.2.1 26 = .ok (.getfield 9, 3) := by decide +kernel
theorem d_T_note_29 : decode M_T_note.2.1 29 = .ok (.iconst 2, 1) := by decide +kernel
theorem d_T_note_30 : decode M_T_note.2.1 30 = .ok (.iload_n 3, 1) := by decide +kernel
theorem d_T_note_31 : decode M_T_note.2.1 31 = .ok (.iastore, 1) := by decide +kernel
theorem d_T_note_32 : decode M_T_note.2.1 32 = .ok (.aload_n 0, 1) := by decide +kernel
theorem d_T_note_33 : decode M_T_note.2.1 33 = .ok (.getfield 9, 3) := by decide +kernel
theorem d_T_note_36 : decode M_T_note.2.1 36 = .ok (.iconst 3, 1) := by decide +kernel
theorem d_T_note_37 : decode M_T_note.2.1 37 = .ok (.iload 4, 2) := by decide +kernel
theorem d_T_note_39 : decode M_T_note.2.1 39 = .ok (.iastore, 1) := by decide +kernel
theorem d_T_note_40 : decode M_T_note.2.1 40 = .ok (.aload_n 0, 1) := by decide +kernel
theorem d_T_note_41 : decode M_T_note.2.1 41 = .ok (.dup, 1) := by decide +kernel
theorem d_T_note_42 : decode M_T_note.2.1 42 = .ok (.getfield 60, 3) := by decide +kernel
theorem d_T_note_45 : decode M_T_note.2.1 45 = .ok (.iconst 1, 1) := by decide +kernel
theorem d_T_note_46 : decode M_T_note.2.1 46 = .ok (.iadd, 1) := by decide +kernel
theorem d_T_note_47 : decode M_T_note.2.1 47 = .ok (.putfield 60, 3) := by decide +kernel
theorem d_T_note_50 : decode M_T_note.2.1 50 = .ok (.return_, 1) := by decide +kernel
theorem d_T_faultOf_0 : decode M_T_faultOf.2.1 0 = .ok (.iload_n 2, 1) := by decide +kernel
theorem d_T_faultOf_1 : decode M_T_faultOf.2.1 1 = .ok (.invokestatic 155, 3) := by decide +kernel
theorem d_T_faultOf_4 : decode M_T_faultOf.2.1 4 = .ok (.istore 4, 2) := by decide +kernel
theorem d_T_faultOf_6 : decode M_T_faultOf.2.1 6 = .ok (.iload_n 2, 1) := by decide +kernel
theorem d_T_faultOf_7 : decode M_T_faultOf.2.1 7 = .ok (.invokestatic 148, 3) := by decide +kernel
theorem d_T_faultOf_10 : decode M_T_faultOf.2.1 10 = .ok (.istore 5, 2) := by decide +kernel
theorem d_T_faultOf_12 : decode M_T_faultOf.2.1 12 = .ok (.iload_n 2, 1) := by decide +kernel
theorem d_T_faultOf_13 : decode M_T_faultOf.2.1 13 = .ok (.invokestatic 138, 3) := by decide +kernel
theorem d_T_faultOf_16 : decode M_T_faultOf.2.1 16 = .ok (.istore 6, 2) := by decide +kernel
theorem d_T_faultOf_18 : decode M_T_faultOf.2.1 18 = .ok (.iload 6, 2) := by decide +kernel
theorem d_T_faultOf_20 : decode M_T_faultOf.2.1 20 = .ok (.iload_n 3, 1) := by decide +kernel
theorem d_T_faultOf_21 : decode M_T_faultOf.2.1 21 = .ok (.iconst (-1), 1) := by decide +kernel
theorem d_T_faultOf_22 : decode M_T_faultOf.2.1 22 = .ok (.ixor, 1) := by decide +kernel
theorem d_T_faultOf_23 : decode M_T_faultOf.2.1 23 = .ok (.iand, 1) := by decide +kernel
theorem d_T_faultOf_24 : decode M_T_faultOf.2.1 24 = .ok (.ifCond .eq 5, 3) := by decide +kernel
theorem d_T_faultOf_27 : decode M_T_faultOf.2.1 27 = .ok (.iconst 2, 1) := by decide +kernel
theorem d_T_faultOf_28 : decode M_T_faultOf.2.1 28 = .ok (.ireturn, 1) := by decide +kernel
theorem d_T_faultOf_29 : decode M_T_faultOf.2.1 29 = .ok (.iload 4, 2) := by decide +kernel
theorem d_T_faultOf_31 : decode M_T_faultOf.2.1 31 = .ok (.iconst 4, 1) := by decide +kernel
theorem d_T_faultOf_32 : decode M_T_faultOf.2.1 32 = .ok (.if_icmp .ne 32, 3) := by decide +kernel
theorem d_T_faultOf_35 : decode M_T_faultOf.2.1 35 = .ok (.iload 6, 2) := by decide +kernel
theorem d_T_faultOf_37 : decode M_T_faultOf.2.1 37 = .ok (.aload_n 0, 1) := by decide +kernel
theorem d_T_faultOf_38 : decode M_T_faultOf.2.1 38 = .ok (.getfield 63, 3) := by decide +kernel
theorem d_T_faultOf_41 : decode M_T_faultOf.2.1 41 = .ok (.iand, 1) := by decide +kernel
theorem d_T_faultOf_42 : decode M_T_faultOf.2.1 42 = .ok (.ifCond .ne 6, 3) := by decide +kernel
theorem d_T_faultOf_45 : decode M_T_faultOf.2.1 45 = .ok (.bipush 6, 2) := by decide +kernel
theorem d_T_faultOf_47 : decode M_T_faultOf.2.1 47 = .ok (.ireturn, 1) := by decide +kernel
theorem d_T_faultOf_48 : decode M_T_faultOf.2.1 48 = .ok (.aload_n 0, 1) := by decide +kernel
theorem d_T_faultOf_49 : decode M_T_faultOf.2.1 49 = .ok (.iload 5, 2) := by decide +kernel
theorem d_T_faultOf_51 : decode M_T_faultOf.2.1 51 = .ok (.iload_n 1, 1) := by decide +kernel
theorem d_T_faultOf_52 : decode M_T_faultOf.2.1 52 = .ok (.invokevirtual 158, 3) := by decide +kernel
theorem d_T_faultOf_55 : decode M_T_faultOf.2.1 55 = .ok (.ifCond .eq 7, 3) := by decide +kernel
theorem d_T_faultOf_58 : decode M_T_faultOf.2.1 58 = .ok (.iconst 0, 1) := by decide +kernel
theorem d_T_faultOf_59 : decode M_T_faultOf.2.1 59 = .ok (.goto 4, 3) := by decide +kernel
theorem d_T_faultOf_62 : decode M_T_faultOf.2.1 62 = .ok (.iconst 5, 1) := by decide +kernel
theorem d_T_faultOf_63 : decode M_T_faultOf.2.1 63 = .ok (.ireturn, 1) := by decide +kernel
theorem d_T_faultOf_64 : decode M_T_faultOf.2.1 64 = .ok (.iload 6, 2) := by decide +kernel
theorem d_T_faultOf_66 : decode M_T_faultOf.2.1 66 = .ok (.aload_n 0, 1) := by decide +kernel
theorem d_T_faultOf_67 : decode M_T_faultOf.2.1 67 = .ok (.getfield 63, 3) := by decide +kernel
theorem d_T_faultOf_70 : decode M_T_faultOf.2.1 70 = .ok (.iand, 1) := by decide +kernel
theorem d_T_faultOf_71 : decode M_T_faultOf.2.1 71 = .ok (.ifCond .eq 5, 3) := by decide +kernel
theorem d_T_faultOf_74 : decode M_T_faultOf.2.1 74 = .ok (.iconst 1, 1) := by decide +kernel
theorem d_T_faultOf_75 : decode M_T_faultOf.2.1 75 = .ok (.ireturn, 1) := by decide +kernel
theorem d_T_faultOf_76 : decode M_T_faultOf.2.1 76 = .ok (.iload_n 2, 1) := by decide +kernel
theorem d_T_faultOf_77 : decode M_T_faultOf.2.1 77 = .ok (.invokestatic 162, 3) := by decide +kernel
theorem d_T_faultOf_80 : decode M_T_faultOf.2.1 80 = .ok (.istore 7, 2) := by decide +kernel
theorem d_T_faultOf_82 : decode M_T_faultOf.2.1 82 = .ok (.iload 4, 2) := by decide +kernel
theorem d_T_faultOf_84 : decode M_T_faultOf.2.1 84 = .ok (.iconst 1, 1) := by decide +kernel
theorem d_T_faultOf_85 : decode M_T_faultOf.2.1 85 = .ok (.if_icmp .eq 9, 3) := by decide +kernel
theorem d_T_faultOf_88 : decode M_T_faultOf.2.1 88 = .ok (.iload 4, 2) := by decide +kernel
theorem d_T_faultOf_90 : decode M_T_faultOf.2.1 90 = .ok (.iconst 2, 1) := by decide +kernel
theorem d_T_faultOf_91 : decode M_T_faultOf.2.1 91 = .ok (.if_icmp .ne 16, 3) := by decide +kernel
theorem d_T_faultOf_94 : decode M_T_faultOf.2.1 94 = .ok (.aload_n 0, 1) := by decide +kernel
theorem d_T_faultOf_95 : decode M_T_faultOf.2.1 95 = .ok (.iload 5, 2) := by decide +kernel
theorem d_T_faultOf_97 : decode M_T_faultOf.2.1 97 = .ok (.iload 7, 2) := by decide +kernel
theorem d_T_faultOf_99 : decode M_T_faultOf.2.1 99 = .ok (.invokevirtual 165, 3) := by decide +kernel
theorem d_T_faultOf_102 : decode M_T_faultOf.2.1 102 = .ok (.ifCond .ne 5, 3) := by decide +kernel
theorem d_T_faultOf_105 : decode M_T_faultOf.2.1 105 = .ok (.iconst 3, 1) := by decide +kernel
theorem d_T_faultOf_106 : decode M_T_faultOf.2.1 106 = .ok (.ireturn, 1) := by decide +kernel
theorem d_T_faultOf_107 : decode M_T_faultOf.2.1 107 = .ok (.iload 4, 2) := by decide +kernel
theorem d_T_faultOf_109 : decode M_T_faultOf.2.1 109 = .ok (.ifCond .ne 14, 3) := by decide +kernel
theorem d_T_faultOf_112 : decode M_T_faultOf.2.1 112 = .ok (.aload_n 0, 1) := by decide +kernel
theorem d_T_faultOf_113 : decode M_T_faultOf.2.1 113 = .ok (.iload 5, 2) := by decide +kernel
theorem d_T_faultOf_115 : decode M_T_faultOf.2.1 115 = .ok (.iload 7, 2) := by decide +kernel
theorem d_T_faultOf_117 : decode M_T_faultOf.2.1 117 = .ok (.invokevirtual 165, 3) := by decide +kernel
theorem d_T_faultOf_120 : decode M_T_faultOf.2.1 120 = .ok (.ifCond .ne 22, 3) := by decide +kernel
theorem d_T_faultOf_123 : decode M_T_faultOf.2.1 123 = .ok (.iload 4, 2) := by decide +kernel
theorem d_T_faultOf_125 : decode M_T_faultOf.2.1 125 = .ok (.iconst 1, 1) := by decide +kernel
theorem d_T_faultOf_126 : decode M_T_faultOf.2.1 126 = .ok (.if_icmp .ne 20, 3) := by decide +kernel
theorem d_T_faultOf_129 : decode M_T_faultOf.2.1 129 = .ok (.aload_n 0, 1) := by decide +kernel
theorem d_T_faultOf_130 : decode M_T_faultOf.2.1 130 = .ok (.iload_n 2, 1) := by decide +kernel
theorem d_T_faultOf_131 : decode M_T_faultOf.2.1 131 = .ok (.invokestatic 168, 3) := by decide +kernel
theorem d_T_faultOf_134 : decode M_T_faultOf.2.1 134 = .ok (.iload 7, 2) := by decide +kernel
theorem d_T_faultOf_136 : decode M_T_faultOf.2.1 136 = .ok (.invokevirtual 165, 3) := by decide +kernel
theorem d_T_faultOf_139 : decode M_T_faultOf.2.1 139 = .ok (.ifCond .eq 7, 3) := by decide +kernel
theorem d_T_faultOf_142 : decode M_T_faultOf.2.1 142 = .ok (.iconst 1, 1) := by decide +kernel
theorem d_T_faultOf_143 : decode M_T_faultOf.2.1 143 = .ok (.goto 4, 3) := by decide +kernel
theorem d_T_faultOf_146 : decode M_T_faultOf.2.1 146 = .ok (.iconst 0, 1) := by decide +kernel
theorem d_T_faultOf_147 : decode M_T_faultOf.2.1 147 = .ok (.istore 8, 2) := by decide +kernel
theorem d_T_faultOf_149 : decode M_T_faultOf.2.1 149 = .ok (.iload 8, 2) := by decide +kernel
theorem d_T_faultOf_151 : decode M_T_faultOf.2.1 151 = .ok (.ifCond .eq 7, 3) := by decide +kernel
theorem d_T_faultOf_154 : decode M_T_faultOf.2.1 154 = .ok (.iconst 4, 1) := by decide +kernel
theorem d_T_faultOf_155 : decode M_T_faultOf.2.1 155 = .ok (.goto 4, 3) := by decide +kernel
theorem d_T_faultOf_158 : decode M_T_faultOf.2.1 158 = .ok (.iconst 0, 1) := by decide +kernel
theorem d_T_faultOf_159 : decode M_T_faultOf.2.1 159 = .ok (.ireturn, 1) := by decide +kernel
theorem d_T_ruleLets_0 : decode M_T_ruleLets.2.1 0 = .ok (.aload_n 0, 1) := by decide +kernel
theorem d_T_ruleLets_1 : decode M_T_ruleLets.2.1 1 = .ok (.getfield 49, 3) := by decide +kernel
theorem d_T_ruleLets_4 : decode M_T_ruleLets.2.1 4 = .ok (.getfield 175, 3) := by decide +kernel
theorem d_T_ruleLets_7 : decode M_T_ruleLets.2.1 7 = .ok (.astore_n 3, 1) := by decide +kernel
theorem d_T_ruleLets_8 : decode M_T_ruleLets.2.1 8 = .ok (.iconst 0, 1) := by decide +kernel
theorem d_T_ruleLets_9 : decode M_T_ruleLets.2.1 9 = .ok (.istore 4, 2) := by decide +kernel
theorem d_T_ruleLets_11 : decode M_T_ruleLets.2.1 11 = .ok (.iload_n 1, 1) := by decide +kernel
theorem d_T_ruleLets_12 : decode M_T_ruleLets.2.1 12 = .ok (.bipush 64, 2) := by decide +kernel
theorem d_T_ruleLets_14 : decode M_T_ruleLets.2.1 14 = .ok (.imul, 1) := by decide +kernel
theorem d_T_ruleLets_15 : decode M_T_ruleLets.2.1 15 = .ok (.istore 5, 2) := by decide +kernel
theorem d_T_ruleLets_17 : decode M_T_ruleLets.2.1 17 = .ok (.aload_n 0, 1) := by decide +kernel
theorem d_T_ruleLets_18 : decode M_T_ruleLets.2.1 18 = .ok (.getfield 49, 3) := by decide +kernel
theorem d_T_ruleLets_21 : decode M_T_ruleLets.2.1 21 = .ok (.getfield 179, 3) := by decide +kernel
theorem d_T_ruleLets_24 : decode M_T_ruleLets.2.1 24 = .ok (.iload_n 1, 1) := by decide +kernel
theorem d_T_ruleLets_25 : decode M_T_ruleLets.2.1 25 = .ok (.iaload, 1) := by decide +kernel
theorem d_T_ruleLets_26 : decode M_T_ruleLets.2.1 26 = .ok (.istore 6, 2) := by decide +kernel
theorem d_T_ruleLets_28 : decode M_T_ruleLets.2.1 28 = .ok (.iload 6, 2) := by decide +kernel
theorem d_T_ruleLets_30 : decode M_T_ruleLets.2.1 30 = .ok (.ifCond .le 243, 3) := by decide +kernel
theorem d_T_ruleLets_33 : decode M_T_ruleLets.2.1 33 = .ok (.aload_n 3, 1) := by decide +kernel
theorem d_T_ruleLets_34 : decode M_T_ruleLets.2.1 34 = .ok (.iload 5, 2) := by decide +kernel
theorem d_T_ruleLets_36 : decode M_T_ruleLets.2.1 36 = .ok (.baload, 1) := by decide +kernel
theorem d_T_ruleLets_37 : decode M_T_ruleLets.2.1 37 = .ok (.istore 7, 2) := by decide +kernel
theorem d_T_ruleLets_39 : decode M_T_ruleLets.2.1 39 = .ok (.iconst 0, 1) := by decide +kernel
theorem d_T_ruleLets_40 : decode M_T_ruleLets.2.1 40 = .ok (.istore 8, 2) := by decide +kernel
theorem d_T_ruleLets_42 : decode M_T_ruleLets.2.1 42 = .ok (.iload 7, 2) := by decide +kernel
theorem d_T_ruleLets_44 : decode M_T_ruleLets.2.1 44 = .ok (.tableswitch 176 1 6 #[40, 61, 88, 121, 141, 159], 40) := by decide +kernel
theorem d_T_ruleLets_84 : decode M_T_ruleLets.2.1 84 = .ok (.aload_n 0, 1) := by decide +kernel
theorem d_T_ruleLets_85 : decode M_T_ruleLets.2.1 85 = .ok (.aload_n 3, 1) := by decide +kernel
theorem d_T_ruleLets_86 : decode M_T_ruleLets.2.1 86 = .ok (.iload 5, 2) := by decide +kernel
theorem d_T_ruleLets_88 : decode M_T_ruleLets.2.1 88 = .ok (.iconst 1, 1) := by decide +kernel
theorem d_T_ruleLets_89 : decode M_T_ruleLets.2.1 89 = .ok (.iadd, 1) := by decide +kernel
theorem d_T_ruleLets_90 : decode M_T_ruleLets.2.1 90 = .ok (.baload, 1) := by decide +kernel
theorem d_T_ruleLets_91 : decode M_T_ruleLets.2.1 91 = .ok (.aload_n 3, 1) := by decide +kernel
theorem d_T_ruleLets_92 : decode M_T_ruleLets.2.1 92 = .ok (.iload 5, 2) := by decide +kernel
theorem d_T_ruleLets_94 : decode M_T_ruleLets.2.1 94 = .ok (.iconst 2, 1) := by decide +kernel
theorem d_T_ruleLets_95 : decode M_T_ruleLets.2.1 95 = .ok (.iadd, 1) := by decide +kernel
theorem d_T_ruleLets_96 : decode M_T_ruleLets.2.1 96 = .ok (.baload, 1) := by decide +kernel
theorem d_T_ruleLets_97 : decode M_T_ruleLets.2.1 97 = .ok (.invokevirtual 165, 3) := by decide +kernel
theorem d_T_ruleLets_100 : decode M_T_ruleLets.2.1 100 = .ok (.istore 8, 2) := by decide +kernel
theorem d_T_ruleLets_102 : decode M_T_ruleLets.2.1 102 = .ok (.goto 132, 3) := by decide +kernel
theorem d_T_ruleLets_105 : decode M_T_ruleLets.2.1 105 = .ok (.aload_n 0, 1) := by decide +kernel
theorem d_T_ruleLets_106 : decode M_T_ruleLets.2.1 106 = .ok (.getfield 63, 3) := by decide +kernel
theorem d_T_ruleLets_109 : decode M_T_ruleLets.2.1 109 = .ok (.aload_n 3, 1) := by decide +kernel
theorem d_T_ruleLets_110 : decode M_T_ruleLets.2.1 110 = .ok (.iload 5, 2) := by decide +kernel
theorem d_T_ruleLets_112 : decode M_T_ruleLets.2.1 112 = .ok (.iconst 1, 1) := by decide +kernel
theorem d_T_ruleLets_113 : decode M_T_ruleLets.2.1 113 = .ok (.iadd, 1) := by decide +kernel
theorem d_T_ruleLets_114 : decode M_T_ruleLets.2.1 114 = .ok (.baload, 1) := by decide +kernel
theorem d_T_ruleLets_115 : decode M_T_ruleLets.2.1 115 = .ok (.ishr, 1) := by decide +kernel
theorem d_T_ruleLets_116 : decode M_T_ruleLets.2.1 116 = .ok (.iconst 1, 1) := by decide +kernel
theorem d_T_ruleLets_117 : decode M_T_ruleLets.2.1 117 = .ok (.iand, 1) := by decide +kernel
theorem d_T_ruleLets_118 : decode M_T_ruleLets.2.1 118 = .ok (.iconst 1, 1) := by decide +kernel
theorem d_T_ruleLets_119 : decode M_T_ruleLets.2.1 119 = .ok (.if_icmp .ne 7, 3) := by decide +kernel
theorem d_T_ruleLets_122 : decode M_T_ruleLets.2.1 122 = .ok (.iconst 1, 1) := by decide +kernel
theorem d_T_ruleLets_123 : decode M_T_ruleLets.2.1 123 = .ok (.goto 4, 3) := by decide +kernel
theorem d_T_ruleLets_126 : decode M_T_ruleLets.2.1 126 = .ok (.iconst 0, 1) := by decide +kernel
theorem d_T_ruleLets_127 : decode M_T_ruleLets.2.1 127 = .ok (.istore 8, 2) := by decide +kernel
theorem d_T_ruleLets_129 : decode M_T_ruleLets.2.1 129 = .ok (.goto 105, 3) := by decide +kernel
theorem d_T_ruleLets_132 : decode M_T_ruleLets.2.1 132 = .ok (.aload_n 0, 1) := by decide +kernel
theorem d_T_ruleLets_133 : decode M_T_ruleLets.2.1 133 = .ok (.getfield 45, 3) := by decide +kernel
theorem d_T_ruleLets_136 : decode M_T_ruleLets.2.1 136 = .ok (.aload_n 3, 1) := by decide +kernel
theorem d_T_ruleLets_137 : decode M_T_ruleLets.2.1 137 = .ok (.iload 5, 2) := by decide +kernel
theorem d_T_ruleLets_139 : decode M_T_ruleLets.2.1 139 = .ok (.iconst 1, 1) := by decide +kernel
theorem d_T_ruleLets_140 : decode M_T_ruleLets.2.1 140 = .ok (.iadd, 1) := by decide +kernel
theorem d_T_ruleLets_141 : decode M_T_ruleLets.2.1 141 = .ok (.baload, 1) := by decide +kernel
theorem d_T_ruleLets_142 : decode M_T_ruleLets.2.1 142 = .ok (.iload_n 2, 1) := by decide +kernel
theorem d_T_ruleLets_143 : decode M_T_ruleLets.2.1 143 = .ok (.invokevirtual 182, 3) := by decide +kernel
theorem d_T_ruleLets_146 : decode M_T_ruleLets.2.1 146 = .ok (.aload_n 3, 1) := by decide +kernel
theorem d_T_ruleLets_147 : decode M_T_ruleLets.2.1 147 = .ok (.iload 5, 2) := by decide +kernel
theorem d_T_ruleLets_149 : decode M_T_ruleLets.2.1 149 = .ok (.iconst 2, 1) := by decide +kernel
theorem d_T_ruleLets_150 : decode M_T_ruleLets.2.1 150 = .ok (.iadd, 1) := by decide +kernel
theorem d_T_ruleLets_151 : decode M_T_ruleLets.2.1 151 = .ok (.baload, 1) := by decide +kernel
theorem d_T_ruleLets_152 : decode M_T_ruleLets.2.1 152 = .ok (.if_icmp .lt 7, 3) := by decide +kernel
theorem d_T_ruleLets_155 : decode M_T_ruleLets.2.1 155 = .ok (.iconst 1, 1) := by decide +kernel
theorem d_T_ruleLets_156 : decode M_T_ruleLets.2.1 156 = .ok (.goto 4, 3) := by decide +kernel
theorem d_T_ruleLets_159 : decode M_T_ruleLets.2.1 159 = .ok (.iconst 0, 1) := by decide +kernel
theorem d_T_ruleLets_160 : decode M_T_ruleLets.2.1 160 = .ok (.istore 8, 2) := by decide +kernel
theorem d_T_ruleLets_162 : decode M_T_ruleLets.2.1 162 = .ok (.goto 72, 3) := by decide +kernel
theorem d_T_ruleLets_165 : decode M_T_ruleLets.2.1 165 = .ok (.iload_n 2, 1) := by decide +kernel
theorem d_T_ruleLets_166 : decode M_T_ruleLets.2.1 166 = .ok (.aload_n 3, 1) := by decide +kernel
theorem d_T_ruleLets_167 : decode M_T_ruleLets.2.1 167 = .ok (.iload 5, 2) := by decide +kernel
theorem d_T_ruleLets_169 : decode M_T_ruleLets.2.1 169 = .ok (.iconst 1, 1) := by decide +kernel
theorem d_T_ruleLets_170 : decode M_T_ruleLets.2.1 170 = .ok (.iadd, 1) := by decide +kernel
theorem d_T_ruleLets_171 : decode M_T_ruleLets.2.1 171 = .ok (.baload, 1) := by decide +kernel
theorem d_T_ruleLets_172 : decode M_T_ruleLets.2.1 172 = .ok (.if_icmp .lt 7, 3) := by decide +kernel
theorem d_T_ruleLets_175 : decode M_T_ruleLets.2.1 175 = .ok (.iconst 1, 1) := by decide +kernel
theorem d_T_ruleLets_176 : decode M_T_ruleLets.2.1 176 = .ok (.goto 4, 3) := by decide +kernel
theorem d_T_ruleLets_179 : decode M_T_ruleLets.2.1 179 = .ok (.iconst 0, 1) := by decide +kernel
theorem d_T_ruleLets_180 : decode M_T_ruleLets.2.1 180 = .ok (.istore 8, 2) := by decide +kernel
theorem d_T_ruleLets_182 : decode M_T_ruleLets.2.1 182 = .ok (.goto 52, 3) := by decide +kernel
theorem d_T_ruleLets_185 : decode M_T_ruleLets.2.1 185 = .ok (.iload 4, 2) := by decide +kernel
theorem d_T_ruleLets_187 : decode M_T_ruleLets.2.1 187 = .ok (.iconst 3, 1) := by decide +kernel
theorem d_T_ruleLets_188 : decode M_T_ruleLets.2.1 188 = .ok (.iand, 1) := by decide +kernel
theorem d_T_ruleLets_189 : decode M_T_ruleLets.2.1 189 = .ok (.iconst 3, 1) := by decide +kernel
theorem d_T_ruleLets_190 : decode M_T_ruleLets.2.1 190 = .ok (.if_icmp .ne 7, 3) := by decide +kernel
theorem d_T_ruleLets_193 : decode M_T_ruleLets.2.1 193 = .ok (.iconst 1, 1) := by decide +kernel
theorem d_T_ruleLets_194 : decode M_T_ruleLets.2.1 194 = .ok (.goto 4, 3) := by decide +kernel
theorem d_T_ruleLets_197 : decode M_T_ruleLets.2.1 197 = .ok (.iconst 0, 1) := by decide +kernel
theorem d_T_ruleLets_198 : decode M_T_ruleLets.2.1 198 = .ok (.istore 8, 2) := by decide +kernel
theorem d_T_ruleLets_200 : decode M_T_ruleLets.2.1 200 = .ok (.goto 34, 3) := by decide +kernel
theorem d_T_ruleLets_203 : decode M_T_ruleLets.2.1 203 = .ok (.iload 4, 2) := by decide +kernel
theorem d_T_ruleLets_205 : decode M_T_ruleLets.2.1 205 = .ok (.iconst 3, 1) := by decide +kernel
theorem d_T_ruleLets_206 : decode M_T_ruleLets.2.1 206 = .ok (.iand, 1) := by decide +kernel
theorem d_T_ruleLets_207 : decode M_T_ruleLets.2.1 207 = .ok (.ifCond .eq 7, 3) := by decide +kernel
theorem d_T_ruleLets_210 : decode M_T_ruleLets.2.1 210 = .ok (.iconst 1, 1) := by decide +kernel
theorem d_T_ruleLets_211 : decode M_T_ruleLets.2.1 211 = .ok (.goto 4, 3) := by decide +kernel
theorem d_T_ruleLets_214 : decode M_T_ruleLets.2.1 214 = .ok (.iconst 0, 1) := by decide +kernel
theorem d_T_ruleLets_215 : decode M_T_ruleLets.2.1 215 = .ok (.istore 8, 2) := by decide +kernel
theorem d_T_ruleLets_217 : decode M_T_ruleLets.2.1 217 = .ok (.goto 17, 3) := by decide +kernel
theorem d_T_ruleLets_220 : decode M_T_ruleLets.2.1 220 = .ok (.iload 4, 2) := by decide +kernel
theorem d_T_ruleLets_222 : decode M_T_ruleLets.2.1 222 = .ok (.iconst 1, 1) := by decide +kernel
theorem d_T_ruleLets_223 : decode M_T_ruleLets.2.1 223 = .ok (.iand, 1) := by decide +kernel
theorem d_T_ruleLets_224 : decode M_T_ruleLets.2.1 224 = .ok (.ifCond .ne 7, 3) := by decide +kernel
theorem d_T_ruleLets_227 : decode M_T_ruleLets.2.1 227 = .ok (.iconst 1, 1) := by decide +kernel
theorem d_T_ruleLets_228 : decode M_T_ruleLets.2.1 228 = .ok (.goto 4, 3) := by decide +kernel
theorem d_T_ruleLets_231 : decode M_T_ruleLets.2.1 231 = .ok (.iconst 0, 1) := by decide +kernel
theorem d_T_ruleLets_232 : decode M_T_ruleLets.2.1 232 = .ok (.istore 8, 2) := by decide +kernel
theorem d_T_ruleLets_234 : decode M_T_ruleLets.2.1 234 = .ok (.iload 4, 2) := by decide +kernel
theorem d_T_ruleLets_236 : decode M_T_ruleLets.2.1 236 = .ok (.iload 7, 2) := by decide +kernel
theorem d_T_ruleLets_238 : decode M_T_ruleLets.2.1 238 = .ok (.invokestatic 188, 3) := by decide +kernel
theorem d_T_ruleLets_241 : decode M_T_ruleLets.2.1 241 = .ok (.ishr, 1) := by decide +kernel
theorem d_T_ruleLets_242 : decode M_T_ruleLets.2.1 242 = .ok (.iconst 1, 1) := by decide +kernel
theorem d_T_ruleLets_243 : decode M_T_ruleLets.2.1 243 = .ok (.ishl, 1) := by decide +kernel
theorem d_T_ruleLets_244 : decode M_T_ruleLets.2.1 244 = .ok (.iload 8, 2) := by decide +kernel
theorem d_T_ruleLets_246 : decode M_T_ruleLets.2.1 246 = .ok (.ifCond .eq 7, 3) := by decide +kernel
theorem d_T_ruleLets_249 : decode M_T_ruleLets.2.1 249 = .ok (.iconst 1, 1) := by decide +kernel
theorem d_T_ruleLets_250 : decode M_T_ruleLets.2.1 250 = .ok (.goto 4, 3) := by decide +kernel
theorem d_T_ruleLets_253 : decode M_T_ruleLets.2.1 253 = .ok (.iconst 0, 1) := by decide +kernel
theorem d_T_ruleLets_254 : decode M_T_ruleLets.2.1 254 = .ok (.ior, 1) := by decide +kernel
theorem d_T_ruleLets_255 : decode M_T_ruleLets.2.1 255 = .ok (.istore 4, 2) := by decide +kernel
theorem d_T_ruleLets_257 : decode M_T_ruleLets.2.1 257 = .ok (.iload 5, 2) := by decide +kernel
theorem d_T_ruleLets_259 : decode M_T_ruleLets.2.1 259 = .ok (.iload 7, 2) := by decide +kernel
theorem d_T_ruleLets_261 : decode M_T_ruleLets.2.1 261 = .ok (.invokestatic 193, 3) := by decide +kernel
theorem d_T_ruleLets_264 : decode M_T_ruleLets.2.1 264 = .ok (.iadd, 1) := by decide +kernel
theorem d_T_ruleLets_265 : decode M_T_ruleLets.2.1 265 = .ok (.istore 5, 2) := by decide +kernel
theorem d_T_ruleLets_267 : decode M_T_ruleLets.2.1 267 = .ok (.iinc 6 (-1), 3) := by decide +kernel
theorem d_T_ruleLets_270 : decode M_T_ruleLets.2.1 270 = .ok (.goto (-242), 3) := by decide +kernel
theorem d_T_ruleLets_273 : decode M_T_ruleLets.2.1 273 = .ok (.iload 4, 2) := by decide +kernel
theorem d_T_ruleLets_275 : decode M_T_ruleLets.2.1 275 = .ok (.iconst 1, 1) := by decide +kernel
theorem d_T_ruleLets_276 : decode M_T_ruleLets.2.1 276 = .ok (.iand, 1) := by decide +kernel
theorem d_T_ruleLets_277 : decode M_T_ruleLets.2.1 277 = .ok (.iconst 1, 1) := by decide +kernel
theorem d_T_ruleLets_278 : decode M_T_ruleLets.2.1 278 = .ok (.if_icmp .ne 7, 3) := by decide +kernel
theorem d_T_ruleLets_281 : decode M_T_ruleLets.2.1 281 = .ok (.iconst 1, 1) := by decide +kernel
theorem d_T_ruleLets_282 : decode M_T_ruleLets.2.1 282 = .ok (.goto 4, 3) := by decide +kernel
theorem d_T_ruleLets_285 : decode M_T_ruleLets.2.1 285 = .ok (.iconst 0, 1) := by decide +kernel
theorem d_T_ruleLets_286 : decode M_T_ruleLets.2.1 286 = .ok (.ireturn, 1) := by decide +kernel
theorem d_T_isKnown_0 : decode M_T_isKnown.2.1 0 = .ok (.aload_n 0, 1) := by decide +kernel
theorem d_T_isKnown_1 : decode M_T_isKnown.2.1 1 = .ok (.getfield 21, 3) := by decide +kernel
theorem d_T_isKnown_4 : decode M_T_isKnown.2.1 4 = .ok (.iload_n 1, 1) := by decide +kernel
theorem d_T_isKnown_5 : decode M_T_isKnown.2.1 5 = .ok (.iaload, 1) := by decide +kernel
theorem d_T_isKnown_6 : decode M_T_isKnown.2.1 6 = .ok (.iload_n 2, 1) := by decide +kernel
theorem d_T_isKnown_7 : decode M_T_isKnown.2.1 7 = .ok (.ishr, 1) := by decide +kernel
theorem d_T_isKnown_8 : decode M_T_isKnown.2.1 8 = .ok (.iconst 1, 1) := by decide +kernel
theorem d_T_isKnown_9 : decode M_T_isKnown.2.1 9 = .ok (.iand, 1) := by decide +kernel
theorem d_T_isKnown_10 : decode M_T_isKnown.2.1 10 = .ok (.iconst 1, 1) := by decide +kernel
theorem d_T_isKnown_11 : decode M_T_isKnown.2.1 11 = .ok (.if_icmp .ne 7, 3) := by decide +kernel
theorem d_T_isKnown_14 : decode M_T_isKnown.2.1 14 = .ok (.iconst 1, 1) := by decide +kernel
theorem d_T_isKnown_15 : decode M_T_isKnown.2.1 15 = .ok (.goto 4, 3) := by decide +kernel
theorem d_T_isKnown_18 : decode M_T_isKnown.2.1 18 = .ok (.iconst 0, 1) := by decide +kernel
theorem d_T_isKnown_19 : decode M_T_isKnown.2.1 19 = .ok (.ireturn, 1) := by decide +kernel
theorem d_T_perform_0 : decode M_T_perform.2.1 0 = .ok (.iload_n 2, 1) := by decide +kernel
theorem d_T_perform_1 : decode M_T_perform.2.1 1 = .ok (.invokestatic 148, 3) := by decide +kernel
theorem d_T_perform_4 : decode M_T_perform.2.1 4 = .ok (.istore_n 3, 1) := by decide +kernel
theorem d_T_perform_5 : decode M_T_perform.2.1 5 = .ok (.iload_n 2, 1) := by decide +kernel
theorem d_T_perform_6 : decode M_T_perform.2.1 6 = .ok (.invokestatic 162, 3) := by decide +kernel
theorem d_T_perform_9 : decode M_T_perform.2.1 9 = .ok (.istore 4, 2) := by decide +kernel
theorem d_T_perform_11 : decode M_T_perform.2.1 11 = .ok (.iload_n 2, 1) := by decide +kernel
theorem d_T_perform_12 : decode M_T_perform.2.1 12 = .ok (.invokestatic 155, 3) := by decide +kernel
theorem d_T_perform_15 : decode M_T_perform.2.1 15 = .ok (.tableswitch 125 0 5 #[37, 51, 125, 80, 95, 112], 37) := by decide +kernel
theorem d_T_perform_52 : decode M_T_perform.2.1 52 = .ok (.aload_n 0, 1) := by decide +kernel
theorem d_T_perform_53 : decode M_T_perform.2.1 53 = .ok (.iload_n 3, 1) := by decide +kernel
theorem d_T_perform_54 : decode M_T_perform.2.1 54 = .ok (.iload 4, 2) := by decide +kernel
theorem d_T_perform_56 : decode M_T_perform.2.1 56 = .ok (.iload_n 1, 1) := by decide +kernel
theorem d_T_perform_57 : decode M_T_perform.2.1 57 = .ok (.bipush (-2), 2) := by decide +kernel
theorem d_T_perform_59 : decode M_T_perform.2.1 59 = .ok (.iconst 0, 1) := by decide +kernel
theorem d_T_perform_60 : decode M_T_perform.2.1 60 = .ok (.invokevirtual 171, 3) := by decide +kernel
theorem d_T_perform_63 : decode M_T_perform.2.1 63 = .ok (.goto 77, 3) := by decide +kernel
theorem d_T_perform_66 : decode M_T_perform.2.1 66 = .ok (.aload_n 0, 1) := by decide +kernel
theorem d_T_perform_67 : decode M_T_perform.2.1 67 = .ok (.iload_n 2, 1) := by decide +kernel
theorem d_T_perform_68 : decode M_T_perform.2.1 68 = .ok (.invokestatic 168, 3) := by decide +kernel
theorem d_T_perform_71 : decode M_T_perform.2.1 71 = .ok (.iload 4, 2) := by decide +kernel
theorem d_T_perform_73 : decode M_T_perform.2.1 73 = .ok (.iload_n 1, 1) := by decide +kernel
theorem d_T_perform_74 : decode M_T_perform.2.1 74 = .ok (.iload_n 3, 1) := by decide +kernel
theorem d_T_perform_75 : decode M_T_perform.2.1 75 = .ok (.aload_n 0, 1) := by decide +kernel
theorem d_T_perform_76 : decode M_T_perform.2.1 76 = .ok (.getfield 33, 3) := by decide +kernel
theorem d_T_perform_79 : decode M_T_perform.2.1 79 = .ok (.iload_n 3, 1) := by decide +kernel
theorem d_T_perform_80 : decode M_T_perform.2.1 80 = .ok (.bipush 24, 2) := by decide +kernel
theorem d_T_perform_82 : decode M_T_perform.2.1 82 = .ok (.imul, 1) := by decide +kernel
theorem d_T_perform_83 : decode M_T_perform.2.1 83 = .ok (.iload 4, 2) := by decide +kernel
theorem d_T_perform_85 : decode M_T_perform.2.1 85 = .ok (.iadd, 1) := by decide +kernel
theorem d_T_perform_86 : decode M_T_perform.2.1 86 = .ok (.iaload, 1) := by decide +kernel
theorem d_T_perform_87 : decode M_T_perform.2.1 87 = .ok (.iconst 1, 1) := by decide +kernel
theorem d_T_perform_88 : decode M_T_perform.2.1 88 = .ok (.iadd, 1) := by decide +kernel
theorem d_T_perform_89 : decode M_T_perform.2.1 89 = .ok (.invokevirtual 171, 3) := by decide +kernel
theorem d_T_perform_92 : decode M_T_perform.2.1 92 = .ok (.goto 48, 3) := by decide +kernel
theorem d_T_perform_95 : decode M_T_perform.2.1 95 = .ok (.aload_n 0, 1) := by decide +kernel
theorem d_T_perform_96 : decode M_T_perform.2.1 96 = .ok (.dup, 1) := by decide +kernel
theorem d_T_perform_97 : decode M_T_perform.2.1 97 = .ok (.getfield 63, 3) := by decide +kernel
theorem d_T_perform_100 : decode M_T_perform.2.1 100 = .ok (.iconst 1, 1) := by decide +kernel
theorem d_T_perform_101 : decode M_T_perform.2.1 101 = .ok (.iload_n 3, 1) := by decide +kernel
theorem d_T_perform_102 : decode M_T_perform.2.1 102 = .ok (.ishl, 1) := by decide +kernel
theorem d_T_perform_103 : decode M_T_perform.2.1 103 = .ok (.ior, 1) := by decide +kernel
theorem d_T_perform_104 : decode M_T_perform.2.1 104 = .ok (.putfield 63, 3) := by decide +kernel
theorem d_T_perform_107 : decode M_T_perform.2.1 107 = .ok (.goto 33, 3) := by decide +kernel
theorem d_T_perform_110 : decode M_T_perform.2.1 110 = .ok (.aload_n 0, 1) := by decide +kernel
theorem d_T_perform_111 : decode M_T_perform.2.1 111 = .ok (.dup, 1) := by decide +kernel
theorem d_T_perform_112 : decode M_T_perform.2.1 112 = .ok (.getfield 63, 3) := by decide +kernel
theorem d_T_perform_115 : decode M_T_perform.2.1 115 = .ok (.iconst 1, 1) := by decide +kernel
theorem d_T_perform_116 : decode M_T_perform.2.1 116 = .ok (.iload_n 3, 1) := by decide +kernel
theorem d_T_perform_117 : decode M_T_perform.2.1 117 = .ok (.ishl, 1) := by decide +kernel
theorem d_T_perform_118 : decode M_T_perform.2.1 118 = .ok (.iconst (-1), 1) := by decide +kernel
theorem d_T_perform_119 : decode M_T_perform.2.1 119 = .ok (.ixor, 1) := by decide +kernel
theorem d_T_perform_120 : decode M_T_perform.2.1 120 = .ok (.iand, 1) := by decide +kernel
theorem d_T_perform_121 : decode M_T_perform.2.1 121 = .ok (.putfield 63, 3) := by decide +kernel
theorem d_T_perform_124 : decode M_T_perform.2.1 124 = .ok (.goto 16, 3) := by decide +kernel
theorem d_T_perform_127 : decode M_T_perform.2.1 127 = .ok (.aload_n 0, 1) := by decide +kernel
theorem d_T_perform_128 : decode M_T_perform.2.1 128 = .ok (.getfield 24, 3) := by decide +kernel
theorem d_T_perform_131 : decode M_T_perform.2.1 131 = .ok (.iload_n 3, 1) := by decide +kernel
theorem d_T_perform_132 : decode M_T_perform.2.1 132 = .ok (.dup2, 1) := by decide +kernel
theorem d_T_perform_133 : decode M_T_perform.2.1 133 = .ok (.iaload, 1) := by decide +kernel
theorem d_T_perform_134 : decode M_T_perform.2.1 134 = .ok (.iconst 1, 1) := by decide +kernel
theorem d_T_perform_135 : decode M_T_perform.2.1 135 = .ok (.iadd, 1) := by decide +kernel
theorem d_T_perform_136 : decode M_T_perform.2.1 136 = .ok (.iastore, 1) := by decide +kernel
theorem d_T_perform_137 : decode M_T_perform.2.1 137 = .ok (.goto 3, 3) := by decide +kernel
theorem d_T_perform_140 : decode M_T_perform.2.1 140 = .ok (.iload 4, 2) := by decide +kernel
theorem d_T_perform_142 : decode M_T_perform.2.1 142 = .ok (.ifCond .lt 23, 3) := by decide +kernel
theorem d_T_perform_145 : decode M_T_perform.2.1 145 = .ok (.aload_n 0, 1) := by decide +kernel
theorem d_T_perform_146 : decode M_T_perform.2.1 146 = .ok (.getfield 36, 3) := by decide +kernel
theorem d_T_perform_149 : decode M_T_perform.2.1 149 = .ok (.iload 4, 2) := by decide +kernel
theorem d_T_perform_151 : decode M_T_perform.2.1 151 = .ok (.iaload, 1) := by decide +kernel
theorem d_T_perform_152 : decode M_T_perform.2.1 152 = .ok (.bipush (-3), 2) := by decide +kernel
theorem d_T_perform_154 : decode M_T_perform.2.1 154 = .ok (.if_icmp .ne 11, 3) := by decide +kernel
theorem d_T_perform_157 : decode M_T_perform.2.1 157 = .ok (.aload_n 0, 1) := by decide +kernel
theorem d_T_perform_158 : decode M_T_perform.2.1 158 = .ok (.getfield 36, 3) := by decide +kernel
theorem d_T_perform_161 : decode M_T_perform.2.1 161 = .ok (.iload 4, 2) := by decide +kernel
theorem d_T_perform_163 : decode M_T_perform.2.1 163 = .ok (.iload_n 1, 1) := by decide +kernel
theorem d_T_perform_164 : decode M_T_perform.2.1 164 = .ok (.iastore, 1) := by decide +kernel
theorem d_T_perform_165 : decode M_T_perform.2.1 165 = .ok (.return_, 1) := by decide +kernel
theorem d_T_learn_0 : decode M_T_learn.2.1 0 = .ok (.aload_n 0, 1) := by decide +kernel
theorem d_T_learn_1 : decode M_T_learn.2.1 1 = .ok (.getfield 21, 3) := by decide +kernel
theorem d_T_learn_4 : decode M_T_learn.2.1 4 = .ok (.iload_n 1, 1) := by decide +kernel
theorem d_T_learn_5 : decode M_T_learn.2.1 5 = .ok (.dup2, 1) := by decide +kernel
theorem d_T_learn_6 : decode M_T_learn.2.1 6 = .ok (.iaload, 1) := by decide +kernel
theorem d_T_learn_7 : decode M_T_learn.2.1 7 = .ok (.iconst 1, 1) := by decide +kernel
theorem d_T_learn_8 : decode M_T_learn.2.1 8 = .ok (.iload_n 2, 1) := by decide +kernel
theorem d_T_learn_9 : decode M_T_learn.2.1 9 = .ok (.ishl, 1) := by decide +kernel
theorem d_T_learn_10 : decode M_T_learn.2.1 10 = .ok (.ior, 1) := by decide +kernel
theorem d_T_learn_11 : decode M_T_learn.2.1 11 = .ok (.iastore, 1) := by decide +kernel
theorem d_T_learn_12 : decode M_T_learn.2.1 12 = .ok (.iload_n 1, 1) := by decide +kernel
theorem d_T_learn_13 : decode M_T_learn.2.1 13 = .ok (.bipush 24, 2) := by decide +kernel
theorem d_T_learn_15 : decode M_T_learn.2.1 15 = .ok (.imul, 1) := by decide +kernel
theorem d_T_learn_16 : decode M_T_learn.2.1 16 = .ok (.iload_n 2, 1) := by decide +kernel
theorem d_T_learn_17 : decode M_T_learn.2.1 17 = .ok (.iadd, 1) := by decide +kernel
theorem d_T_learn_18 : decode M_T_learn.2.1 18 = .ok (.istore 6, 2) := by decide +kernel
theorem d_T_learn_20 : decode M_T_learn.2.1 20 = .ok (.aload_n 0, 1) := by decide +kernel
theorem d_T_learn_21 : decode M_T_learn.2.1 21 = .ok (.getfield 27, 3) := by decide +kernel
theorem d_T_learn_24 : decode M_T_learn.2.1 24 = .ok (.iload 6, 2) := by decide +kernel
theorem d_T_learn_26 : decode M_T_learn.2.1 26 = .ok (.iload_n 3, 1) := by decide +kernel
theorem d_T_learn_27 : decode M_T_learn.2.1 27 = .ok (.iastore, 1) := by decide +kernel
theorem d_T_learn_28 : decode M_T_learn.2.1 28 = .ok (.aload_n 0, 1) := by decide +kernel
theorem d_T_learn_29 : decode M_T_learn.2.1 29 = .ok (.getfield 30, 3) := by decide +kernel
theorem d_T_learn_32 : decode M_T_learn.2.1 32 = .ok (.iload 6, 2) := by decide +kernel
theorem d_T_learn_34 : decode M_T_learn.2.1 34 = .ok (.iload 4, 2) := by decide +kernel
theorem d_T_learn_36 : decode M_T_learn.2.1 36 = .ok (.iastore, 1) := by decide +kernel
theorem d_T_learn_37 : decode M_T_learn.2.1 37 = .ok (.aload_n 0, 1) := by decide +kernel
theorem d_T_learn_38 : decode M_T_learn.2.1 38 = .ok (.getfield 33, 3) := by decide +kernel
theorem d_T_learn_41 : decode M_T_learn.2.1 41 = .ok (.iload 6, 2) := by decide +kernel
theorem d_T_learn_43 : decode M_T_learn.2.1 43 = .ok (.iload 5, 2) := by decide +kernel
theorem d_T_learn_45 : decode M_T_learn.2.1 45 = .ok (.iastore, 1) := by decide +kernel
theorem d_T_learn_46 : decode M_T_learn.2.1 46 = .ok (.return_, 1) := by decide +kernel
theorem d_T_playForFault_0 : decode M_T_playForFault.2.1 0 = .ok (.aload_n 0, 1) := by decide +kernel
theorem d_T_playForFault_1 : decode M_T_playForFault.2.1 1 = .ok (.aload_n 1, 1) := by decide +kernel
theorem d_T_playForFault_2 : decode M_T_playForFault.2.1 2 = .ok (.invokevirtual 99, 3) := by decide +kernel
theorem d_T_playForFault_5 : decode M_T_playForFault.2.1 5 = .ok (.istore_n 3, 1) := by decide +kernel
theorem d_T_playForFault_6 : decode M_T_playForFault.2.1 6 = .ok (.aload_n 0, 1) := by decide +kernel
theorem d_T_playForFault_7 : decode M_T_playForFault.2.1 7 = .ok (.iload_n 2, 1) := by decide +kernel
theorem d_T_playForFault_8 : decode M_T_playForFault.2.1 8 = .ok (.putfield 57, 3) := by decide +kernel
theorem d_T_playForFault_11 : decode M_T_playForFault.2.1 11 = .ok (.aload_n 0, 1) := by decide +kernel
theorem d_T_playForFault_12 : decode M_T_playForFault.2.1 12 = .ok (.iload_n 3, 1) := by decide +kernel
theorem d_T_playForFault_13 : decode M_T_playForFault.2.1 13 = .ok (.invokevirtual 103, 3) := by decide +kernel
theorem d_T_playForFault_16 : decode M_T_playForFault.2.1 16 = .ok (.iload_n 2, 1) := by decide +kernel
theorem d_T_playForFault_17 : decode M_T_playForFault.2.1 17 = .ok (.aload_n 0, 1) := by decide +kernel
theorem d_T_playForFault_18 : decode M_T_playForFault.2.1 18 = .ok (.getfield 60, 3) := by decide +kernel
theorem d_T_playForFault_21 : decode M_T_playForFault.2.1 21 = .ok (.if_icmp .ge 7, 3) := by decide +kernel
theorem d_T_playForFault_24 : decode M_T_playForFault.2.1 24 = .ok (.iconst 1, 1) := by decide +kernel
theorem d_T_playForFault_25 : decode M_T_playForFault.2.1 25 = .ok (.goto 4, 3) := by decide +kernel
theorem d_T_playForFault_28 : decode M_T_playForFault.2.1 28 = .ok (.iconst 0, 1) := by decide +kernel
theorem d_T_playForFault_29 : decode M_T_playForFault.2.1 29 = .ok (.ireturn, 1) := by decide +kernel
theorem d_T_playUpTo_0 : decode M_T_playUpTo.2.1 0 = .ok (.aload_n 0, 1) := by decide +kernel
theorem d_T_playUpTo_1 : decode M_T_playUpTo.2.1 1 = .ok (.aload_n 1, 1) := by decide +kernel
theorem d_T_playUpTo_2 : decode M_T_playUpTo.2.1 2 = .ok (.invokevirtual 99, 3) := by decide +kernel
theorem d_T_playUpTo_5 : decode M_T_playUpTo.2.1 5 = .ok (.istore_n 3, 1) := by decide +kernel
theorem d_T_playUpTo_6 : decode M_T_playUpTo.2.1 6 = .ok (.iconst 0, 1) := by decide +kernel
theorem d_T_playUpTo_7 : decode M_T_playUpTo.2.1 7 = .ok (.istore 4, 2) := by decide +kernel
theorem d_T_playUpTo_9 : decode M_T_playUpTo.2.1 9 = .ok (.iload 4, 2) := by decide +kernel
theorem d_T_playUpTo_11 : decode M_T_playUpTo.2.1 11 = .ok (.iload_n 3, 1) := by decide +kernel
theorem d_T_playUpTo_12 : decode M_T_playUpTo.2.1 12 = .ok (.if_icmp .ge 31, 3) := by decide +kernel
theorem d_T_playUpTo_15 : decode M_T_playUpTo.2.1 15 = .ok (.aload_n 0, 1) := by decide +kernel
theorem d_T_playUpTo_16 : decode M_T_playUpTo.2.1 16 = .ok (.getfield 15, 3) := by decide +kernel
theorem d_T_playUpTo_19 : decode M_T_playUpTo.2.1 19 = .ok (.iload 4, 2) := by decide +kernel
theorem d_T_playUpTo_21 : decode M_T_playUpTo.2.1 21 = .ok (.iaload, 1) := by decide +kernel
theorem d_T_playUpTo_22 : decode M_T_playUpTo.2.1 22 = .ok (.iload_n 2, 1) := by decide +kernel
theorem d_T_playUpTo_23 : decode M_T_playUpTo.2.1 23 = .ok (.if_icmp .eq 20, 3) := by decide +kernel
theorem d_T_playUpTo_26 : decode M_T_playUpTo.2.1 26 = .ok (.aload_n 0, 1) := by decide +kernel
theorem d_T_playUpTo_27 : decode M_T_playUpTo.2.1 27 = .ok (.aload_n 0, 1) := by decide +kernel
theorem d_T_playUpTo_28 : decode M_T_playUpTo.2.1 28 = .ok (.getfield 15, 3) := by decide +kernel
theorem d_T_playUpTo_31 : decode M_T_playUpTo.2.1 31 = .ok (.iload 4, 2) := by decide +kernel
theorem d_T_playUpTo_33 : decode M_T_playUpTo.2.1 33 = .ok (.iaload, 1) := by decide +kernel
theorem d_T_playUpTo_34 : decode M_T_playUpTo.2.1 34 = .ok (.invokevirtual 107, 3) := by decide +kernel
theorem d_T_playUpTo_37 : decode M_T_playUpTo.2.1 37 = .ok (.iinc 4 1, 3) := by decide +kernel
theorem d_T_playUpTo_40 : decode M_T_playUpTo.2.1 40 = .ok (.goto (-31), 3) := by decide +kernel
theorem d_T_playUpTo_43 : decode M_T_playUpTo.2.1 43 = .ok (.return_, 1) := by decide +kernel
theorem d_T_harmOf_0 : decode M_T_harmOf.2.1 0 = .ok (.aload_n 0, 1) := by decide +kernel
theorem d_T_harmOf_1 : decode M_T_harmOf.2.1 1 = .ok (.aload_n 0, 1) := by decide +kernel
theorem d_T_harmOf_2 : decode M_T_harmOf.2.1 2 = .ok (.aload_n 1, 1) := by decide +kernel
theorem d_T_harmOf_3 : decode M_T_harmOf.2.1 3 = .ok (.invokevirtual 99, 3) := by decide +kernel
theorem d_T_harmOf_6 : decode M_T_harmOf.2.1 6 = .ok (.invokevirtual 103, 3) := by decide +kernel
theorem d_T_harmOf_9 : decode M_T_harmOf.2.1 9 = .ok (.aload_n 0, 1) := by decide +kernel
theorem d_T_harmOf_10 : decode M_T_harmOf.2.1 10 = .ok (.getfield 39, 3) := by decide +kernel
theorem d_T_harmOf_13 : decode M_T_harmOf.2.1 13 = .ok (.iconst 0, 1) := by decide +kernel
theorem d_T_harmOf_14 : decode M_T_harmOf.2.1 14 = .ok (.aload_n 0, 1) := by decide +kernel
theorem d_T_harmOf_15 : decode M_T_harmOf.2.1 15 = .ok (.getfield 42, 3) := by decide +kernel
theorem d_T_harmOf_18 : decode M_T_harmOf.2.1 18 = .ok (.iconst 0, 1) := by decide +kernel
theorem d_T_harmOf_19 : decode M_T_harmOf.2.1 19 = .ok (.bipush 100, 2) := by decide +kernel
theorem d_T_harmOf_21 : decode M_T_harmOf.2.1 21 = .ok (.invokestatic 110, 3) := by decide +kernel
theorem d_T_harmOf_24 : decode M_T_harmOf.2.1 24 = .ok (.aload_n 0, 1) := by decide +kernel
theorem d_T_harmOf_25 : decode M_T_harmOf.2.1 25 = .ok (.aload_n 1, 1) := by decide +kernel
theorem d_T_harmOf_26 : decode M_T_harmOf.2.1 26 = .ok (.invokevirtual 99, 3) := by decide +kernel
theorem d_T_harmOf_29 : decode M_T_harmOf.2.1 29 = .ok (.istore 4, 2) := by decide +kernel
theorem d_T_harmOf_31 : decode M_T_harmOf.2.1 31 = .ok (.aload_n 0, 1) := by decide +kernel
theorem d_T_harmOf_32 : decode M_T_harmOf.2.1 32 = .ok (.iload_n 2, 1) := by decide +kernel
theorem d_T_harmOf_33 : decode M_T_harmOf.2.1 33 = .ok (.putfield 53, 3) := by decide +kernel
theorem d_T_harmOf_36 : decode M_T_harmOf.2.1 36 = .ok (.aload_n 0, 1) := by decide +kernel
theorem d_T_harmOf_37 : decode M_T_harmOf.2.1 37 = .ok (.iload_n 3, 1) := by decide +kernel
theorem d_T_harmOf_38 : decode M_T_harmOf.2.1 38 = .ok (.putfield 116, 3) := by decide +kernel
theorem d_T_harmOf_41 : decode M_T_harmOf.2.1 41 = .ok (.aload_n 0, 1) := by decide +kernel
theorem d_T_harmOf_42 : decode M_T_harmOf.2.1 42 = .ok (.iload 4, 2) := by decide +kernel
theorem d_T_harmOf_44 : decode M_T_harmOf.2.1 44 = .ok (.invokevirtual 103, 3) := by decide +kernel
theorem d_T_harmOf_47 : decode M_T_harmOf.2.1 47 = .ok (.iconst 0, 1) := by decide +kernel
theorem d_T_harmOf_48 : decode M_T_harmOf.2.1 48 = .ok (.istore 5, 2) := by decide +kernel
theorem d_T_harmOf_50 : decode M_T_harmOf.2.1 50 = .ok (.iconst 0, 1) := by decide +kernel
theorem d_T_harmOf_51 : decode M_T_harmOf.2.1 51 = .ok (.istore 6, 2) := by decide +kernel
theorem d_T_harmOf_53 : decode M_T_harmOf.2.1 53 = .ok (.iload 6, 2) := by decide +kernel
theorem d_T_harmOf_55 : decode M_T_harmOf.2.1 55 = .ok (.bipush 100, 2) := by decide +kernel
theorem d_T_harmOf_57 : decode M_T_harmOf.2.1 57 = .ok (.if_icmp .ge 34, 3) := by decide +kernel
theorem d_T_harmOf_60 : decode M_T_harmOf.2.1 60 = .ok (.iload 5, 2) := by decide +kernel
theorem d_T_harmOf_62 : decode M_T_harmOf.2.1 62 = .ok (.aload_n 0, 1) := by decide +kernel
theorem d_T_harmOf_63 : decode M_T_harmOf.2.1 63 = .ok (.getfield 42, 3) := by decide +kernel
theorem d_T_harmOf_66 : decode M_T_harmOf.2.1 66 = .ok (.iload 6, 2) := by decide +kernel
theorem d_T_harmOf_68 : decode M_T_harmOf.2.1 68 = .ok (.iaload, 1) := by decide +kernel
theorem d_T_harmOf_69 : decode M_T_harmOf.2.1 69 = .ok (.aload_n 0, 1) := by decide +kernel
theorem d_T_harmOf_70 : decode M_T_harmOf.2.1 70 = .ok (.getfield 39, 3) := by decide +kernel
theorem d_T_harmOf_73 : decode M_T_harmOf.2.1 73 = .ok (.iload 6, 2) := by decide +kernel
theorem d_T_harmOf_75 : decode M_T_harmOf.2.1 75 = .ok (.iaload, 1) := by decide +kernel
theorem d_T_harmOf_76 : decode M_T_harmOf.2.1 76 = .ok (.iconst (-1), 1) := by decide +kernel
theorem d_T_harmOf_77 : decode M_T_harmOf.2.1 77 = .ok (.ixor, 1) := by decide +kernel
theorem d_T_harmOf_78 : decode M_T_harmOf.2.1 78 = .ok (.iand, 1) := by decide +kernel
theorem d_T_harmOf_79 : decode M_T_harmOf.2.1 79 = .ok (.invokestatic 119, 3) := by decide +kernel
theorem d_T_harmOf_82 : decode M_T_harmOf.2.1 82 = .ok (.iadd, 1) := by decide +kernel
theorem d_T_harmOf_83 : decode M_T_harmOf.2.1 83 = .ok (.istore 5, 2) := by decide +kernel
theorem d_T_harmOf_85 : decode M_T_harmOf.2.1 85 = .ok (.iinc 6 1, 3) := by decide +kernel
theorem d_T_harmOf_88 : decode M_T_harmOf.2.1 88 = .ok (.goto (-35), 3) := by decide +kernel
theorem d_T_harmOf_91 : decode M_T_harmOf.2.1 91 = .ok (.iload 5, 2) := by decide +kernel
theorem d_T_harmOf_93 : decode M_T_harmOf.2.1 93 = .ok (.ireturn, 1) := by decide +kernel
theorem d_P_init_0 : decode M_P_init.2.1 0 = .ok (.aload_n 0, 1) := by decide +kernel
theorem d_P_init_1 : decode M_P_init.2.1 1 = .ok (.invokespecial 3, 3) := by decide +kernel
theorem d_P_init_4 : decode M_P_init.2.1 4 = .ok (.aload_n 0, 1) := by decide +kernel
theorem d_P_init_5 : decode M_P_init.2.1 5 = .ok (.sipush 256, 3) := by decide +kernel
theorem d_P_init_8 : decode M_P_init.2.1 8 = .ok (.newarray .boolean, 2) := by decide +kernel
theorem d_P_init_10 : decode M_P_init.2.1 10 = .ok (.putfield 11, 3) := by decide +kernel
theorem d_P_init_13 : decode M_P_init.2.1 13 = .ok (.aload_n 0, 1) := by decide +kernel
theorem d_P_init_14 : decode M_P_init.2.1 14 = .ok (.sipush 256, 3) := by decide +kernel
theorem d_P_init_17 : decode M_P_init.2.1 17 = .ok (.newarray .int, 2) := by decide +kernel
theorem d_P_init_19 : decode M_P_init.2.1 19 = .ok (.putfield 15, 3) := by decide +kernel
theorem d_P_init_22 : decode M_P_init.2.1 22 = .ok (.aload_n 0, 1) := by decide +kernel
theorem d_P_init_23 : decode M_P_init.2.1 23 = .ok (.sipush 256, 3) := by decide +kernel
theorem d_P_init_26 : decode M_P_init.2.1 26 = .ok (.newarray .int, 2) := by decide +kernel
theorem d_P_init_28 : decode M_P_init.2.1 28 = .ok (.putfield 19, 3) := by decide +kernel
theorem d_P_init_31 : decode M_P_init.2.1 31 = .ok (.aload_n 0, 1) := by decide +kernel
theorem d_P_init_32 : decode M_P_init.2.1 32 = .ok (.sipush 256, 3) := by decide +kernel
theorem d_P_init_35 : decode M_P_init.2.1 35 = .ok (.newarray .int, 2) := by decide +kernel
theorem d_P_init_37 : decode M_P_init.2.1 37 = .ok (.putfield 22, 3) := by decide +kernel
theorem d_P_init_40 : decode M_P_init.2.1 40 = .ok (.aload_n 0, 1) := by decide +kernel
theorem d_P_init_41 : decode M_P_init.2.1 41 = .ok (.sipush 256, 3) := by decide +kernel
theorem d_P_init_44 : decode M_P_init.2.1 44 = .ok (.newarray .int, 2) := by decide +kernel
theorem d_P_init_46 : decode M_P_init.2.1 46 = .ok (.putfield 25, 3) := by decide +kernel
theorem d_P_init_49 : decode M_P_init.2.1 49 = .ok (.aload_n 0, 1) := by decide +kernel
theorem d_P_init_50 : decode M_P_init.2.1 50 = .ok (.sipush 256, 3) := by decide +kernel
theorem d_P_init_53 : decode M_P_init.2.1 53 = .ok (.newarray .int, 2) := by decide +kernel
theorem d_P_init_55 : decode M_P_init.2.1 55 = .ok (.putfield 28, 3) := by decide +kernel
theorem d_P_init_58 : decode M_P_init.2.1 58 = .ok (.aload_n 0, 1) := by decide +kernel
theorem d_P_init_59 : decode M_P_init.2.1 59 = .ok (.sipush 256, 3) := by decide +kernel
theorem d_P_init_62 : decode M_P_init.2.1 62 = .ok (.newarray .int, 2) := by decide +kernel
theorem d_P_init_64 : decode M_P_init.2.1 64 = .ok (.putfield 31, 3) := by decide +kernel
theorem d_P_init_67 : decode M_P_init.2.1 67 = .ok (.aload_n 0, 1) := by decide +kernel
theorem d_P_init_68 : decode M_P_init.2.1 68 = .ok (.sipush 256, 3) := by decide +kernel
theorem d_P_init_71 : decode M_P_init.2.1 71 = .ok (.newarray .int, 2) := by decide +kernel
theorem d_P_init_73 : decode M_P_init.2.1 73 = .ok (.putfield 34, 3) := by decide +kernel
theorem d_P_init_76 : decode M_P_init.2.1 76 = .ok (.aload_n 0, 1) := by decide +kernel
theorem d_P_init_77 : decode M_P_init.2.1 77 = .ok (.bipush 8, 2) := by decide +kernel
theorem d_P_init_79 : decode M_P_init.2.1 79 = .ok (.newarray .int, 2) := by decide +kernel
theorem d_P_init_81 : decode M_P_init.2.1 81 = .ok (.putfield 37, 3) := by decide +kernel
theorem d_P_init_84 : decode M_P_init.2.1 84 = .ok (.aload_n 0, 1) := by decide +kernel
theorem d_P_init_85 : decode M_P_init.2.1 85 = .ok (.bipush 8, 2) := by decide +kernel
theorem d_P_init_87 : decode M_P_init.2.1 87 = .ok (.newarray .int, 2) := by decide +kernel
theorem d_P_init_89 : decode M_P_init.2.1 89 = .ok (.putfield 40, 3) := by decide +kernel
theorem d_P_init_92 : decode M_P_init.2.1 92 = .ok (.aload_n 0, 1) := by decide +kernel
theorem d_P_init_93 : decode M_P_init.2.1 93 = .ok (.bipush 8, 2) := by decide +kernel
theorem d_P_init_95 : decode M_P_init.2.1 95 = .ok (.newarray .int, 2) := by decide +kernel
theorem d_P_init_97 : decode M_P_init.2.1 97 = .ok (.putfield 43, 3) := by decide +kernel
theorem d_P_init_100 : decode M_P_init.2.1 100 = .ok (.aload_n 0, 1) := by decide +kernel
theorem d_P_init_101 : decode M_P_init.2.1 101 = .ok (.aload_n 1, 1) := by decide +kernel
theorem d_P_init_102 : decode M_P_init.2.1 102 = .ok (.putfield 46, 3) := by decide +kernel
theorem d_P_init_105 : decode M_P_init.2.1 105 = .ok (.return_, 1) := by decide +kernel
theorem d_P_forget_0 : decode M_P_forget.2.1 0 = .ok (.aload_n 0, 1) := by decide +kernel
theorem d_P_forget_1 : decode M_P_forget.2.1 1 = .ok (.iconst 0, 1) := by decide +kernel
theorem d_P_forget_2 : decode M_P_forget.2.1 2 = .ok (.putfield 50, 3) := by decide +kernel
theorem d_P_forget_5 : decode M_P_forget.2.1 5 = .ok (.return_, 1) := by decide +kernel
theorem d_P_findBest_0 : decode M_P_findBest.2.1 0 = .ok (.aload_n 0, 1) := by decide +kernel
theorem d_P_findBest_1 : decode M_P_findBest.2.1 1 = .ok (.invokevirtual 54, 3) := by decide +kernel
theorem d_P_findBest_4 : decode M_P_findBest.2.1 4 = .ok (.iconst 1, 1) := by decide +kernel
theorem d_P_findBest_5 : decode M_P_findBest.2.1 5 = .ok (.aload_n 0, 1) := by decide +kernel
theorem d_P_findBest_6 : decode M_P_findBest.2.1 6 = .ok (.getfield 46, 3) := by decide +kernel
theorem d_P_findBest_9 : decode M_P_findBest.2.1 9 = .ok (.getfield 57, 3) := by decide +kernel
theorem d_P_findBest_12 : decode M_P_findBest.2.1 12 = .ok (.ishl, 1) := by decide +kernel
theorem d_P_findBest_13 : decode M_P_findBest.2.1 13 = .ok (.iconst 1, 1) := by decide +kernel
theorem d_P_findBest_14 : decode M_P_findBest.2.1 14 = .ok (.isub, 1) := by decide +kernel
theorem d_P_findBest_15 : decode M_P_findBest.2.1 15 = .ok (.istore_n 2, 1) := by decide +kernel
theorem d_P_findBest_16 : decode M_P_findBest.2.1 16 = .ok (.aload_n 0, 1) := by decide +kernel
theorem d_P_findBest_17 : decode M_P_findBest.2.1 17 = .ok (.aload_n 1, 1) := by decide +kernel
theorem d_P_findBest_18 : decode M_P_findBest.2.1 18 = .ok (.iload_n 2, 1) := by decide +kernel
theorem d_P_findBest_19 : decode M_P_findBest.2.1 19 = .ok (.invokevirtual 62, 3) := by decide +kernel
theorem d_P_findBest_22 : decode M_P_findBest.2.1 22 = .ok (.iconst 0, 1) := by decide +kernel
theorem d_P_findBest_23 : decode M_P_findBest.2.1 23 = .ok (.istore_n 3, 1) := by decide +kernel
theorem d_P_findBest_24 : decode M_P_findBest.2.1 24 = .ok (.iload_n 3, 1) := by decide +kernel
theorem d_P_findBest_25 : decode M_P_findBest.2.1 25 = .ok (.iload_n 2, 1) := by decide +kernel
theorem d_P_findBest_26 : decode M_P_findBest.2.1 26 = .ok (.if_icmp .ge 17, 3) := by decide +kernel
theorem d_P_findBest_29 : decode M_P_findBest.2.1 29 = .ok (.aload_n 0, 1) := by decide +kernel
theorem d_P_findBest_30 : decode M_P_findBest.2.1 30 = .ok (.getfield 34, 3) := by decide +kernel
theorem d_P_findBest_33 : decode M_P_findBest.2.1 33 = .ok (.iload_n 3, 1) := by decide +kernel
theorem d_P_findBest_34 : decode M_P_findBest.2.1 34 = .ok (.ldc 66, 2) := by decide +kernel
theorem d_P_findBest_36 : decode M_P_findBest.2.1 36 = .ok (.iastore, 1) := by decide +kernel
theorem d_P_findBest_37 : decode M_P_findBest.2.1 37 = .ok (.iinc 3 1, 3) := by decide +kernel
theorem d_P_findBest_40 : decode M_P_findBest.2.1 40 = .ok (.goto (-16), 3) := by decide +kernel
theorem d_P_findBest_43 : decode M_P_findBest.2.1 43 = .ok (.aload_n 0, 1) := by decide +kernel
theorem d_P_findBest_44 : decode M_P_findBest.2.1 44 = .ok (.getfield 34, 3) := by decide +kernel
theorem d_P_findBest_47 : decode M_P_findBest.2.1 47 = .ok (.iload_n 2, 1) := by decide +kernel
theorem d_P_findBest_48 : decode M_P_findBest.2.1 48 = .ok (.iconst 0, 1) := by decide +kernel
theorem d_P_findBest_49 : decode M_P_findBest.2.1 49 = .ok (.iastore, 1) := by decide +kernel
theorem d_P_findBest_50 : decode M_P_findBest.2.1 50 = .ok (.aload_n 0, 1) := by decide +kernel
theorem d_P_findBest_51 : decode M_P_findBest.2.1 51 = .ok (.getfield 46, 3) := by decide +kernel
theorem d_P_findBest_54 : decode M_P_findBest.2.1 54 = .ok (.getfield 67, 3) := by decide +kernel
theorem d_P_findBest_57 : decode M_P_findBest.2.1 57 = .ok (.iconst 1, 1) := by decide +kernel
theorem d_P_findBest_58 : decode M_P_findBest.2.1 58 = .ok (.isub, 1) := by decide +kernel
theorem d_P_findBest_59 : decode M_P_findBest.2.1 59 = .ok (.istore_n 3, 1) := by decide +kernel
theorem d_P_findBest_60 : decode M_P_findBest.2.1 60 = .ok (.iload_n 3, 1) := by decide +kernel
theorem d_P_findBest_61 : decode M_P_findBest.2.1 61 = .ok (.ifCond .lt 39, 3) := by decide +kernel
theorem d_P_findBest_64 : decode M_P_findBest.2.1 64 = .ok (.iconst 0, 1) := by decide +kernel
theorem d_P_findBest_65 : decode M_P_findBest.2.1 65 = .ok (.istore 4, 2) := by decide +kernel
theorem d_P_findBest_67 : decode M_P_findBest.2.1 67 = .ok (.iload 4, 2) := by decide +kernel
theorem d_P_findBest_69 : decode M_P_findBest.2.1 69 = .ok (.iload_n 2, 1) := by decide +kernel
theorem d_P_findBest_70 : decode M_P_findBest.2.1 70 = .ok (.if_icmp .gt 24, 3) := by decide +kernel
theorem d_P_findBest_73 : decode M_P_findBest.2.1 73 = .ok (.aload_n 0, 1) := by decide +kernel
theorem d_P_findBest_74 : decode M_P_findBest.2.1 74 = .ok (.getfield 34, 3) := by decide +kernel
theorem d_P_findBest_77 : decode M_P_findBest.2.1 77 = .ok (.iload 4, 2) := by decide +kernel
theorem d_P_findBest_79 : decode M_P_findBest.2.1 79 = .ok (.aload_n 0, 1) := by decide +kernel
theorem d_P_findBest_80 : decode M_P_findBest.2.1 80 = .ok (.iload_n 3, 1) := by decide +kernel
theorem d_P_findBest_81 : decode M_P_findBest.2.1 81 = .ok (.iload 4, 2) := by decide +kernel
theorem d_P_findBest_83 : decode M_P_findBest.2.1 83 = .ok (.iload_n 2, 1) := by decide +kernel
theorem d_P_findBest_84 : decode M_P_findBest.2.1 84 = .ok (.invokevirtual 70, 3) := by decide +kernel
theorem d_P_findBest_87 : decode M_P_findBest.2.1 87 = .ok (.iastore, 1) := by decide +kernel
theorem d_P_findBest_88 : decode M_P_findBest.2.1 88 = .ok (.iinc 4 1, 3) := by decide +kernel
theorem d_P_findBest_91 : decode M_P_findBest.2.1 91 = .ok (.goto (-24), 3) := by decide +kernel
theorem d_P_findBest_94 : decode M_P_findBest.2.1 94 = .ok (.iinc 3 (-1), 3) := by decide +kernel
theorem d_P_findBest_97 : decode M_P_findBest.2.1 97 = .ok (.goto (-37), 3) := by decide +kernel
theorem d_P_findBest_100 : decode M_P_findBest.2.1 100 = .ok (.aload_n 0, 1) := by decide +kernel
theorem d_P_findBest_101 : decode M_P_findBest.2.1 101 = .ok (.getfield 34, 3) := by decide +kernel
theorem d_P_findBest_104 : decode M_P_findBest.2.1 104 = .ok (.iconst 0, 1) := by decide +kernel
theorem d_P_findBest_105 : decode M_P_findBest.2.1 105 = .ok (.iaload, 1) := by decide +kernel
theorem d_P_findBest_106 : decode M_P_findBest.2.1 106 = .ok (.ldc 66, 2) := by decide +kernel
theorem d_P_findBest_108 : decode M_P_findBest.2.1 108 = .ok (.if_icmp .ne 8, 3) := by decide +kernel
theorem d_P_findBest_111 : decode M_P_findBest.2.1 111 = .ok (.bipush (-3), 2) := by decide +kernel
theorem d_P_findBest_113 : decode M_P_findBest.2.1 113 = .ok (.goto 13, 3) := by decide +kernel
theorem d_P_findBest_116 : decode M_P_findBest.2.1 116 = .ok (.aload_n 0, 1) := by decide +kernel
theorem d_P_findBest_117 : decode M_P_findBest.2.1 117 = .ok (.aload_n 0, 1) := by decide +kernel
theorem d_P_findBest_118 : decode M_P_findBest.2.1 118 = .ok (.getfield 34, 3) := by decide +kernel
theorem d_P_findBest_121 : decode M_P_findBest.2.1 121 = .ok (.iconst 0, 1) := by decide +kernel
theorem d_P_findBest_122 : decode M_P_findBest.2.1 122 = .ok (.iaload, 1) := by decide +kernel
theorem d_P_findBest_123 : decode M_P_findBest.2.1 123 = .ok (.invokevirtual 74, 3) := by decide +kernel
theorem d_P_findBest_126 : decode M_P_findBest.2.1 126 = .ok (.ireturn, 1) := by decide +kernel
theorem d_P_weighSubsets_0 : decode M_P_weighSubsets.2.1 0 = .ok (.iconst 1, 1) := by decide +kernel
theorem d_P_weighSubsets_1 : decode M_P_weighSubsets.2.1 1 = .ok (.istore_n 3, 1) := by decide +kernel
theorem d_P_weighSubsets_2 : decode M_P_weighSubsets.2.1 2 = .ok (.aload_n 0, 1) := by decide +kernel
theorem d_P_weighSubsets_3 : decode M_P_weighSubsets.2.1 3 = .ok (.getfield 46, 3) := by decide +kernel
theorem d_P_weighSubsets_6 : decode M_P_weighSubsets.2.1 6 = .ok (.getfield 57, 3) := by decide +kernel
theorem d_P_weighSubsets_9 : decode M_P_weighSubsets.2.1 9 = .ok (.iconst 1, 1) := by decide +kernel
theorem d_P_weighSubsets_10 : decode M_P_weighSubsets.2.1 10 = .ok (.isub, 1) := by decide +kernel
theorem d_P_weighSubsets_11 : decode M_P_weighSubsets.2.1 11 = .ok (.istore 4, 2) := by decide +kernel
theorem d_P_weighSubsets_13 : decode M_P_weighSubsets.2.1 13 = .ok (.iload 4, 2) := by decide +kernel
theorem d_P_weighSubsets_15 : decode M_P_weighSubsets.2.1 15 = .ok (.ifCond .lt 22, 3) := by decide +kernel
theorem d_P_weighSubsets_18 : decode M_P_weighSubsets.2.1 18 = .ok (.aload_n 0, 1) := by decide +kernel
theorem d_P_weighSubsets_19 : decode M_P_weighSubsets.2.1 19 = .ok (.getfield 37, 3) := by decide +kernel
theorem d_P_weighSubsets_22 : decode M_P_weighSubsets.2.1 22 = .ok (.iload 4, 2) := by decide +kernel
theorem d_P_weighSubsets_24 : decode M_P_weighSubsets.2.1 24 = .ok (.iload_n 3, 1) := by decide +kernel
theorem d_P_weighSubsets_25 : decode M_P_weighSubsets.2.1 25 = .ok (.iastore, 1) := by decide +kernel
theorem d_P_weighSubsets_26 : decode M_P_weighSubsets.2.1 26 = .ok (.iload_n 3, 1) := by decide +kernel
theorem d_P_weighSubsets_27 : decode M_P_weighSubsets.2.1 27 = .ok (.bipush 6, 2) := by decide +kernel
theorem d_P_weighSubsets_29 : decode M_P_weighSubsets.2.1 29 = .ok (.imul, 1) := by decide +kernel
theorem d_P_weighSubsets_30 : decode M_P_weighSubsets.2.1 30 = .ok (.istore_n 3, 1) := by decide +kernel
theorem d_P_weighSubsets_31 : decode M_P_weighSubsets.2.1 31 = .ok (.iinc 4 (-1), 3) := by decide +kernel
theorem d_P_weighSubsets_34 : decode M_P_weighSubsets.2.1 34 = .ok (.goto (-21), 3) := by decide +kernel
theorem d_P_weighSubsets_37 : decode M_P_weighSubsets.2.1 37 = .ok (.aload_n 0, 1) := by decide +kernel
theorem d_P_weighSubsets_38 : decode M_P_weighSubsets.2.1 38 = .ok (.getfield 11, 3) := by decide +kernel
theorem d_P_weighSubsets_41 : decode M_P_weighSubsets.2.1 41 = .ok (.iconst 0, 1) := by decide +kernel
theorem d_P_weighSubsets_42 : decode M_P_weighSubsets.2.1 42 = .ok (.iconst 1, 1) := by decide +kernel
theorem d_P_weighSubsets_43 : decode M_P_weighSubsets.2.1 43 = .ok (.bastore, 1) := by decide +kernel
theorem d_P_weighSubsets_44 : decode M_P_weighSubsets.2.1 44 = .ok (.iconst 1, 1) := by decide +kernel
theorem d_P_weighSubsets_45 : decode M_P_weighSubsets.2.1 45 = .ok (.istore 4, 2) := by decide +kernel
theorem d_P_weighSubsets_47 : decode M_P_weighSubsets.2.1 47 = .ok (.iload 4, 2) := by decide +kernel
theorem d_P_weighSubsets_49 : decode M_P_weighSubsets.2.1 49 = .ok (.iload_n 2, 1) := by decide +kernel
theorem d_P_weighSubsets_50 : decode M_P_weighSubsets.2.1 50 = .ok (.if_icmp .gt 16, 3) := by decide +kernel
theorem d_P_weighSubsets_53 : decode M_P_weighSubsets.2.1 53 = .ok (.aload_n 0, 1) := by decide +kernel
theorem d_P_weighSubsets_54 : decode M_P_weighSubsets.2.1 54 = .ok (.aload_n 1, 1) := by decide +kernel
theorem d_P_weighSubsets_55 : decode M_P_weighSubsets.2.1 55 = .ok (.iload 4, 2) := by decide +kernel
theorem d_P_weighSubsets_57 : decode M_P_weighSubsets.2.1 57 = .ok (.invokevirtual 78, 3) := by decide +kernel
theorem d_P_weighSubsets_60 : decode M_P_weighSubsets.2.1 60 = .ok (.iinc 4 1, 3) := by decide +kernel
theorem d_P_weighSubsets_63 : decode M_P_weighSubsets.2.1 63 = .ok (.goto (-16), 3) := by decide +kernel
theorem d_P_weighSubsets_66 : decode M_P_weighSubsets.2.1 66 = .ok (.return_, 1) := by decide +kernel
theorem d_P_weigh_0 : decode M_P_weigh.2.1 0 = .ok (.iload_n 2, 1) := by decide +kernel
theorem d_P_weigh_1 : decode M_P_weigh.2.1 1 = .ok (.iload_n 2, 1) := by decide +kernel
theorem d_P_weigh_2 : decode M_P_weigh.2.1 2 = .ok (.iconst 1, 1) := by decide +kernel
theorem d_P_weigh_3 : decode M_P_weigh.2.1 3 = .ok (.isub, 1) := by decide +kernel
theorem d_P_weigh_4 : decode M_P_weigh.2.1 4 = .ok (.iand, 1) := by decide +kernel
theorem d_P_weigh_5 : decode M_P_weigh.2.1 5 = .ok (.istore_n 3, 1) := by decide +kernel
theorem d_P_weigh_6 : decode M_P_weigh.2.1 6 = .ok (.iload_n 2, 1) := by decide +kernel
theorem d_P_weigh_7 : decode M_P_weigh.2.1 7 = .ok (.iload_n 3, 1) := by decide +kernel
theorem d_P_weigh_8 : decode M_P_weigh.2.1 8 = .ok (.ixor, 1) := by decide +kernel
theorem d_P_weigh_9 : decode M_P_weigh.2.1 9 = .ok (.iconst 1, 1) := by decide +kernel
theorem d_P_weigh_10 : decode M_P_weigh.2.1 10 = .ok (.isub, 1) := by decide +kernel
theorem d_P_weigh_11 : decode M_P_weigh.2.1 11 = .ok (.invokestatic 81, 3) := by decide +kernel
theorem d_P_weigh_14 : decode M_P_weigh.2.1 14 = .ok (.istore 4, 2) := by decide +kernel
theorem d_P_weigh_16 : decode M_P_weigh.2.1 16 = .ok (.aload_n 0, 1) := by decide +kernel
theorem d_P_weigh_17 : decode M_P_weigh.2.1 17 = .ok (.getfield 46, 3) := by decide +kernel
theorem d_P_weigh_20 : decode M_P_weigh.2.1 20 = .ok (.getfield 86, 3) := by decide +kernel
theorem d_P_weigh_23 : decode M_P_weigh.2.1 23 = .ok (.iload 4, 2) := by decide +kernel
theorem d_P_weigh_25 : decode M_P_weigh.2.1 25 = .ok (.iaload, 1) := by decide +kernel
theorem d_P_weigh_26 : decode M_P_weigh.2.1 26 = .ok (.istore 5, 2) := by decide +kernel
theorem d_P_weigh_28 : decode M_P_weigh.2.1 28 = .ok (.aload_n 0, 1) := by decide +kernel
theorem d_P_weigh_29 : decode M_P_weigh.2.1 29 = .ok (.getfield 15, 3) := by decide +kernel
theorem d_P_weigh_32 : decode M_P_weigh.2.1 32 = .ok (.iload_n 2, 1) := by decide +kernel
theorem d_P_weigh_33 : decode M_P_weigh.2.1 33 = .ok (.aload_n 0, 1) := by decide +kernel
theorem d_P_weigh_34 : decode M_P_weigh.2.1 34 = .ok (.getfield 15, 3) := by decide +kernel
theorem d_P_weigh_37 : decode M_P_weigh.2.1 37 = .ok (.iload_n 3, 1) := by decide +kernel
theorem d_P_weigh_38 : decode M_P_weigh.2.1 38 = .ok (.iaload, 1) := by decide +kernel
theorem d_P_weigh_39 : decode M_P_weigh.2.1 39 = .ok (.aload_n 1, 1) := by decide +kernel
theorem d_P_weigh_40 : decode M_P_weigh.2.1 40 = .ok (.getfield 89, 3) := by decide +kernel
theorem d_P_weigh_43 : decode M_P_weigh.2.1 43 = .ok (.iload 5, 2) := by decide +kernel
theorem d_P_weigh_45 : decode M_P_weigh.2.1 45 = .ok (.iaload, 1) := by decide +kernel
theorem d_P_weigh_46 : decode M_P_weigh.2.1 46 = .ok (.ior, 1) := by decide +kernel
theorem d_P_weigh_47 : decode M_P_weigh.2.1 47 = .ok (.iastore, 1) := by decide +kernel
theorem d_P_weigh_48 : decode M_P_weigh.2.1 48 = .ok (.aload_n 0, 1) := by decide +kernel
theorem d_P_weigh_49 : decode M_P_weigh.2.1 49 = .ok (.getfield 19, 3) := by decide +kernel
theorem d_P_weigh_52 : decode M_P_weigh.2.1 52 = .ok (.iload_n 2, 1) := by decide +kernel
theorem d_P_weigh_53 : decode M_P_weigh.2.1 53 = .ok (.aload_n 0, 1) := by decide +kernel
theorem d_P_weigh_54 : decode M_P_weigh.2.1 54 = .ok (.getfield 19, 3) := by decide +kernel
theorem d_P_weigh_57 : decode M_P_weigh.2.1 57 = .ok (.iload_n 3, 1) := by decide +kernel
theorem d_P_weigh_58 : decode M_P_weigh.2.1 58 = .ok (.iaload, 1) := by decide +kernel
theorem d_P_weigh_59 : decode M_P_weigh.2.1 59 = .ok (.aload_n 0, 1) := by decide +kernel
theorem d_P_weigh_60 : decode M_P_weigh.2.1 60 = .ok (.getfield 37, 3) := by decide +kernel
theorem d_P_weigh_63 : decode M_P_weigh.2.1 63 = .ok (.iload 4, 2) := by decide +kernel
theorem d_P_weigh_65 : decode M_P_weigh.2.1 65 = .ok (.iaload, 1) := by decide +kernel
theorem d_P_weigh_66 : decode M_P_weigh.2.1 66 = .ok (.iadd, 1) := by decide +kernel
theorem d_P_weigh_67 : decode M_P_weigh.2.1 67 = .ok (.iastore, 1) := by decide +kernel
theorem d_P_weigh_68 : decode M_P_weigh.2.1 68 = .ok (.aload_n 0, 1) := by decide +kernel
theorem d_P_weigh_69 : decode M_P_weigh.2.1 69 = .ok (.getfield 25, 3) := by decide +kernel
theorem d_P_weigh_72 : decode M_P_weigh.2.1 72 = .ok (.iload_n 2, 1) := by decide +kernel
theorem d_P_weigh_73 : decode M_P_weigh.2.1 73 = .ok (.aload_n 0, 1) := by decide +kernel
theorem d_P_weigh_74 : decode M_P_weigh.2.1 74 = .ok (.getfield 25, 3) := by decide +kernel
theorem d_P_weigh_77 : decode M_P_weigh.2.1 77 = .ok (.iload_n 3, 1) := by decide +kernel
theorem d_P_weigh_78 : decode M_P_weigh.2.1 78 = .ok (.iaload, 1) := by decide +kernel
theorem d_P_weigh_79 : decode M_P_weigh.2.1 79 = .ok (.aload_n 0, 1) := by decide +kernel
theorem d_P_weigh_80 : decode M_P_weigh.2.1 80 = .ok (.getfield 46, 3) := by decide +kernel
theorem d_P_weigh_83 : decode M_P_weigh.2.1 83 = .ok (.getfield 92, 3) := by decide +kernel
theorem d_P_weigh_86 : decode M_P_weigh.2.1 86 = .ok (.iload 4, 2) := by decide +kernel
theorem d_P_weigh_88 : decode M_P_weigh.2.1 88 = .ok (.iaload, 1) := by decide +kernel
theorem d_P_weigh_89 : decode M_P_weigh.2.1 89 = .ok (.ior, 1) := by decide +kernel
theorem d_P_weigh_90 : decode M_P_weigh.2.1 90 = .ok (.iastore, 1) := by decide +kernel
theorem d_P_weigh_91 : decode M_P_weigh.2.1 91 = .ok (.aload_n 0, 1) := by decide +kernel
theorem d_P_weigh_92 : decode M_P_weigh.2.1 92 = .ok (.getfield 28, 3) := by decide +kernel
theorem d_P_weigh_95 : decode M_P_weigh.2.1 95 = .ok (.iload_n 2, 1) := by decide +kernel
theorem d_P_weigh_96 : decode M_P_weigh.2.1 96 = .ok (.aload_n 0, 1) := by decide +kernel
theorem d_P_weigh_97 : decode M_P_weigh.2.1 97 = .ok (.getfield 28, 3) := by decide +kernel
theorem d_P_weigh_100 : decode M_P_weigh.2.1 100 = .ok (.iload_n 3, 1) := by decide +kernel
theorem d_P_weigh_101 : decode M_P_weigh.2.1 101 = .ok (.iaload, 1) := by decide +kernel
theorem d_P_weigh_102 : decode M_P_weigh.2.1 102 = .ok (.aload_n 1, 1) := by decide +kernel
theorem d_P_weigh_103 : decode M_P_weigh.2.1 103 = .ok (.getfield 93, 3) := by decide +kernel
theorem d_P_weigh_106 : decode M_P_weigh.2.1 106 = .ok (.iload 5, 2) := by decide +kernel
theorem d_P_weigh_108 : decode M_P_weigh.2.1 108 = .ok (.iaload, 1) := by decide +kernel
theorem d_P_weigh_109 : decode M_P_weigh.2.1 109 = .ok (.iadd, 1) := by decide +kernel
theorem d_P_weigh_110 : decode M_P_weigh.2.1 110 = .ok (.iastore, 1) := by decide +kernel
theorem d_P_weigh_111 : decode M_P_weigh.2.1 111 = .ok (.aload_n 0, 1) := by decide +kernel
theorem d_P_weigh_112 : decode M_P_weigh.2.1 112 = .ok (.getfield 31, 3) := by decide +kernel
theorem d_P_weigh_115 : decode M_P_weigh.2.1 115 = .ok (.iload_n 2, 1) := by decide +kernel
theorem d_P_weigh_116 : decode M_P_weigh.2.1 116 = .ok (.aload_n 0, 1) := by decide +kernel
theorem d_P_weigh_117 : decode M_P_weigh.2.1 117 = .ok (.getfield 31, 3) := by decide +kernel
theorem d_P_weigh_120 : decode M_P_weigh.2.1 120 = .ok (.iload_n 3, 1) := by decide +kernel
theorem d_P_weigh_121 : decode M_P_weigh.2.1 121 = .ok (.iaload, 1) := by decide +kernel
theorem d_P_weigh_122 : decode M_P_weigh.2.1 122 = .ok (.iconst 1, 1) := by decide +kernel
theorem d_P_weigh_123 : decode M_P_weigh.2.1 123 = .ok (.aload_n 1, 1) := by decide +kernel
theorem d_P_weigh_124 : decode M_P_weigh.2.1 124 = .ok (.getfield 94, 3) := by decide +kernel
theorem d_P_weigh_127 : decode M_P_weigh.2.1 127 = .ok (.iload 5, 2) := by decide +kernel
theorem d_P_weigh_129 : decode M_P_weigh.2.1 129 = .ok (.iaload, 1) := by decide +kernel
theorem d_P_weigh_130 : decode M_P_weigh.2.1 130 = .ok (.ishl, 1) := by decide +kernel
theorem d_P_weigh_131 : decode M_P_weigh.2.1 131 = .ok (.ior, 1) := by decide +kernel
theorem d_P_weigh_132 : decode M_P_weigh.2.1 132 = .ok (.iastore, 1) := by decide +kernel
theorem d_P_weigh_133 : decode M_P_weigh.2.1 133 = .ok (.aload_n 0, 1) := by decide +kernel
theorem d_P_weigh_134 : decode M_P_weigh.2.1 134 = .ok (.getfield 11, 3) := by decide +kernel
theorem d_P_weigh_137 : decode M_P_weigh.2.1 137 = .ok (.iload_n 2, 1) := by decide +kernel
theorem d_P_weigh_138 : decode M_P_weigh.2.1 138 = .ok (.aload_n 0, 1) := by decide +kernel
theorem d_P_weigh_139 : decode M_P_weigh.2.1 139 = .ok (.getfield 28, 3) := by decide +kernel
theorem d_P_weigh_142 : decode M_P_weigh.2.1 142 = .ok (.iload_n 2, 1) := by decide +kernel
theorem d_P_weigh_143 : decode M_P_weigh.2.1 143 = .ok (.iaload, 1) := by decide +kernel
theorem d_P_weigh_144 : decode M_P_weigh.2.1 144 = .ok (.aload_n 0, 1) := by decide +kernel
theorem d_P_weigh_145 : decode M_P_weigh.2.1 145 = .ok (.getfield 46, 3) := by decide +kernel
theorem d_P_weigh_148 : decode M_P_weigh.2.1 148 = .ok (.getfield 97, 3) := by decide +kernel
theorem d_P_weigh_151 : decode M_P_weigh.2.1 151 = .ok (.if_icmp .gt 26, 3) := by decide +kernel
theorem d_P_weigh_154 : decode M_P_weigh.2.1 154 = .ok (.aload_n 0, 1) := by decide +kernel
theorem d_P_weigh_155 : decode M_P_weigh.2.1 155 = .ok (.getfield 31, 3) := by decide +kernel
theorem d_P_weigh_158 : decode M_P_weigh.2.1 158 = .ok (.iload_n 2, 1) := by decide +kernel
theorem d_P_weigh_159 : decode M_P_weigh.2.1 159 = .ok (.iaload, 1) := by decide +kernel
theorem d_P_weigh_160 : decode M_P_weigh.2.1 160 = .ok (.invokestatic 81, 3) := by decide +kernel
theorem d_P_weigh_163 : decode M_P_weigh.2.1 163 = .ok (.aload_n 0, 1) := by decide +kernel
theorem d_P_weigh_164 : decode M_P_weigh.2.1 164 = .ok (.getfield 46, 3) := by decide +kernel
theorem d_P_weigh_167 : decode M_P_weigh.2.1 167 = .ok (.getfield 99, 3) := by decide +kernel
theorem d_P_weigh_170 : decode M_P_weigh.2.1 170 = .ok (.if_icmp .gt 7, 3) := by decide +kernel
theorem d_P_weigh_173 : decode M_P_weigh.2.1 173 = .ok (.iconst 1, 1) := by decide +kernel
theorem d_P_weigh_174 : decode M_P_weigh.2.1 174 = .ok (.goto 4, 3) := by decide +kernel
theorem d_P_weigh_177 : decode M_P_weigh.2.1 177 = .ok (.iconst 0, 1) := by decide +kernel
theorem d_P_weigh_178 : decode M_P_weigh.2.1 178 = .ok (.bastore, 1) := by decide +kernel
theorem d_P_weigh_179 : decode M_P_weigh.2.1 179 = .ok (.iconst 0, 1) := by decide +kernel
theorem d_P_weigh_180 : decode M_P_weigh.2.1 180 = .ok (.istore 6, 2) := by decide +kernel
theorem d_P_weigh_182 : decode M_P_weigh.2.1 182 = .ok (.iconst 0, 1) := by decide +kernel
theorem d_P_weigh_183 : decode M_P_weigh.2.1 183 = .ok (.istore 7, 2) := by decide +kernel
theorem d_P_weigh_185 : decode M_P_weigh.2.1 185 = .ok (.iload 7, 2) := by decide +kernel
theorem d_P_weigh_187 : decode M_P_weigh.2.1 187 = .ok (.aload_n 0, 1) := by decide +kernel
theorem d_P_weigh_188 : decode M_P_weigh.2.1 188 = .ok (.getfield 46, 3) := by decide +kernel
theorem d_P_weigh_191 : decode M_P_weigh.2.1 191 = .ok (.getfield 57, 3) := by decide +kernel
theorem d_P_weigh_194 : decode M_P_weigh.2.1 194 = .ok (.if_icmp .ge 43, 3) := by decide +kernel
theorem d_P_weigh_197 : decode M_P_weigh.2.1 197 = .ok (.aload_n 1, 1) := by decide +kernel
theorem d_P_weigh_198 : decode M_P_weigh.2.1 198 = .ok (.getfield 94, 3) := by decide +kernel
theorem d_P_weigh_201 : decode M_P_weigh.2.1 201 = .ok (.aload_n 0, 1) := by decide +kernel
theorem d_P_weigh_202 : decode M_P_weigh.2.1 202 = .ok (.getfield 46, 3) := by decide +kernel
theorem d_P_weigh_205 : decode M_P_weigh.2.1 205 = .ok (.getfield 86, 3) := by decide +kernel
theorem d_P_weigh_208 : decode M_P_weigh.2.1 208 = .ok (.iload 7, 2) := by decide +kernel
theorem d_P_weigh_210 : decode M_P_weigh.2.1 210 = .ok (.iaload, 1) := by decide +kernel
theorem d_P_weigh_211 : decode M_P_weigh.2.1 211 = .ok (.iaload, 1) := by decide +kernel
theorem d_P_weigh_212 : decode M_P_weigh.2.1 212 = .ok (.aload_n 1, 1) := by decide +kernel
theorem d_P_weigh_213 : decode M_P_weigh.2.1 213 = .ok (.getfield 94, 3) := by decide +kernel
theorem d_P_weigh_216 : decode M_P_weigh.2.1 216 = .ok (.iload 5, 2) := by decide +kernel
theorem d_P_weigh_218 : decode M_P_weigh.2.1 218 = .ok (.iaload, 1) := by decide +kernel
theorem d_P_weigh_219 : decode M_P_weigh.2.1 219 = .ok (.if_icmp .ne 12, 3) := by decide +kernel
theorem d_P_weigh_222 : decode M_P_weigh.2.1 222 = .ok (.iload 6, 2) := by decide +kernel
theorem d_P_weigh_224 : decode M_P_weigh.2.1 224 = .ok (.iconst 1, 1) := by decide +kernel
theorem d_P_weigh_225 : decode M_P_weigh.2.1 225 = .ok (.iload 7, 2) := by decide +kernel
theorem d_P_weigh_227 : decode M_P_weigh.2.1 227 = .ok (.ishl, 1) := by decide +kernel
theorem d_P_weigh_228 : decode M_P_weigh.2.1 228 = .ok (.ior, 1) := by decide +kernel
theorem d_P_weigh_229 : decode M_P_weigh.2.1 229 = .ok (.istore 6, 2) := by decide +kernel
theorem d_P_weigh_231 : decode M_P_weigh.2.1 231 = .ok (.iinc 7 1, 3) := by decide +kernel
theorem d_P_weigh_234 : decode M_P_weigh.2.1 234 = .ok (.goto (-49), 3) := by decide +kernel
theorem d_P_weigh_237 : decode M_P_weigh.2.1 237 = .ok (.aload_n 0, 1) := by decide +kernel
theorem d_P_weigh_238 : decode M_P_weigh.2.1 238 = .ok (.getfield 22, 3) := by decide +kernel
theorem d_P_weigh_241 : decode M_P_weigh.2.1 241 = .ok (.iload_n 2, 1) := by decide +kernel
theorem d_P_weigh_242 : decode M_P_weigh.2.1 242 = .ok (.aload_n 0, 1) := by decide +kernel
theorem d_P_weigh_243 : decode M_P_weigh.2.1 243 = .ok (.getfield 22, 3) := by decide +kernel
theorem d_P_weigh_246 : decode M_P_weigh.2.1 246 = .ok (.iload_n 3, 1) := by decide +kernel
theorem d_P_weigh_247 : decode M_P_weigh.2.1 247 = .ok (.iaload, 1) := by decide +kernel
theorem d_P_weigh_248 : decode M_P_weigh.2.1 248 = .ok (.iload 6, 2) := by decide +kernel
theorem d_P_weigh_250 : decode M_P_weigh.2.1 250 = .ok (.ior, 1) := by decide +kernel
theorem d_P_weigh_251 : decode M_P_weigh.2.1 251 = .ok (.iastore, 1) := by decide +kernel
theorem d_P_weigh_252 : decode M_P_weigh.2.1 252 = .ok (.return_, 1) := by decide +kernel
theorem d_P_leastFrom_0 : decode M_P_leastFrom.2.1 0 = .ok (.iload_n 3, 1) := by decide +kernel
theorem d_P_leastFrom_1 : decode M_P_leastFrom.2.1 1 = .ok (.iload_n 2, 1) := by decide +kernel
theorem d_P_leastFrom_2 : decode M_P_leastFrom.2.1 2 = .ok (.iconst (-1), 1) := by decide +kernel
theorem d_P_leastFrom_3 : decode M_P_leastFrom.2.1 3 = .ok (.ixor, 1) := by decide +kernel
theorem d_P_leastFrom_4 : decode M_P_leastFrom.2.1 4 = .ok (.iand, 1) := by decide +kernel
theorem d_P_leastFrom_5 : decode M_P_leastFrom.2.1 5 = .ok (.istore 4, 2) := by decide +kernel
theorem d_P_leastFrom_7 : decode M_P_leastFrom.2.1 7 = .ok (.ldc 66, 2) := by decide +kernel
theorem d_P_leastFrom_9 : decode M_P_leastFrom.2.1 9 = .ok (.istore 5, 2) := by decide +kernel
theorem d_P_leastFrom_11 : decode M_P_leastFrom.2.1 11 = .ok (.iconst 0, 1) := by decide +kernel
theorem d_P_leastFrom_12 : decode M_P_leastFrom.2.1 12 = .ok (.istore 6, 2) := by decide +kernel
theorem d_P_leastFrom_14 : decode M_P_leastFrom.2.1 14 = .ok (.iload 6, 2) := by decide +kernel
theorem d_P_leastFrom_16 : decode M_P_leastFrom.2.1 16 = .ok (.iload 4, 2) := by decide +kernel
theorem d_P_leastFrom_18 : decode M_P_leastFrom.2.1 18 = .ok (.if_icmp .gt 155, 3) := by decide +kernel
theorem d_P_leastFrom_21 : decode M_P_leastFrom.2.1 21 = .ok (.iload 6, 2) := by decide +kernel
theorem d_P_leastFrom_23 : decode M_P_leastFrom.2.1 23 = .ok (.iload_n 2, 1) := by decide +kernel
theorem d_P_leastFrom_24 : decode M_P_leastFrom.2.1 24 = .ok (.iand, 1) := by decide +kernel
theorem d_P_leastFrom_25 : decode M_P_leastFrom.2.1 25 = .ok (.ifCond .eq 6, 3) := by decide +kernel
theorem d_P_leastFrom_28 : decode M_P_leastFrom.2.1 28 = .ok (.goto 139, 3) := by decide +kernel
theorem d_P_leastFrom_31 : decode M_P_leastFrom.2.1 31 = .ok (.iload_n 2, 1) := by decide +kernel
theorem d_P_leastFrom_32 : decode M_P_leastFrom.2.1 32 = .ok (.iload 6, 2) := by decide +kernel
theorem d_P_leastFrom_34 : decode M_P_leastFrom.2.1 34 = .ok (.ior, 1) := by decide +kernel
theorem d_P_leastFrom_35 : decode M_P_leastFrom.2.1 35 = .ok (.istore 7, 2) := by decide +kernel
theorem d_P_leastFrom_37 : decode M_P_leastFrom.2.1 37 = .ok (.aload_n 0, 1) := by decide +kernel
theorem d_P_leastFrom_38 : decode M_P_leastFrom.2.1 38 = .ok (.getfield 22, 3) := by decide +kernel
theorem d_P_leastFrom_41 : decode M_P_leastFrom.2.1 41 = .ok (.iload_n 2, 1) := by decide +kernel
theorem d_P_leastFrom_42 : decode M_P_leastFrom.2.1 42 = .ok (.iaload, 1) := by decide +kernel
theorem d_P_leastFrom_43 : decode M_P_leastFrom.2.1 43 = .ok (.aload_n 0, 1) := by decide +kernel
theorem d_P_leastFrom_44 : decode M_P_leastFrom.2.1 44 = .ok (.getfield 25, 3) := by decide +kernel
theorem d_P_leastFrom_47 : decode M_P_leastFrom.2.1 47 = .ok (.iload 6, 2) := by decide +kernel
theorem d_P_leastFrom_49 : decode M_P_leastFrom.2.1 49 = .ok (.iaload, 1) := by decide +kernel
theorem d_P_leastFrom_50 : decode M_P_leastFrom.2.1 50 = .ok (.ior, 1) := by decide +kernel
theorem d_P_leastFrom_51 : decode M_P_leastFrom.2.1 51 = .ok (.iload 7, 2) := by decide +kernel
theorem d_P_leastFrom_53 : decode M_P_leastFrom.2.1 53 = .ok (.iconst (-1), 1) := by decide +kernel
theorem d_P_leastFrom_54 : decode M_P_leastFrom.2.1 54 = .ok (.ixor, 1) := by decide +kernel
theorem d_P_leastFrom_55 : decode M_P_leastFrom.2.1 55 = .ok (.iand, 1) := by decide +kernel
theorem d_P_leastFrom_56 : decode M_P_leastFrom.2.1 56 = .ok (.ifCond .ne 7, 3) := by decide +kernel
theorem d_P_leastFrom_59 : decode M_P_leastFrom.2.1 59 = .ok (.iconst 1, 1) := by decide +kernel
theorem d_P_leastFrom_60 : decode M_P_leastFrom.2.1 60 = .ok (.goto 4, 3) := by decide +kernel
theorem d_P_leastFrom_63 : decode M_P_leastFrom.2.1 63 = .ok (.iconst 0, 1) := by decide +kernel
theorem d_P_leastFrom_64 : decode M_P_leastFrom.2.1 64 = .ok (.istore 8, 2) := by decide +kernel
theorem d_P_leastFrom_66 : decode M_P_leastFrom.2.1 66 = .ok (.aload_n 0, 1) := by decide +kernel
theorem d_P_leastFrom_67 : decode M_P_leastFrom.2.1 67 = .ok (.getfield 15, 3) := by decide +kernel
theorem d_P_leastFrom_70 : decode M_P_leastFrom.2.1 70 = .ok (.iload 6, 2) := by decide +kernel
theorem d_P_leastFrom_72 : decode M_P_leastFrom.2.1 72 = .ok (.iaload, 1) := by decide +kernel
theorem d_P_leastFrom_73 : decode M_P_leastFrom.2.1 73 = .ok (.aload_n 0, 1) := by decide +kernel
theorem d_P_leastFrom_74 : decode M_P_leastFrom.2.1 74 = .ok (.getfield 46, 3) := by decide +kernel
theorem d_P_leastFrom_77 : decode M_P_leastFrom.2.1 77 = .ok (.getfield 101, 3) := by decide +kernel
theorem d_P_leastFrom_80 : decode M_P_leastFrom.2.1 80 = .ok (.iload_n 1, 1) := by decide +kernel
theorem d_P_leastFrom_81 : decode M_P_leastFrom.2.1 81 = .ok (.iaload, 1) := by decide +kernel
theorem d_P_leastFrom_82 : decode M_P_leastFrom.2.1 82 = .ok (.iand, 1) := by decide +kernel
theorem d_P_leastFrom_83 : decode M_P_leastFrom.2.1 83 = .ok (.ifCond .ne 7, 3) := by decide +kernel
theorem d_P_leastFrom_86 : decode M_P_leastFrom.2.1 86 = .ok (.iconst 1, 1) := by decide +kernel
theorem d_P_leastFrom_87 : decode M_P_leastFrom.2.1 87 = .ok (.goto 4, 3) := by decide +kernel
theorem d_P_leastFrom_90 : decode M_P_leastFrom.2.1 90 = .ok (.iconst 0, 1) := by decide +kernel
theorem d_P_leastFrom_91 : decode M_P_leastFrom.2.1 91 = .ok (.istore 9, 2) := by decide +kernel
theorem d_P_leastFrom_93 : decode M_P_leastFrom.2.1 93 = .ok (.iload 8, 2) := by decide +kernel
theorem d_P_leastFrom_95 : decode M_P_leastFrom.2.1 95 = .ok (.ifCond .eq 72, 3) := by decide +kernel
theorem d_P_leastFrom_98 : decode M_P_leastFrom.2.1 98 = .ok (.iload 9, 2) := by decide +kernel
theorem d_P_leastFrom_100 : decode M_P_leastFrom.2.1 100 = .ok (.ifCond .eq 67, 3) := by decide +kernel
theorem d_P_leastFrom_103 : decode M_P_leastFrom.2.1 103 = .ok (.aload_n 0, 1) := by decide +kernel
theorem d_P_leastFrom_104 : decode M_P_leastFrom.2.1 104 = .ok (.getfield 11, 3) := by decide +kernel
theorem d_P_leastFrom_107 : decode M_P_leastFrom.2.1 107 = .ok (.iload 6, 2) := by decide +kernel
theorem d_P_leastFrom_109 : decode M_P_leastFrom.2.1 109 = .ok (.baload, 1) := by decide +kernel
theorem d_P_leastFrom_110 : decode M_P_leastFrom.2.1 110 = .ok (.ifCond .eq 57, 3) := by decide +kernel
theorem d_P_leastFrom_113 : decode M_P_leastFrom.2.1 113 = .ok (.aload_n 0, 1) := by decide +kernel
theorem d_P_leastFrom_114 : decode M_P_leastFrom.2.1 114 = .ok (.getfield 34, 3) := by decide +kernel
theorem d_P_leastFrom_117 : decode M_P_leastFrom.2.1 117 = .ok (.iload 7, 2) := by decide +kernel
theorem d_P_leastFrom_119 : decode M_P_leastFrom.2.1 119 = .ok (.iaload, 1) := by decide +kernel
theorem d_P_leastFrom_120 : decode M_P_leastFrom.2.1 120 = .ok (.ldc 66, 2) := by decide +kernel
theorem d_P_leastFrom_122 : decode M_P_leastFrom.2.1 122 = .ok (.if_icmp .eq 45, 3) := by decide +kernel
theorem d_P_leastFrom_125 : decode M_P_leastFrom.2.1 125 = .ok (.aload_n 0, 1) := by decide +kernel
theorem d_P_leastFrom_126 : decode M_P_leastFrom.2.1 126 = .ok (.getfield 15, 3) := by decide +kernel
theorem d_P_leastFrom_129 : decode M_P_leastFrom.2.1 129 = .ok (.iload 6, 2) := by decide +kernel
theorem d_P_leastFrom_131 : decode M_P_leastFrom.2.1 131 = .ok (.iaload, 1) := by decide +kernel
theorem d_P_leastFrom_132 : decode M_P_leastFrom.2.1 132 = .ok (.invokestatic 81, 3) := by decide +kernel
theorem d_P_leastFrom_135 : decode M_P_leastFrom.2.1 135 = .ok (.ldc 104, 2) := by decide +kernel
theorem d_P_leastFrom_137 : decode M_P_leastFrom.2.1 137 = .ok (.imul, 1) := by decide +kernel
theorem d_P_leastFrom_138 : decode M_P_leastFrom.2.1 138 = .ok (.iload_n 1, 1) := by decide +kernel
theorem d_P_leastFrom_139 : decode M_P_leastFrom.2.1 139 = .ok (.aload_n 0, 1) := by decide +kernel
theorem d_P_leastFrom_140 : decode M_P_leastFrom.2.1 140 = .ok (.getfield 19, 3) := by decide +kernel
theorem d_P_leastFrom_143 : decode M_P_leastFrom.2.1 143 = .ok (.iload 6, 2) := by decide +kernel
theorem d_P_leastFrom_145 : decode M_P_leastFrom.2.1 145 = .ok (.iaload, 1) := by decide +kernel
theorem d_P_leastFrom_146 : decode M_P_leastFrom.2.1 146 = .ok (.imul, 1) := by decide +kernel
theorem d_P_leastFrom_147 : decode M_P_leastFrom.2.1 147 = .ok (.iadd, 1) := by decide +kernel
theorem d_P_leastFrom_148 : decode M_P_leastFrom.2.1 148 = .ok (.aload_n 0, 1) := by decide +kernel
theorem d_P_leastFrom_149 : decode M_P_leastFrom.2.1 149 = .ok (.getfield 34, 3) := by decide +kernel
theorem d_P_leastFrom_152 : decode M_P_leastFrom.2.1 152 = .ok (.iload 7, 2) := by decide +kernel
theorem d_P_leastFrom_154 : decode M_P_leastFrom.2.1 154 = .ok (.iaload, 1) := by decide +kernel
theorem d_P_leastFrom_155 : decode M_P_leastFrom.2.1 155 = .ok (.iadd, 1) := by decide +kernel
theorem d_P_leastFrom_156 : decode M_P_leastFrom.2.1 156 = .ok (.istore 10, 2) := by decide +kernel
theorem d_P_leastFrom_158 : decode M_P_leastFrom.2.1 158 = .ok (.iload 5, 2) := by decide +kernel
theorem d_P_leastFrom_160 : decode M_P_leastFrom.2.1 160 = .ok (.iload 10, 2) := by decide +kernel
theorem d_P_leastFrom_162 : decode M_P_leastFrom.2.1 162 = .ok (.invokestatic 105, 3) := by decide +kernel
theorem d_P_leastFrom_165 : decode M_P_leastFrom.2.1 165 = .ok (.istore 5, 2) := by decide +kernel
theorem d_P_leastFrom_167 : decode M_P_leastFrom.2.1 167 = .ok (.iinc 6 1, 3) := by decide +kernel
theorem d_P_leastFrom_170 : decode M_P_leastFrom.2.1 170 = .ok (.goto (-156), 3) := by decide +kernel
theorem d_P_leastFrom_173 : decode M_P_leastFrom.2.1 173 = .ok (.iload 5, 2) := by decide +kernel
theorem d_P_leastFrom_175 : decode M_P_leastFrom.2.1 175 = .ok (.ireturn, 1) := by decide +kernel
theorem d_P_keepDays_0 : decode M_P_keepDays.2.1 0 = .ok (.aload_n 0, 1) := by decide +kernel
theorem d_P_keepDays_1 : decode M_P_keepDays.2.1 1 = .ok (.aload_n 0, 1) := by decide +kernel
theorem d_P_keepDays_2 : decode M_P_keepDays.2.1 2 = .ok (.getfield 46, 3) := by decide +kernel
theorem d_P_keepDays_5 : decode M_P_keepDays.2.1 5 = .ok (.getfield 57, 3) := by decide +kernel
theorem d_P_keepDays_8 : decode M_P_keepDays.2.1 8 = .ok (.putfield 50, 3) := by decide +kernel
theorem d_P_keepDays_11 : decode M_P_keepDays.2.1 11 = .ok (.iload_n 1, 1) := by decide +kernel
theorem d_P_keepDays_12 : decode M_P_keepDays.2.1 12 = .ok (.ldc 104, 2) := by decide +kernel
theorem d_P_keepDays_14 : decode M_P_keepDays.2.1 14 = .ok (.irem, 1) := by decide +kernel
theorem d_P_keepDays_15 : decode M_P_keepDays.2.1 15 = .ok (.istore_n 2, 1) := by decide +kernel
theorem d_P_keepDays_16 : decode M_P_keepDays.2.1 16 = .ok (.aload_n 0, 1) := by decide +kernel
theorem d_P_keepDays_17 : decode M_P_keepDays.2.1 17 = .ok (.getfield 46, 3) := by decide +kernel
theorem d_P_keepDays_20 : decode M_P_keepDays.2.1 20 = .ok (.getfield 57, 3) := by decide +kernel
theorem d_P_keepDays_23 : decode M_P_keepDays.2.1 23 = .ok (.iconst 1, 1) := by decide +kernel
theorem d_P_keepDays_24 : decode M_P_keepDays.2.1 24 = .ok (.isub, 1) := by decide +kernel
theorem d_P_keepDays_25 : decode M_P_keepDays.2.1 25 = .ok (.istore_n 3, 1) := by decide +kernel
theorem d_P_keepDays_26 : decode M_P_keepDays.2.1 26 = .ok (.iload_n 3, 1) := by decide +kernel
theorem d_P_keepDays_27 : decode M_P_keepDays.2.1 27 = .ok (.ifCond .lt 39, 3) := by decide +kernel
theorem d_P_keepDays_30 : decode M_P_keepDays.2.1 30 = .ok (.aload_n 0, 1) := by decide +kernel
theorem d_P_keepDays_31 : decode M_P_keepDays.2.1 31 = .ok (.getfield 40, 3) := by decide +kernel
theorem d_P_keepDays_34 : decode M_P_keepDays.2.1 34 = .ok (.iload_n 3, 1) := by decide +kernel
theorem d_P_keepDays_35 : decode M_P_keepDays.2.1 35 = .ok (.aload_n 0, 1) := by decide +kernel
theorem d_P_keepDays_36 : decode M_P_keepDays.2.1 36 = .ok (.getfield 46, 3) := by decide +kernel
theorem d_P_keepDays_39 : decode M_P_keepDays.2.1 39 = .ok (.getfield 86, 3) := by decide +kernel
theorem d_P_keepDays_42 : decode M_P_keepDays.2.1 42 = .ok (.iload_n 3, 1) := by decide +kernel
theorem d_P_keepDays_43 : decode M_P_keepDays.2.1 43 = .ok (.iaload, 1) := by decide +kernel
theorem d_P_keepDays_44 : decode M_P_keepDays.2.1 44 = .ok (.iastore, 1) := by decide +kernel
theorem d_P_keepDays_45 : decode M_P_keepDays.2.1 45 = .ok (.aload_n 0, 1) := by decide +kernel
theorem d_P_keepDays_46 : decode M_P_keepDays.2.1 46 = .ok (.getfield 43, 3) := by decide +kernel
theorem d_P_keepDays_49 : decode M_P_keepDays.2.1 49 = .ok (.iload_n 3, 1) := by decide +kernel
theorem d_P_keepDays_50 : decode M_P_keepDays.2.1 50 = .ok (.iload_n 2, 1) := by decide +kernel
theorem d_P_keepDays_51 : decode M_P_keepDays.2.1 51 = .ok (.bipush 6, 2) := by decide +kernel
theorem d_P_keepDays_53 : decode M_P_keepDays.2.1 53 = .ok (.irem, 1) := by decide +kernel
theorem d_P_keepDays_54 : decode M_P_keepDays.2.1 54 = .ok (.iastore, 1) := by decide +kernel
theorem d_P_keepDays_55 : decode M_P_keepDays.2.1 55 = .ok (.iload_n 2, 1) := by decide +kernel
theorem d_P_keepDays_56 : decode M_P_keepDays.2.1 56 = .ok (.bipush 6, 2) := by decide +kernel
theorem d_P_keepDays_58 : decode M_P_keepDays.2.1 58 = .ok (.idiv, 1) := by decide +kernel
theorem d_P_keepDays_59 : decode M_P_keepDays.2.1 59 = .ok (.istore_n 2, 1) := by decide +kernel
theorem d_P_keepDays_60 : decode M_P_keepDays.2.1 60 = .ok (.iinc 3 (-1), 3) := by decide +kernel
theorem d_P_keepDays_63 : decode M_P_keepDays.2.1 63 = .ok (.goto (-37), 3) := by decide +kernel
theorem d_P_keepDays_66 : decode M_P_keepDays.2.1 66 = .ok (.iload_n 1, 1) := by decide +kernel
theorem d_P_keepDays_67 : decode M_P_keepDays.2.1 67 = .ok (.ldc 104, 2) := by decide +kernel
theorem d_P_keepDays_69 : decode M_P_keepDays.2.1 69 = .ok (.idiv, 1) := by decide +kernel
theorem d_P_keepDays_70 : decode M_P_keepDays.2.1 70 = .ok (.ireturn, 1) := by decide +kernel
