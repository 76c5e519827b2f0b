/-! ===== decode rows ===== -/
theorem dX8_init_0 : decode cX8_init 0 = .ok (.aload_n 0, 1) := by decide +kernel
theorem dX8_init_1 : decode cX8_init 1 = .ok (.invokespecial 3, 3) := by decide +kernel
theorem dX8_init_4 : decode cX8_init 4 = .ok (.aload_n 0, 1) := by decide +kernel
theorem dX8_init_5 : decode cX8_init 5 = .ok (.new 9, 3) := by decide +kernel
theorem dX8_init_8 : decode cX8_init 8 = .ok (.dup, 1) := by decide +kernel
theorem dX8_init_9 : decode cX8_init 9 = .ok (.invokespecial 11, 3) := by decide +kernel
theorem dX8_init_12 : decode cX8_init 12 = .ok (.putfield 12, 3) := by decide +kernel
theorem dX8_init_15 : decode cX8_init 15 = .ok (.aload_n 0, 1) := by decide +kernel
theorem dX8_init_16 : decode cX8_init 16 = .ok (.new 9, 3) := by decide +kernel
theorem dX8_init_19 : decode cX8_init 19 = .ok (.dup, 1) := by decide +kernel
theorem dX8_init_20 : decode cX8_init 20 = .ok (.invokespecial 11, 3) := by decide +kernel
theorem dX8_init_23 : decode cX8_init 23 = .ok (.putfield 18, 3) := by decide +kernel
theorem dX8_init_26 : decode cX8_init 26 = .ok (.aload_n 0, 1) := by decide +kernel
theorem dX8_init_27 : decode cX8_init 27 = .ok (.aload_n 0, 1) := by decide +kernel
theorem dX8_init_28 : decode cX8_init 28 = .ok (.getfield 12, 3) := by decide +kernel
theorem dX8_init_31 : decode cX8_init 31 = .ok (.getfield 21, 3) := by decide +kernel
theorem dX8_init_34 : decode cX8_init 34 = .ok (.putfield 25, 3) := by decide +kernel
theorem dX8_init_37 : decode cX8_init 37 = .ok (.aload_n 0, 1) := by decide +kernel
theorem dX8_init_38 : decode cX8_init 38 = .ok (.new 26, 3) := by decide +kernel
theorem dX8_init_41 : decode cX8_init 41 = .ok (.dup, 1) := by decide +kernel
theorem dX8_init_42 : decode cX8_init 42 = .ok (.aload_n 0, 1) := by decide +kernel
theorem dX8_init_43 : decode cX8_init 43 = .ok (.getfield 12, 3) := by decide +kernel
theorem dX8_init_46 : decode cX8_init 46 = .ok (.getfield 21, 3) := by decide +kernel
theorem dX8_init_49 : decode cX8_init 49 = .ok (.aload_n 0, 1) := by decide +kernel
theorem dX8_init_50 : decode cX8_init 50 = .ok (.getfield 12, 3) := by decide +kernel
theorem dX8_init_53 : decode cX8_init 53 = .ok (.getfield 28, 3) := by decide +kernel
theorem dX8_init_56 : decode cX8_init 56 = .ok (.invokespecial 32, 3) := by decide +kernel
theorem dX8_init_59 : decode cX8_init 59 = .ok (.putfield 35, 3) := by decide +kernel
theorem dX8_init_62 : decode cX8_init 62 = .ok (.aload_n 0, 1) := by decide +kernel
theorem dX8_init_63 : decode cX8_init 63 = .ok (.new 39, 3) := by decide +kernel
theorem dX8_init_66 : decode cX8_init 66 = .ok (.dup, 1) := by decide +kernel
theorem dX8_init_67 : decode cX8_init 67 = .ok (.invokespecial 41, 3) := by decide +kernel
theorem dX8_init_70 : decode cX8_init 70 = .ok (.putfield 42, 3) := by decide +kernel
theorem dX8_init_73 : decode cX8_init 73 = .ok (.aload_n 0, 1) := by decide +kernel
theorem dX8_init_74 : decode cX8_init 74 = .ok (.bipush 6, 2) := by decide +kernel
theorem dX8_init_76 : decode cX8_init 76 = .ok (.anewarray 46, 3) := by decide +kernel
theorem dX8_init_79 : decode cX8_init 79 = .ok (.putfield 48, 3) := by decide +kernel
theorem dX8_init_82 : decode cX8_init 82 = .ok (.aload_n 0, 1) := by decide +kernel
theorem dX8_init_83 : decode cX8_init 83 = .ok (.new 52, 3) := by decide +kernel
theorem dX8_init_86 : decode cX8_init 86 = .ok (.dup, 1) := by decide +kernel
theorem dX8_init_87 : decode cX8_init 87 = .ok (.invokespecial 54, 3) := by decide +kernel
theorem dX8_init_90 : decode cX8_init 90 = .ok (.putfield 55, 3) := by decide +kernel
theorem dX8_init_93 : decode cX8_init 93 = .ok (.aload_n 0, 1) := by decide +kernel
theorem dX8_init_94 : decode cX8_init 94 = .ok (.new 59, 3) := by decide +kernel
theorem dX8_init_97 : decode cX8_init 97 = .ok (.dup, 1) := by decide +kernel
theorem dX8_init_98 : decode cX8_init 98 = .ok (.invokespecial 61, 3) := by decide +kernel
theorem dX8_init_101 : decode cX8_init 101 = .ok (.putfield 62, 3) := by decide +kernel
theorem dX8_init_104 : decode cX8_init 104 = .ok (.iconst 0, 1) := by decide +kernel
theorem dX8_init_105 : decode cX8_init 105 = .ok (.istore_n 1, 1) := by decide +kernel
theorem dX8_init_106 : decode cX8_init 106 = .ok (.iload_n 1, 1) := by decide +kernel
theorem dX8_init_107 : decode cX8_init 107 = .ok (.aload_n 0, 1) := by decide +kernel
theorem dX8_init_108 : decode cX8_init 108 = .ok (.getfield 48, 3) := by decide +kernel
theorem dX8_init_111 : decode cX8_init 111 = .ok (.arraylength, 1) := by decide +kernel
theorem dX8_init_112 : decode cX8_init 112 = .ok (.if_icmp .ge 22, 3) := by decide +kernel
theorem dX8_init_115 : decode cX8_init 115 = .ok (.aload_n 0, 1) := by decide +kernel
theorem dX8_init_116 : decode cX8_init 116 = .ok (.getfield 48, 3) := by decide +kernel
theorem dX8_init_119 : decode cX8_init 119 = .ok (.iload_n 1, 1) := by decide +kernel
theorem dX8_init_120 : decode cX8_init 120 = .ok (.new 46, 3) := by decide +kernel
theorem dX8_init_123 : decode cX8_init 123 = .ok (.dup, 1) := by decide +kernel
theorem dX8_init_124 : decode cX8_init 124 = .ok (.invokespecial 66, 3) := by decide +kernel
theorem dX8_init_127 : decode cX8_init 127 = .ok (.aastore, 1) := by decide +kernel
theorem dX8_init_128 : decode cX8_init 128 = .ok (.iinc 1 1, 3) := by decide +kernel
theorem dX8_init_131 : decode cX8_init 131 = .ok (.goto (-25), 3) := by decide +kernel
theorem dX8_init_134 : decode cX8_init 134 = .ok (.return_, 1) := by decide +kernel
theorem dX8_one_0 : decode cX8_one 0 = .ok (.iload_n 1, 1) := by decide +kernel
theorem dX8_one_1 : decode cX8_one 1 = .ok (.iconst 0, 1) := by decide +kernel
theorem dX8_one_2 : decode cX8_one 2 = .ok (.bipush 6, 2) := by decide +kernel
theorem dX8_one_4 : decode cX8_one 4 = .ok (.invokestatic 67, 3) := by decide +kernel
theorem dX8_one_7 : decode cX8_one 7 = .ok (.ifCond .ne 5, 3) := by decide +kernel
theorem dX8_one_10 : decode cX8_one 10 = .ok (.iconst (-1), 1) := by decide +kernel
theorem dX8_one_11 : decode cX8_one 11 = .ok (.ireturn, 1) := by decide +kernel
theorem dX8_one_12 : decode cX8_one 12 = .ok (.iload_n 2, 1) := by decide +kernel
theorem dX8_one_13 : decode cX8_one 13 = .ok (.iconst 0, 1) := by decide +kernel
theorem dX8_one_14 : decode cX8_one 14 = .ok (.bipush 9, 2) := by decide +kernel
theorem dX8_one_16 : decode cX8_one 16 = .ok (.invokestatic 67, 3) := by decide +kernel
theorem dX8_one_19 : decode cX8_one 19 = .ok (.ifCond .eq 13, 3) := by decide +kernel
theorem dX8_one_22 : decode cX8_one 22 = .ok (.iload_n 3, 1) := by decide +kernel
theorem dX8_one_23 : decode cX8_one 23 = .ok (.iconst 0, 1) := by decide +kernel
theorem dX8_one_24 : decode cX8_one 24 = .ok (.bipush 99, 2) := by decide +kernel
theorem dX8_one_26 : decode cX8_one 26 = .ok (.invokestatic 67, 3) := by decide +kernel
theorem dX8_one_29 : decode cX8_one 29 = .ok (.ifCond .ne 6, 3) := by decide +kernel
theorem dX8_one_32 : decode cX8_one 32 = .ok (.bipush (-2), 2) := by decide +kernel
theorem dX8_one_34 : decode cX8_one 34 = .ok (.ireturn, 1) := by decide +kernel
theorem dX8_one_35 : decode cX8_one 35 = .ok (.aload_n 0, 1) := by decide +kernel
theorem dX8_one_36 : decode cX8_one 36 = .ok (.getfield 25, 3) := by decide +kernel
theorem dX8_one_39 : decode cX8_one 39 = .ok (.getfield 71, 3) := by decide +kernel
theorem dX8_one_42 : decode cX8_one 42 = .ok (.bipush 6, 2) := by decide +kernel
theorem dX8_one_44 : decode cX8_one 44 = .ok (.if_icmp .lt 6, 3) := by decide +kernel
theorem dX8_one_47 : decode cX8_one 47 = .ok (.bipush (-4), 2) := by decide +kernel
theorem dX8_one_49 : decode cX8_one 49 = .ok (.ireturn, 1) := by decide +kernel
theorem dX8_one_50 : decode cX8_one 50 = .ok (.aload_n 0, 1) := by decide +kernel
theorem dX8_one_51 : decode cX8_one 51 = .ok (.getfield 25, 3) := by decide +kernel
theorem dX8_one_54 : decode cX8_one 54 = .ok (.iload_n 1, 1) := by decide +kernel
theorem dX8_one_55 : decode cX8_one 55 = .ok (.iload_n 2, 1) := by decide +kernel
theorem dX8_one_56 : decode cX8_one 56 = .ok (.iload_n 3, 1) := by decide +kernel
theorem dX8_one_57 : decode cX8_one 57 = .ok (.invokevirtual 77, 3) := by decide +kernel
theorem dX8_one_60 : decode cX8_one 60 = .ok (.ireturn, 1) := by decide +kernel
theorem dX8_of_0 : decode cX8_of 0 = .ok (.aload_n 0, 1) := by decide +kernel
theorem dX8_of_1 : decode cX8_of 1 = .ok (.getfield 25, 3) := by decide +kernel
theorem dX8_of_4 : decode cX8_of 4 = .ok (.iload_n 1, 1) := by decide +kernel
theorem dX8_of_5 : decode cX8_of 5 = .ok (.invokevirtual 81, 3) := by decide +kernel
theorem dX8_of_8 : decode cX8_of 8 = .ok (.ifCond .ne 7, 3) := by decide +kernel
theorem dX8_of_11 : decode cX8_of 11 = .ok (.sipush (-10001), 3) := by decide +kernel
theorem dX8_of_14 : decode cX8_of 14 = .ok (.ireturn, 1) := by decide +kernel
theorem dX8_of_15 : decode cX8_of 15 = .ok (.iload_n 2, 1) := by decide +kernel
theorem dX8_of_16 : decode cX8_of 16 = .ok (.tableswitch 103 0 5 #[40, 50, 60, 70, 83, 92], 40) := by decide +kernel
theorem dX8_of_56 : decode cX8_of 56 = .ok (.aload_n 0, 1) := by decide +kernel
theorem dX8_of_57 : decode cX8_of 57 = .ok (.getfield 25, 3) := by decide +kernel
theorem dX8_of_60 : decode cX8_of 60 = .ok (.getfield 85, 3) := by decide +kernel
theorem dX8_of_63 : decode cX8_of 63 = .ok (.iload_n 1, 1) := by decide +kernel
theorem dX8_of_64 : decode cX8_of 64 = .ok (.iaload, 1) := by decide +kernel
theorem dX8_of_65 : decode cX8_of 65 = .ok (.ireturn, 1) := by decide +kernel
theorem dX8_of_66 : decode cX8_of 66 = .ok (.aload_n 0, 1) := by decide +kernel
theorem dX8_of_67 : decode cX8_of 67 = .ok (.getfield 25, 3) := by decide +kernel
theorem dX8_of_70 : decode cX8_of 70 = .ok (.getfield 89, 3) := by decide +kernel
theorem dX8_of_73 : decode cX8_of 73 = .ok (.iload_n 1, 1) := by decide +kernel
theorem dX8_of_74 : decode cX8_of 74 = .ok (.iaload, 1) := by decide +kernel
theorem dX8_of_75 : decode cX8_of 75 = .ok (.ireturn, 1) := by decide +kernel
theorem dX8_of_76 : decode cX8_of 76 = .ok (.aload_n 0, 1) := by decide +kernel
theorem dX8_of_77 : decode cX8_of 77 = .ok (.getfield 25, 3) := by decide +kernel
theorem dX8_of_80 : decode cX8_of 80 = .ok (.getfield 92, 3) := by decide +kernel
theorem dX8_of_83 : decode cX8_of 83 = .ok (.iload_n 1, 1) := by decide +kernel
theorem dX8_of_84 : decode cX8_of 84 = .ok (.iaload, 1) := by decide +kernel
theorem dX8_of_85 : decode cX8_of 85 = .ok (.ireturn, 1) := by decide +kernel
theorem dX8_of_86 : decode cX8_of 86 = .ok (.aload_n 0, 1) := by decide +kernel
theorem dX8_of_87 : decode cX8_of 87 = .ok (.getfield 25, 3) := by decide +kernel
theorem dX8_of_90 : decode cX8_of 90 = .ok (.getfield 95, 3) := by decide +kernel
theorem dX8_of_93 : decode cX8_of 93 = .ok (.iload_n 1, 1) := by decide +kernel
theorem dX8_of_94 : decode cX8_of 94 = .ok (.baload, 1) := by decide +kernel
theorem dX8_of_95 : decode cX8_of 95 = .ok (.invokestatic 99, 3) := by decide +kernel
theorem dX8_of_98 : decode cX8_of 98 = .ok (.ireturn, 1) := by decide +kernel
theorem dX8_of_99 : decode cX8_of 99 = .ok (.aload_n 0, 1) := by decide +kernel
theorem dX8_of_100 : decode cX8_of 100 = .ok (.getfield 25, 3) := by decide +kernel
theorem dX8_of_103 : decode cX8_of 103 = .ok (.iload_n 1, 1) := by decide +kernel
theorem dX8_of_104 : decode cX8_of 104 = .ok (.invokevirtual 103, 3) := by decide +kernel
theorem dX8_of_107 : decode cX8_of 107 = .ok (.ireturn, 1) := by decide +kernel
theorem dX8_of_108 : decode cX8_of 108 = .ok (.aload_n 0, 1) := by decide +kernel
theorem dX8_of_109 : decode cX8_of 109 = .ok (.getfield 25, 3) := by decide +kernel
theorem dX8_of_112 : decode cX8_of 112 = .ok (.iload_n 1, 1) := by decide +kernel
theorem dX8_of_113 : decode cX8_of 113 = .ok (.bipush 50, 2) := by decide +kernel
theorem dX8_of_115 : decode cX8_of 115 = .ok (.invokevirtual 107, 3) := by decide +kernel
theorem dX8_of_118 : decode cX8_of 118 = .ok (.ireturn, 1) := by decide +kernel
theorem dX8_of_119 : decode cX8_of 119 = .ok (.sipush (-10001), 3) := by decide +kernel
theorem dX8_of_122 : decode cX8_of 122 = .ok (.ireturn, 1) := by decide +kernel
theorem dX8_heat_0 : decode cX8_heat 0 = .ok (.aload_n 0, 1) := by decide +kernel
theorem dX8_heat_1 : decode cX8_heat 1 = .ok (.getfield 25, 3) := by decide +kernel
theorem dX8_heat_4 : decode cX8_heat 4 = .ok (.iload_n 1, 1) := by decide +kernel
theorem dX8_heat_5 : decode cX8_heat 5 = .ok (.invokevirtual 81, 3) := by decide +kernel
theorem dX8_heat_8 : decode cX8_heat 8 = .ok (.ifCond .ne 5, 3) := by decide +kernel
theorem dX8_heat_11 : decode cX8_heat 11 = .ok (.iconst (-1), 1) := by decide +kernel
theorem dX8_heat_12 : decode cX8_heat 12 = .ok (.ireturn, 1) := by decide +kernel
theorem dX8_heat_13 : decode cX8_heat 13 = .ok (.iload_n 2, 1) := by decide +kernel
theorem dX8_heat_14 : decode cX8_heat 14 = .ok (.iconst 0, 1) := by decide +kernel
theorem dX8_heat_15 : decode cX8_heat 15 = .ok (.bipush 99, 2) := by decide +kernel
theorem dX8_heat_17 : decode cX8_heat 17 = .ok (.invokestatic 67, 3) := by decide +kernel
theorem dX8_heat_20 : decode cX8_heat 20 = .ok (.ifCond .ne 6, 3) := by decide +kernel
theorem dX8_heat_23 : decode cX8_heat 23 = .ok (.bipush (-2), 2) := by decide +kernel
theorem dX8_heat_25 : decode cX8_heat 25 = .ok (.ireturn, 1) := by decide +kernel
theorem dX8_heat_26 : decode cX8_heat 26 = .ok (.aload_n 0, 1) := by decide +kernel
theorem dX8_heat_27 : decode cX8_heat 27 = .ok (.getfield 25, 3) := by decide +kernel
theorem dX8_heat_30 : decode cX8_heat 30 = .ok (.getfield 92, 3) := by decide +kernel
theorem dX8_heat_33 : decode cX8_heat 33 = .ok (.iload_n 1, 1) := by decide +kernel
theorem dX8_heat_34 : decode cX8_heat 34 = .ok (.iaload, 1) := by decide +kernel
theorem dX8_heat_35 : decode cX8_heat 35 = .ok (.istore_n 3, 1) := by decide +kernel
theorem dX8_heat_36 : decode cX8_heat 36 = .ok (.aload_n 0, 1) := by decide +kernel
theorem dX8_heat_37 : decode cX8_heat 37 = .ok (.getfield 25, 3) := by decide +kernel
theorem dX8_heat_40 : decode cX8_heat 40 = .ok (.getfield 92, 3) := by decide +kernel
theorem dX8_heat_43 : decode cX8_heat 43 = .ok (.iload_n 1, 1) := by decide +kernel
theorem dX8_heat_44 : decode cX8_heat 44 = .ok (.iload_n 2, 1) := by decide +kernel
theorem dX8_heat_45 : decode cX8_heat 45 = .ok (.iastore, 1) := by decide +kernel
theorem dX8_heat_46 : decode cX8_heat 46 = .ok (.iload_n 3, 1) := by decide +kernel
theorem dX8_heat_47 : decode cX8_heat 47 = .ok (.ireturn, 1) := by decide +kernel
theorem dX8_away_0 : decode cX8_away 0 = .ok (.aload_n 0, 1) := by decide +kernel
theorem dX8_away_1 : decode cX8_away 1 = .ok (.getfield 25, 3) := by decide +kernel
theorem dX8_away_4 : decode cX8_away 4 = .ok (.iload_n 1, 1) := by decide +kernel
theorem dX8_away_5 : decode cX8_away 5 = .ok (.invokevirtual 81, 3) := by decide +kernel
theorem dX8_away_8 : decode cX8_away 8 = .ok (.ifCond .ne 5, 3) := by decide +kernel
theorem dX8_away_11 : decode cX8_away 11 = .ok (.iconst (-1), 1) := by decide +kernel
theorem dX8_away_12 : decode cX8_away 12 = .ok (.ireturn, 1) := by decide +kernel
theorem dX8_away_13 : decode cX8_away 13 = .ok (.aload_n 0, 1) := by decide +kernel
theorem dX8_away_14 : decode cX8_away 14 = .ok (.getfield 25, 3) := by decide +kernel
theorem dX8_away_17 : decode cX8_away 17 = .ok (.getfield 95, 3) := by decide +kernel
theorem dX8_away_20 : decode cX8_away 20 = .ok (.iload_n 1, 1) := by decide +kernel
theorem dX8_away_21 : decode cX8_away 21 = .ok (.baload, 1) := by decide +kernel
theorem dX8_away_22 : decode cX8_away 22 = .ok (.invokestatic 99, 3) := by decide +kernel
theorem dX8_away_25 : decode cX8_away 25 = .ok (.istore_n 3, 1) := by decide +kernel
theorem dX8_away_26 : decode cX8_away 26 = .ok (.aload_n 0, 1) := by decide +kernel
theorem dX8_away_27 : decode cX8_away 27 = .ok (.getfield 25, 3) := by decide +kernel
theorem dX8_away_30 : decode cX8_away 30 = .ok (.getfield 95, 3) := by decide +kernel
theorem dX8_away_33 : decode cX8_away 33 = .ok (.iload_n 1, 1) := by decide +kernel
theorem dX8_away_34 : decode cX8_away 34 = .ok (.iload_n 2, 1) := by decide +kernel
theorem dX8_away_35 : decode cX8_away 35 = .ok (.bastore, 1) := by decide +kernel
theorem dX8_away_36 : decode cX8_away 36 = .ok (.iload_n 3, 1) := by decide +kernel
theorem dX8_away_37 : decode cX8_away 37 = .ok (.ireturn, 1) := by decide +kernel
theorem dX8_work_0 : decode cX8_work 0 = .ok (.iload_n 1, 1) := by decide +kernel
theorem dX8_work_1 : decode cX8_work 1 = .ok (.iconst 1, 1) := by decide +kernel
theorem dX8_work_2 : decode cX8_work 2 = .ok (.sipush 999, 3) := by decide +kernel
theorem dX8_work_5 : decode cX8_work 5 = .ok (.invokestatic 67, 3) := by decide +kernel
theorem dX8_work_8 : decode cX8_work 8 = .ok (.ifCond .eq 13, 3) := by decide +kernel
theorem dX8_work_11 : decode cX8_work 11 = .ok (.iload_n 2, 1) := by decide +kernel
theorem dX8_work_12 : decode cX8_work 12 = .ok (.iconst 0, 1) := by decide +kernel
theorem dX8_work_13 : decode cX8_work 13 = .ok (.bipush 60, 2) := by decide +kernel
theorem dX8_work_15 : decode cX8_work 15 = .ok (.invokestatic 67, 3) := by decide +kernel
theorem dX8_work_18 : decode cX8_work 18 = .ok (.ifCond .ne 6, 3) := by decide +kernel
theorem dX8_work_21 : decode cX8_work 21 = .ok (.bipush (-2), 2) := by decide +kernel
theorem dX8_work_23 : decode cX8_work 23 = .ok (.ireturn, 1) := by decide +kernel
theorem dX8_work_24 : decode cX8_work 24 = .ok (.aload_n 0, 1) := by decide +kernel
theorem dX8_work_25 : decode cX8_work 25 = .ok (.getfield 25, 3) := by decide +kernel
theorem dX8_work_28 : decode cX8_work 28 = .ok (.getfield 111, 3) := by decide +kernel
theorem dX8_work_31 : decode cX8_work 31 = .ok (.iconst 4, 1) := by decide +kernel
theorem dX8_work_32 : decode cX8_work 32 = .ok (.if_icmp .lt 6, 3) := by decide +kernel
theorem dX8_work_35 : decode cX8_work 35 = .ok (.bipush (-4), 2) := by decide +kernel
theorem dX8_work_37 : decode cX8_work 37 = .ok (.ireturn, 1) := by decide +kernel
theorem dX8_work_38 : decode cX8_work 38 = .ok (.aload_n 0, 1) := by decide +kernel
theorem dX8_work_39 : decode cX8_work 39 = .ok (.getfield 25, 3) := by decide +kernel
theorem dX8_work_42 : decode cX8_work 42 = .ok (.iload_n 1, 1) := by decide +kernel
theorem dX8_work_43 : decode cX8_work 43 = .ok (.iload_n 2, 1) := by decide +kernel
theorem dX8_work_44 : decode cX8_work 44 = .ok (.invokevirtual 114, 3) := by decide +kernel
theorem dX8_work_47 : decode cX8_work 47 = .ok (.ireturn, 1) := by decide +kernel
theorem dX8_piece_0 : decode cX8_piece 0 = .ok (.aload_n 0, 1) := by decide +kernel
theorem dX8_piece_1 : decode cX8_piece 1 = .ok (.getfield 25, 3) := by decide +kernel
theorem dX8_piece_4 : decode cX8_piece 4 = .ok (.iload_n 1, 1) := by decide +kernel
theorem dX8_piece_5 : decode cX8_piece 5 = .ok (.invokevirtual 117, 3) := by decide +kernel
theorem dX8_piece_8 : decode cX8_piece 8 = .ok (.ifCond .ne 5, 3) := by decide +kernel
theorem dX8_piece_11 : decode cX8_piece 11 = .ok (.iconst (-1), 1) := by decide +kernel
theorem dX8_piece_12 : decode cX8_piece 12 = .ok (.ireturn, 1) := by decide +kernel
theorem dX8_piece_13 : decode cX8_piece 13 = .ok (.iload_n 2, 1) := by decide +kernel
theorem dX8_piece_14 : decode cX8_piece 14 = .ok (.tableswitch 85 0 4 #[34, 44, 54, 64, 76], 34) := by decide +kernel
theorem dX8_piece_48 : decode cX8_piece 48 = .ok (.aload_n 0, 1) := by decide +kernel
theorem dX8_piece_49 : decode cX8_piece 49 = .ok (.getfield 25, 3) := by decide +kernel
theorem dX8_piece_52 : decode cX8_piece 52 = .ok (.getfield 120, 3) := by decide +kernel
theorem dX8_piece_55 : decode cX8_piece 55 = .ok (.iload_n 1, 1) := by decide +kernel
theorem dX8_piece_56 : decode cX8_piece 56 = .ok (.iaload, 1) := by decide +kernel
theorem dX8_piece_57 : decode cX8_piece 57 = .ok (.ireturn, 1) := by decide +kernel
theorem dX8_piece_58 : decode cX8_piece 58 = .ok (.aload_n 0, 1) := by decide +kernel
theorem dX8_piece_59 : decode cX8_piece 59 = .ok (.getfield 25, 3) := by decide +kernel
theorem dX8_piece_62 : decode cX8_piece 62 = .ok (.getfield 123, 3) := by decide +kernel
theorem dX8_piece_65 : decode cX8_piece 65 = .ok (.iload_n 1, 1) := by decide +kernel
theorem dX8_piece_66 : decode cX8_piece 66 = .ok (.iaload, 1) := by decide +kernel
theorem dX8_piece_67 : decode cX8_piece 67 = .ok (.ireturn, 1) := by decide +kernel
theorem dX8_piece_68 : decode cX8_piece 68 = .ok (.aload_n 0, 1) := by decide +kernel
theorem dX8_piece_69 : decode cX8_piece 69 = .ok (.getfield 25, 3) := by decide +kernel
theorem dX8_piece_72 : decode cX8_piece 72 = .ok (.getfield 126, 3) := by decide +kernel
theorem dX8_piece_75 : decode cX8_piece 75 = .ok (.iload_n 1, 1) := by decide +kernel
theorem dX8_piece_76 : decode cX8_piece 76 = .ok (.iaload, 1) := by decide +kernel
theorem dX8_piece_77 : decode cX8_piece 77 = .ok (.ireturn, 1) := by decide +kernel
theorem dX8_piece_78 : decode cX8_piece 78 = .ok (.aload_n 0, 1) := by decide +kernel
theorem dX8_piece_79 : decode cX8_piece 79 = .ok (.getfield 25, 3) := by decide +kernel
theorem dX8_piece_82 : decode cX8_piece 82 = .ok (.iload_n 1, 1) := by decide +kernel
theorem dX8_piece_83 : decode cX8_piece 83 = .ok (.invokevirtual 129, 3) := by decide +kernel
theorem dX8_piece_86 : decode cX8_piece 86 = .ok (.invokestatic 99, 3) := by decide +kernel
theorem dX8_piece_89 : decode cX8_piece 89 = .ok (.ireturn, 1) := by decide +kernel
theorem dX8_piece_90 : decode cX8_piece 90 = .ok (.aload_n 0, 1) := by decide +kernel
theorem dX8_piece_91 : decode cX8_piece 91 = .ok (.getfield 35, 3) := by decide +kernel
theorem dX8_piece_94 : decode cX8_piece 94 = .ok (.iload_n 1, 1) := by decide +kernel
theorem dX8_piece_95 : decode cX8_piece 95 = .ok (.invokevirtual 132, 3) := by decide +kernel
theorem dX8_piece_98 : decode cX8_piece 98 = .ok (.ireturn, 1) := by decide +kernel
theorem dX8_piece_99 : decode cX8_piece 99 = .ok (.iconst (-1), 1) := by decide +kernel
theorem dX8_piece_100 : decode cX8_piece 100 = .ok (.ireturn, 1) := by decide +kernel
theorem dX8_anvil_0 : decode cX8_anvil 0 = .ok (.iload_n 1, 1) := by decide +kernel
theorem dX8_anvil_1 : decode cX8_anvil 1 = .ok (.iconst (-1), 1) := by decide +kernel
theorem dX8_anvil_2 : decode cX8_anvil 2 = .ok (.if_icmp .eq 16, 3) := by decide +kernel
theorem dX8_anvil_5 : decode cX8_anvil 5 = .ok (.aload_n 0, 1) := by decide +kernel
theorem dX8_anvil_6 : decode cX8_anvil 6 = .ok (.getfield 25, 3) := by decide +kernel
theorem dX8_anvil_9 : decode cX8_anvil 9 = .ok (.iload_n 1, 1) := by decide +kernel
theorem dX8_anvil_10 : decode cX8_anvil 10 = .ok (.invokevirtual 117, 3) := by decide +kernel
theorem dX8_anvil_13 : decode cX8_anvil 13 = .ok (.ifCond .ne 5, 3) := by decide +kernel
theorem dX8_anvil_16 : decode cX8_anvil 16 = .ok (.iconst (-1), 1) := by decide +kernel
theorem dX8_anvil_17 : decode cX8_anvil 17 = .ok (.ireturn, 1) := by decide +kernel
theorem dX8_anvil_18 : decode cX8_anvil 18 = .ok (.aload_n 0, 1) := by decide +kernel
theorem dX8_anvil_19 : decode cX8_anvil 19 = .ok (.getfield 25, 3) := by decide +kernel
theorem dX8_anvil_22 : decode cX8_anvil 22 = .ok (.getfield 135, 3) := by decide +kernel
theorem dX8_anvil_25 : decode cX8_anvil 25 = .ok (.invokestatic 138, 3) := by decide +kernel
theorem dX8_anvil_28 : decode cX8_anvil 28 = .ok (.istore_n 2, 1) := by decide +kernel
theorem dX8_anvil_29 : decode cX8_anvil 29 = .ok (.aload_n 0, 1) := by decide +kernel
theorem dX8_anvil_30 : decode cX8_anvil 30 = .ok (.getfield 25, 3) := by decide +kernel
theorem dX8_anvil_33 : decode cX8_anvil 33 = .ok (.iload_n 1, 1) := by decide +kernel
theorem dX8_anvil_34 : decode cX8_anvil 34 = .ok (.putfield 135, 3) := by decide +kernel
theorem dX8_anvil_37 : decode cX8_anvil 37 = .ok (.iload_n 2, 1) := by decide +kernel
theorem dX8_anvil_38 : decode cX8_anvil 38 = .ok (.ireturn, 1) := by decide +kernel
theorem dX8_row_0 : decode cX8_row 0 = .ok (.aload_n 0, 1) := by decide +kernel
theorem dX8_row_1 : decode cX8_row 1 = .ok (.getfield 25, 3) := by decide +kernel
theorem dX8_row_4 : decode cX8_row 4 = .ok (.iload_n 1, 1) := by decide +kernel
theorem dX8_row_5 : decode cX8_row 5 = .ok (.invokevirtual 81, 3) := by decide +kernel
theorem dX8_row_8 : decode cX8_row 8 = .ok (.ifCond .eq 12, 3) := by decide +kernel
theorem dX8_row_11 : decode cX8_row 11 = .ok (.iload_n 2, 1) := by decide +kernel
theorem dX8_row_12 : decode cX8_row 12 = .ok (.iconst 0, 1) := by decide +kernel
theorem dX8_row_13 : decode cX8_row 13 = .ok (.iconst 3, 1) := by decide +kernel
theorem dX8_row_14 : decode cX8_row 14 = .ok (.invokestatic 67, 3) := by decide +kernel
theorem dX8_row_17 : decode cX8_row 17 = .ok (.ifCond .ne 5, 3) := by decide +kernel
theorem dX8_row_20 : decode cX8_row 20 = .ok (.iconst (-1), 1) := by decide +kernel
theorem dX8_row_21 : decode cX8_row 21 = .ok (.ireturn, 1) := by decide +kernel
theorem dX8_row_22 : decode cX8_row 22 = .ok (.iload_n 3, 1) := by decide +kernel
theorem dX8_row_23 : decode cX8_row 23 = .ok (.iconst 0, 1) := by decide +kernel
theorem dX8_row_24 : decode cX8_row 24 = .ok (.bipush 9, 2) := by decide +kernel
theorem dX8_row_26 : decode cX8_row 26 = .ok (.invokestatic 67, 3) := by decide +kernel
theorem dX8_row_29 : decode cX8_row 29 = .ok (.ifCond .ne 6, 3) := by decide +kernel
theorem dX8_row_32 : decode cX8_row 32 = .ok (.bipush (-2), 2) := by decide +kernel
theorem dX8_row_34 : decode cX8_row 34 = .ok (.ireturn, 1) := by decide +kernel
theorem dX8_row_35 : decode cX8_row 35 = .ok (.aload_n 0, 1) := by decide +kernel
theorem dX8_row_36 : decode cX8_row 36 = .ok (.getfield 25, 3) := by decide +kernel
theorem dX8_row_39 : decode cX8_row 39 = .ok (.getfield 85, 3) := by decide +kernel
theorem dX8_row_42 : decode cX8_row 42 = .ok (.iload_n 1, 1) := by decide +kernel
theorem dX8_row_43 : decode cX8_row 43 = .ok (.iaload, 1) := by decide +kernel
theorem dX8_row_44 : decode cX8_row 44 = .ok (.bipush 6, 2) := by decide +kernel
theorem dX8_row_46 : decode cX8_row 46 = .ok (.if_icmp .eq 6, 3) := by decide +kernel
theorem dX8_row_49 : decode cX8_row 49 = .ok (.bipush (-3), 2) := by decide +kernel
theorem dX8_row_51 : decode cX8_row 51 = .ok (.ireturn, 1) := by decide +kernel
theorem dX8_row_52 : decode cX8_row 52 = .ok (.iload_n 1, 1) := by decide +kernel
theorem dX8_row_53 : decode cX8_row 53 = .ok (.iconst 4, 1) := by decide +kernel
theorem dX8_row_54 : decode cX8_row 54 = .ok (.imul, 1) := by decide +kernel
theorem dX8_row_55 : decode cX8_row 55 = .ok (.iload_n 2, 1) := by decide +kernel
theorem dX8_row_56 : decode cX8_row 56 = .ok (.iadd, 1) := by decide +kernel
theorem dX8_row_57 : decode cX8_row 57 = .ok (.istore 4, 2) := by decide +kernel
theorem dX8_row_59 : decode cX8_row 59 = .ok (.aload_n 0, 1) := by decide +kernel
theorem dX8_row_60 : decode cX8_row 60 = .ok (.getfield 25, 3) := by decide +kernel
theorem dX8_row_63 : decode cX8_row 63 = .ok (.getfield 141, 3) := by decide +kernel
theorem dX8_row_66 : decode cX8_row 66 = .ok (.iload 4, 2) := by decide +kernel
theorem dX8_row_68 : decode cX8_row 68 = .ok (.iaload, 1) := by decide +kernel
theorem dX8_row_69 : decode cX8_row 69 = .ok (.istore 5, 2) := by decide +kernel
theorem dX8_row_71 : decode cX8_row 71 = .ok (.aload_n 0, 1) := by decide +kernel
theorem dX8_row_72 : decode cX8_row 72 = .ok (.getfield 25, 3) := by decide +kernel
theorem dX8_row_75 : decode cX8_row 75 = .ok (.getfield 141, 3) := by decide +kernel
theorem dX8_row_78 : decode cX8_row 78 = .ok (.iload 4, 2) := by decide +kernel
theorem dX8_row_80 : decode cX8_row 80 = .ok (.iload_n 3, 1) := by decide +kernel
theorem dX8_row_81 : decode cX8_row 81 = .ok (.iastore, 1) := by decide +kernel
theorem dX8_row_82 : decode cX8_row 82 = .ok (.iload 5, 2) := by decide +kernel
theorem dX8_row_84 : decode cX8_row 84 = .ok (.ireturn, 1) := by decide +kernel
theorem dX8_feed_0 : decode cX8_feed 0 = .ok (.iload_n 1, 1) := by decide +kernel
theorem dX8_feed_1 : decode cX8_feed 1 = .ok (.iconst 0, 1) := by decide +kernel
theorem dX8_feed_2 : decode cX8_feed 2 = .ok (.bipush 127, 2) := by decide +kernel
theorem dX8_feed_4 : decode cX8_feed 4 = .ok (.invokestatic 67, 3) := by decide +kernel
theorem dX8_feed_7 : decode cX8_feed 7 = .ok (.ifCond .ne 6, 3) := by decide +kernel
theorem dX8_feed_10 : decode cX8_feed 10 = .ok (.bipush (-2), 2) := by decide +kernel
theorem dX8_feed_12 : decode cX8_feed 12 = .ok (.ireturn, 1) := by decide +kernel
theorem dX8_feed_13 : decode cX8_feed 13 = .ok (.aload_n 0, 1) := by decide +kernel
theorem dX8_feed_14 : decode cX8_feed 14 = .ok (.getfield 42, 3) := by decide +kernel
theorem dX8_feed_17 : decode cX8_feed 17 = .ok (.getfield 144, 3) := by decide +kernel
theorem dX8_feed_20 : decode cX8_feed 20 = .ok (.bipush 100, 2) := by decide +kernel
theorem dX8_feed_22 : decode cX8_feed 22 = .ok (.if_icmp .lt 6, 3) := by decide +kernel
theorem dX8_feed_25 : decode cX8_feed 25 = .ok (.bipush (-4), 2) := by decide +kernel
theorem dX8_feed_27 : decode cX8_feed 27 = .ok (.ireturn, 1) := by decide +kernel
theorem dX8_feed_28 : decode cX8_feed 28 = .ok (.aload_n 0, 1) := by decide +kernel
theorem dX8_feed_29 : decode cX8_feed 29 = .ok (.getfield 42, 3) := by decide +kernel
theorem dX8_feed_32 : decode cX8_feed 32 = .ok (.iload_n 1, 1) := by decide +kernel
theorem dX8_feed_33 : decode cX8_feed 33 = .ok (.i2b, 1) := by decide +kernel
theorem dX8_feed_34 : decode cX8_feed 34 = .ok (.invokevirtual 147, 3) := by decide +kernel
theorem dX8_feed_37 : decode cX8_feed 37 = .ok (.ireturn, 1) := by decide +kernel
theorem dX8_square_0 : decode cX8_square 0 = .ok (.aload_n 0, 1) := by decide +kernel
theorem dX8_square_1 : decode cX8_square 1 = .ok (.getfield 151, 3) := by decide +kernel
theorem dX8_square_4 : decode cX8_square 4 = .ok (.bipush 6, 2) := by decide +kernel
theorem dX8_square_6 : decode cX8_square 6 = .ok (.if_icmp .lt 6, 3) := by decide +kernel
theorem dX8_square_9 : decode cX8_square 9 = .ok (.bipush (-4), 2) := by decide +kernel
theorem dX8_square_11 : decode cX8_square 11 = .ok (.ireturn, 1) := by decide +kernel
theorem dX8_square_12 : decode cX8_square 12 = .ok (.aload_n 0, 1) := by decide +kernel
theorem dX8_square_13 : decode cX8_square 13 = .ok (.getfield 48, 3) := by decide +kernel
theorem dX8_square_16 : decode cX8_square 16 = .ok (.aload_n 0, 1) := by decide +kernel
theorem dX8_square_17 : decode cX8_square 17 = .ok (.getfield 151, 3) := by decide +kernel
theorem dX8_square_20 : decode cX8_square 20 = .ok (.aaload, 1) := by decide +kernel
theorem dX8_square_21 : decode cX8_square 21 = .ok (.astore_n 1, 1) := by decide +kernel
theorem dX8_square_22 : decode cX8_square 22 = .ok (.aload_n 0, 1) := by decide +kernel
theorem dX8_square_23 : decode cX8_square 23 = .ok (.getfield 42, 3) := by decide +kernel
theorem dX8_square_26 : decode cX8_square 26 = .ok (.aload_n 1, 1) := by decide +kernel
theorem dX8_square_27 : decode cX8_square 27 = .ok (.invokevirtual 154, 3) := by decide +kernel
theorem dX8_square_30 : decode cX8_square 30 = .ok (.istore_n 2, 1) := by decide +kernel
theorem dX8_square_31 : decode cX8_square 31 = .ok (.aload_n 0, 1) := by decide +kernel
theorem dX8_square_32 : decode cX8_square 32 = .ok (.getfield 42, 3) := by decide +kernel
theorem dX8_square_35 : decode cX8_square 35 = .ok (.invokevirtual 158, 3) := by decide +kernel
theorem dX8_square_38 : decode cX8_square 38 = .ok (.iload_n 2, 1) := by decide +kernel
theorem dX8_square_39 : decode cX8_square 39 = .ok (.ifCond .ne 14, 3) := by decide +kernel
theorem dX8_square_42 : decode cX8_square 42 = .ok (.bipush (-10), 2) := by decide +kernel
theorem dX8_square_44 : decode cX8_square 44 = .ok (.aload_n 0, 1) := by decide +kernel
theorem dX8_square_45 : decode cX8_square 45 = .ok (.getfield 42, 3) := by decide +kernel
theorem dX8_square_48 : decode cX8_square 48 = .ok (.getfield 161, 3) := by decide +kernel
theorem dX8_square_51 : decode cX8_square 51 = .ok (.isub, 1) := by decide +kernel
theorem dX8_square_52 : decode cX8_square 52 = .ok (.ireturn, 1) := by decide +kernel
theorem dX8_square_53 : decode cX8_square 53 = .ok (.aload_n 0, 1) := by decide +kernel
theorem dX8_square_54 : decode cX8_square 54 = .ok (.getfield 25, 3) := by decide +kernel
theorem dX8_square_57 : decode cX8_square 57 = .ok (.aload_n 1, 1) := by decide +kernel
theorem dX8_square_58 : decode cX8_square 58 = .ok (.putfield 164, 3) := by decide +kernel
theorem dX8_square_61 : decode cX8_square 61 = .ok (.aload_n 0, 1) := by decide +kernel
theorem dX8_square_62 : decode cX8_square 62 = .ok (.dup, 1) := by decide +kernel
theorem dX8_square_63 : decode cX8_square 63 = .ok (.getfield 151, 3) := by decide +kernel
theorem dX8_square_66 : decode cX8_square 66 = .ok (.iconst 1, 1) := by decide +kernel
theorem dX8_square_67 : decode cX8_square 67 = .ok (.iadd, 1) := by decide +kernel
theorem dX8_square_68 : decode cX8_square 68 = .ok (.putfield 151, 3) := by decide +kernel
theorem dX8_square_71 : decode cX8_square 71 = .ok (.aload_n 0, 1) := by decide +kernel
theorem dX8_square_72 : decode cX8_square 72 = .ok (.getfield 151, 3) := by decide +kernel
theorem dX8_square_75 : decode cX8_square 75 = .ok (.iconst 1, 1) := by decide +kernel
theorem dX8_square_76 : decode cX8_square 76 = .ok (.isub, 1) := by decide +kernel
theorem dX8_square_77 : decode cX8_square 77 = .ok (.ireturn, 1) := by decide +kernel
theorem dX8_told_0 : decode cX8_told 0 = .ok (.iload_n 1, 1) := by decide +kernel
theorem dX8_told_1 : decode cX8_told 1 = .ok (.tableswitch 93 0 5 #[39, 47, 55, 66, 74, 85], 39) := by decide +kernel
theorem dX8_told_40 : decode cX8_told 40 = .ok (.aload_n 0, 1) := by decide +kernel
theorem dX8_told_41 : decode cX8_told 41 = .ok (.getfield 25, 3) := by decide +kernel
theorem dX8_told_44 : decode cX8_told 44 = .ok (.getfield 168, 3) := by decide +kernel
theorem dX8_told_47 : decode cX8_told 47 = .ok (.ireturn, 1) := by decide +kernel
theorem dX8_told_48 : decode cX8_told 48 = .ok (.aload_n 0, 1) := by decide +kernel
theorem dX8_told_49 : decode cX8_told 49 = .ok (.getfield 25, 3) := by decide +kernel
theorem dX8_told_52 : decode cX8_told 52 = .ok (.invokevirtual 171, 3) := by decide +kernel
theorem dX8_told_55 : decode cX8_told 55 = .ok (.ireturn, 1) := by decide +kernel
theorem dX8_told_56 : decode cX8_told 56 = .ok (.aload_n 0, 1) := by decide +kernel
theorem dX8_told_57 : decode cX8_told 57 = .ok (.getfield 25, 3) := by decide +kernel
theorem dX8_told_60 : decode cX8_told 60 = .ok (.getfield 135, 3) := by decide +kernel
theorem dX8_told_63 : decode cX8_told 63 = .ok (.invokestatic 138, 3) := by decide +kernel
theorem dX8_told_66 : decode cX8_told 66 = .ok (.ireturn, 1) := by decide +kernel
theorem dX8_told_67 : decode cX8_told 67 = .ok (.aload_n 0, 1) := by decide +kernel
theorem dX8_told_68 : decode cX8_told 68 = .ok (.getfield 25, 3) := by decide +kernel
theorem dX8_told_71 : decode cX8_told 71 = .ok (.invokevirtual 175, 3) := by decide +kernel
theorem dX8_told_74 : decode cX8_told 74 = .ok (.ireturn, 1) := by decide +kernel
theorem dX8_told_75 : decode cX8_told 75 = .ok (.aload_n 0, 1) := by decide +kernel
theorem dX8_told_76 : decode cX8_told 76 = .ok (.getfield 25, 3) := by decide +kernel
theorem dX8_told_79 : decode cX8_told 79 = .ok (.invokevirtual 178, 3) := by decide +kernel
theorem dX8_told_82 : decode cX8_told 82 = .ok (.invokestatic 138, 3) := by decide +kernel
theorem dX8_told_85 : decode cX8_told 85 = .ok (.ireturn, 1) := by decide +kernel
theorem dX8_told_86 : decode cX8_told 86 = .ok (.aload_n 0, 1) := by decide +kernel
theorem dX8_told_87 : decode cX8_told 87 = .ok (.getfield 25, 3) := by decide +kernel
theorem dX8_told_90 : decode cX8_told 90 = .ok (.invokevirtual 181, 3) := by decide +kernel
theorem dX8_told_93 : decode cX8_told 93 = .ok (.ireturn, 1) := by decide +kernel
theorem dX8_told_94 : decode cX8_told 94 = .ok (.iconst (-1), 1) := by decide +kernel
theorem dX8_told_95 : decode cX8_told 95 = .ok (.ireturn, 1) := by decide +kernel
theorem dX8_pass_0 : decode cX8_pass 0 = .ok (.iload_n 1, 1) := by decide +kernel
theorem dX8_pass_1 : decode cX8_pass 1 = .ok (.iconst 0, 1) := by decide +kernel
theorem dX8_pass_2 : decode cX8_pass 2 = .ok (.bipush 60, 2) := by decide +kernel
theorem dX8_pass_4 : decode cX8_pass 4 = .ok (.invokestatic 67, 3) := by decide +kernel
theorem dX8_pass_7 : decode cX8_pass 7 = .ok (.ifCond .ne 6, 3) := by decide +kernel
theorem dX8_pass_10 : decode cX8_pass 10 = .ok (.bipush (-2), 2) := by decide +kernel
theorem dX8_pass_12 : decode cX8_pass 12 = .ok (.ireturn, 1) := by decide +kernel
theorem dX8_pass_13 : decode cX8_pass 13 = .ok (.aload_n 0, 1) := by decide +kernel
theorem dX8_pass_14 : decode cX8_pass 14 = .ok (.getfield 25, 3) := by decide +kernel
theorem dX8_pass_17 : decode cX8_pass 17 = .ok (.getfield 168, 3) := by decide +kernel
theorem dX8_pass_20 : decode cX8_pass 20 = .ok (.iload_n 1, 1) := by decide +kernel
theorem dX8_pass_21 : decode cX8_pass 21 = .ok (.iadd, 1) := by decide +kernel
theorem dX8_pass_22 : decode cX8_pass 22 = .ok (.sipush 9999, 3) := by decide +kernel
theorem dX8_pass_25 : decode cX8_pass 25 = .ok (.if_icmp .le 6, 3) := by decide +kernel
theorem dX8_pass_28 : decode cX8_pass 28 = .ok (.bipush (-3), 2) := by decide +kernel
theorem dX8_pass_30 : decode cX8_pass 30 = .ok (.ireturn, 1) := by decide +kernel
theorem dX8_pass_31 : decode cX8_pass 31 = .ok (.aload_n 0, 1) := by decide +kernel
theorem dX8_pass_32 : decode cX8_pass 32 = .ok (.getfield 25, 3) := by decide +kernel
theorem dX8_pass_35 : decode cX8_pass 35 = .ok (.iload_n 1, 1) := by decide +kernel
theorem dX8_pass_36 : decode cX8_pass 36 = .ok (.invokevirtual 184, 3) := by decide +kernel
theorem dX8_pass_39 : decode cX8_pass 39 = .ok (.aload_n 0, 1) := by decide +kernel
theorem dX8_pass_40 : decode cX8_pass 40 = .ok (.getfield 25, 3) := by decide +kernel
theorem dX8_pass_43 : decode cX8_pass 43 = .ok (.getfield 168, 3) := by decide +kernel
theorem dX8_pass_46 : decode cX8_pass 46 = .ok (.ireturn, 1) := by decide +kernel
theorem dX8_on_0 : decode cX8_on 0 = .ok (.aload_n 0, 1) := by decide +kernel
theorem dX8_on_1 : decode cX8_on 1 = .ok (.getfield 25, 3) := by decide +kernel
theorem dX8_on_4 : decode cX8_on 4 = .ok (.iload_n 2, 1) := by decide +kernel
theorem dX8_on_5 : decode cX8_on 5 = .ok (.bipush 10, 2) := by decide +kernel
theorem dX8_on_7 : decode cX8_on 7 = .ok (.isub, 1) := by decide +kernel
theorem dX8_on_8 : decode cX8_on 8 = .ok (.invokevirtual 81, 3) := by decide +kernel
theorem dX8_on_11 : decode cX8_on 11 = .ok (.istore_n 3, 1) := by decide +kernel
theorem dX8_on_12 : decode cX8_on 12 = .ok (.aload_n 0, 1) := by decide +kernel
theorem dX8_on_13 : decode cX8_on 13 = .ok (.getfield 25, 3) := by decide +kernel
theorem dX8_on_16 : decode cX8_on 16 = .ok (.iload_n 2, 1) := by decide +kernel
theorem dX8_on_17 : decode cX8_on 17 = .ok (.bipush 20, 2) := by decide +kernel
theorem dX8_on_19 : decode cX8_on 19 = .ok (.isub, 1) := by decide +kernel
theorem dX8_on_20 : decode cX8_on 20 = .ok (.invokevirtual 117, 3) := by decide +kernel
theorem dX8_on_23 : decode cX8_on 23 = .ok (.istore 4, 2) := by decide +kernel
theorem dX8_on_25 : decode cX8_on 25 = .ok (.iload_n 2, 1) := by decide +kernel
theorem dX8_on_26 : decode cX8_on 26 = .ok (.ifCond .eq 14, 3) := by decide +kernel
theorem dX8_on_29 : decode cX8_on 29 = .ok (.iload_n 3, 1) := by decide +kernel
theorem dX8_on_30 : decode cX8_on 30 = .ok (.ifCond .ne 10, 3) := by decide +kernel
theorem dX8_on_33 : decode cX8_on 33 = .ok (.iload 4, 2) := by decide +kernel
theorem dX8_on_35 : decode cX8_on 35 = .ok (.ifCond .ne 5, 3) := by decide +kernel
theorem dX8_on_38 : decode cX8_on 38 = .ok (.iconst (-1), 1) := by decide +kernel
theorem dX8_on_39 : decode cX8_on 39 = .ok (.ireturn, 1) := by decide +kernel
theorem dX8_on_40 : decode cX8_on 40 = .ok (.iload_n 1, 1) := by decide +kernel
theorem dX8_on_41 : decode cX8_on 41 = .ok (.iconst 0, 1) := by decide +kernel
theorem dX8_on_42 : decode cX8_on 42 = .ok (.bipush 60, 2) := by decide +kernel
theorem dX8_on_44 : decode cX8_on 44 = .ok (.invokestatic 67, 3) := by decide +kernel
theorem dX8_on_47 : decode cX8_on 47 = .ok (.ifCond .ne 6, 3) := by decide +kernel
theorem dX8_on_50 : decode cX8_on 50 = .ok (.bipush (-2), 2) := by decide +kernel
theorem dX8_on_52 : decode cX8_on 52 = .ok (.ireturn, 1) := by decide +kernel
theorem dX8_on_53 : decode cX8_on 53 = .ok (.aload_n 0, 1) := by decide +kernel
theorem dX8_on_54 : decode cX8_on 54 = .ok (.getfield 35, 3) := by decide +kernel
theorem dX8_on_57 : decode cX8_on 57 = .ok (.iload_n 1, 1) := by decide +kernel
theorem dX8_on_58 : decode cX8_on 58 = .ok (.invokevirtual 188, 3) := by decide +kernel
theorem dX8_on_61 : decode cX8_on 61 = .ok (.astore 5, 2) := by decide +kernel
theorem dX8_on_63 : decode cX8_on 63 = .ok (.iload_n 3, 1) := by decide +kernel
theorem dX8_on_64 : decode cX8_on 64 = .ok (.ifCond .eq 14, 3) := by decide +kernel
theorem dX8_on_67 : decode cX8_on 67 = .ok (.aload 5, 2) := by decide +kernel
theorem dX8_on_69 : decode cX8_on 69 = .ok (.getfield 92, 3) := by decide +kernel
theorem dX8_on_72 : decode cX8_on 72 = .ok (.iload_n 2, 1) := by decide +kernel
theorem dX8_on_73 : decode cX8_on 73 = .ok (.bipush 10, 2) := by decide +kernel
theorem dX8_on_75 : decode cX8_on 75 = .ok (.isub, 1) := by decide +kernel
theorem dX8_on_76 : decode cX8_on 76 = .ok (.iaload, 1) := by decide +kernel
theorem dX8_on_77 : decode cX8_on 77 = .ok (.ireturn, 1) := by decide +kernel
theorem dX8_on_78 : decode cX8_on 78 = .ok (.iload 4, 2) := by decide +kernel
theorem dX8_on_80 : decode cX8_on 80 = .ok (.ifCond .eq 16, 3) := by decide +kernel
theorem dX8_on_83 : decode cX8_on 83 = .ok (.aload 5, 2) := by decide +kernel
theorem dX8_on_85 : decode cX8_on 85 = .ok (.getfield 126, 3) := by decide +kernel
theorem dX8_on_88 : decode cX8_on 88 = .ok (.iload_n 2, 1) := by decide +kernel
theorem dX8_on_89 : decode cX8_on 89 = .ok (.bipush 20, 2) := by decide +kernel
theorem dX8_on_91 : decode cX8_on 91 = .ok (.isub, 1) := by decide +kernel
theorem dX8_on_92 : decode cX8_on 92 = .ok (.iaload, 1) := by decide +kernel
theorem dX8_on_93 : decode cX8_on 93 = .ok (.goto 8, 3) := by decide +kernel
theorem dX8_on_96 : decode cX8_on 96 = .ok (.aload 5, 2) := by decide +kernel
theorem dX8_on_98 : decode cX8_on 98 = .ok (.invokevirtual 175, 3) := by decide +kernel
theorem dX8_on_101 : decode cX8_on 101 = .ok (.ireturn, 1) := by decide +kernel
theorem dX8_best_0 : decode cX8_best 0 = .ok (.iload_n 2, 1) := by decide +kernel
theorem dX8_best_1 : decode cX8_best 1 = .ok (.iconst (-1), 1) := by decide +kernel
theorem dX8_best_2 : decode cX8_best 2 = .ok (.iconst 3, 1) := by decide +kernel
theorem dX8_best_3 : decode cX8_best 3 = .ok (.invokestatic 67, 3) := by decide +kernel
theorem dX8_best_6 : decode cX8_best 6 = .ok (.ifCond .ne 5, 3) := by decide +kernel
theorem dX8_best_9 : decode cX8_best 9 = .ok (.iconst (-1), 1) := by decide +kernel
theorem dX8_best_10 : decode cX8_best 10 = .ok (.ireturn, 1) := by decide +kernel
theorem dX8_best_11 : decode cX8_best 11 = .ok (.iload_n 1, 1) := by decide +kernel
theorem dX8_best_12 : decode cX8_best 12 = .ok (.iconst 0, 1) := by decide +kernel
theorem dX8_best_13 : decode cX8_best 13 = .ok (.bipush 40, 2) := by decide +kernel
theorem dX8_best_15 : decode cX8_best 15 = .ok (.invokestatic 67, 3) := by decide +kernel
theorem dX8_best_18 : decode cX8_best 18 = .ok (.ifCond .ne 6, 3) := by decide +kernel
theorem dX8_best_21 : decode cX8_best 21 = .ok (.bipush (-2), 2) := by decide +kernel
theorem dX8_best_23 : decode cX8_best 23 = .ok (.ireturn, 1) := by decide +kernel
theorem dX8_best_24 : decode cX8_best 24 = .ok (.aload_n 0, 1) := by decide +kernel
theorem dX8_best_25 : decode cX8_best 25 = .ok (.getfield 35, 3) := by decide +kernel
theorem dX8_best_28 : decode cX8_best 28 = .ok (.iload_n 1, 1) := by decide +kernel
theorem dX8_best_29 : decode cX8_best 29 = .ok (.invokevirtual 192, 3) := by decide +kernel
theorem dX8_best_32 : decode cX8_best 32 = .ok (.istore_n 3, 1) := by decide +kernel
theorem dX8_best_33 : decode cX8_best 33 = .ok (.iload_n 2, 1) := by decide +kernel
theorem dX8_best_34 : decode cX8_best 34 = .ok (.iconst (-1), 1) := by decide +kernel
theorem dX8_best_35 : decode cX8_best 35 = .ok (.if_icmp .ne 5, 3) := by decide +kernel
theorem dX8_best_38 : decode cX8_best 38 = .ok (.iload_n 3, 1) := by decide +kernel
theorem dX8_best_39 : decode cX8_best 39 = .ok (.ireturn, 1) := by decide +kernel
theorem dX8_best_40 : decode cX8_best 40 = .ok (.iload_n 2, 1) := by decide +kernel
theorem dX8_best_41 : decode cX8_best 41 = .ok (.aload_n 0, 1) := by decide +kernel
theorem dX8_best_42 : decode cX8_best 42 = .ok (.getfield 25, 3) := by decide +kernel
theorem dX8_best_45 : decode cX8_best 45 = .ok (.getfield 111, 3) := by decide +kernel
theorem dX8_best_48 : decode cX8_best 48 = .ok (.if_icmp .ge 15, 3) := by decide +kernel
theorem dX8_best_51 : decode cX8_best 51 = .ok (.aload_n 0, 1) := by decide +kernel
theorem dX8_best_52 : decode cX8_best 52 = .ok (.getfield 35, 3) := by decide +kernel
theorem dX8_best_55 : decode cX8_best 55 = .ok (.getfield 195, 3) := by decide +kernel
theorem dX8_best_58 : decode cX8_best 58 = .ok (.iload_n 2, 1) := by decide +kernel
theorem dX8_best_59 : decode cX8_best 59 = .ok (.iaload, 1) := by decide +kernel
theorem dX8_best_60 : decode cX8_best 60 = .ok (.goto 5, 3) := by decide +kernel
theorem dX8_best_63 : decode cX8_best 63 = .ok (.bipush (-5), 2) := by decide +kernel
theorem dX8_best_65 : decode cX8_best 65 = .ok (.ireturn, 1) := by decide +kernel
theorem dX8_talk_0 : decode cX8_talk 0 = .ok (.iload_n 2, 1) := by decide +kernel
theorem dX8_talk_1 : decode cX8_talk 1 = .ok (.iconst 0, 1) := by decide +kernel
theorem dX8_talk_2 : decode cX8_talk 2 = .ok (.iconst 1, 1) := by decide +kernel
theorem dX8_talk_3 : decode cX8_talk 3 = .ok (.invokestatic 67, 3) := by decide +kernel
theorem dX8_talk_6 : decode cX8_talk 6 = .ok (.ifCond .ne 5, 3) := by decide +kernel
theorem dX8_talk_9 : decode cX8_talk 9 = .ok (.iconst (-1), 1) := by decide +kernel
theorem dX8_talk_10 : decode cX8_talk 10 = .ok (.ireturn, 1) := by decide +kernel
theorem dX8_talk_11 : decode cX8_talk 11 = .ok (.iload_n 1, 1) := by decide +kernel
theorem dX8_talk_12 : decode cX8_talk 12 = .ok (.iconst 0, 1) := by decide +kernel
theorem dX8_talk_13 : decode cX8_talk 13 = .ok (.bipush 99, 2) := by decide +kernel
theorem dX8_talk_15 : decode cX8_talk 15 = .ok (.invokestatic 67, 3) := by decide +kernel
theorem dX8_talk_18 : decode cX8_talk 18 = .ok (.ifCond .ne 6, 3) := by decide +kernel
theorem dX8_talk_21 : decode cX8_talk 21 = .ok (.bipush (-2), 2) := by decide +kernel
theorem dX8_talk_23 : decode cX8_talk 23 = .ok (.ireturn, 1) := by decide +kernel
theorem dX8_talk_24 : decode cX8_talk 24 = .ok (.aload_n 0, 1) := by decide +kernel
theorem dX8_talk_25 : decode cX8_talk 25 = .ok (.getfield 35, 3) := by decide +kernel
theorem dX8_talk_28 : decode cX8_talk 28 = .ok (.iload_n 1, 1) := by decide +kernel
theorem dX8_talk_29 : decode cX8_talk 29 = .ok (.invokevirtual 198, 3) := by decide +kernel
theorem dX8_talk_32 : decode cX8_talk 32 = .ok (.istore_n 3, 1) := by decide +kernel
theorem dX8_talk_33 : decode cX8_talk 33 = .ok (.iload_n 3, 1) := by decide +kernel
theorem dX8_talk_34 : decode cX8_talk 34 = .ok (.ifCond .ge 6, 3) := by decide +kernel
theorem dX8_talk_37 : decode cX8_talk 37 = .ok (.bipush (-5), 2) := by decide +kernel
theorem dX8_talk_39 : decode cX8_talk 39 = .ok (.ireturn, 1) := by decide +kernel
theorem dX8_talk_40 : decode cX8_talk 40 = .ok (.iload_n 2, 1) := by decide +kernel
theorem dX8_talk_41 : decode cX8_talk 41 = .ok (.ifCond .ne 7, 3) := by decide +kernel
theorem dX8_talk_44 : decode cX8_talk 44 = .ok (.iload_n 3, 1) := by decide +kernel
theorem dX8_talk_45 : decode cX8_talk 45 = .ok (.goto 12, 3) := by decide +kernel
theorem dX8_talk_48 : decode cX8_talk 48 = .ok (.aload_n 0, 1) := by decide +kernel
theorem dX8_talk_49 : decode cX8_talk 49 = .ok (.getfield 35, 3) := by decide +kernel
theorem dX8_talk_52 : decode cX8_talk 52 = .ok (.iload_n 3, 1) := by decide +kernel
theorem dX8_talk_53 : decode cX8_talk 53 = .ok (.iload_n 1, 1) := by decide +kernel
theorem dX8_talk_54 : decode cX8_talk 54 = .ok (.invokevirtual 201, 3) := by decide +kernel
theorem dX8_talk_57 : decode cX8_talk 57 = .ok (.ireturn, 1) := by decide +kernel
theorem dX8_see_0 : decode cX8_see 0 = .ok (.iload_n 1, 1) := by decide +kernel
theorem dX8_see_1 : decode cX8_see 1 = .ok (.iconst (-1), 1) := by decide +kernel
theorem dX8_see_2 : decode cX8_see 2 = .ok (.if_icmp .ne 14, 3) := by decide +kernel
theorem dX8_see_5 : decode cX8_see 5 = .ok (.aload_n 0, 1) := by decide +kernel
theorem dX8_see_6 : decode cX8_see 6 = .ok (.getfield 12, 3) := by decide +kernel
theorem dX8_see_9 : decode cX8_see 9 = .ok (.getfield 28, 3) := by decide +kernel
theorem dX8_see_12 : decode cX8_see 12 = .ok (.invokevirtual 204, 3) := by decide +kernel
theorem dX8_see_15 : decode cX8_see 15 = .ok (.ireturn, 1) := by decide +kernel
theorem dX8_see_16 : decode cX8_see 16 = .ok (.aload_n 0, 1) := by decide +kernel
theorem dX8_see_17 : decode cX8_see 17 = .ok (.getfield 25, 3) := by decide +kernel
theorem dX8_see_20 : decode cX8_see 20 = .ok (.iload_n 1, 1) := by decide +kernel
theorem dX8_see_21 : decode cX8_see 21 = .ok (.invokevirtual 81, 3) := by decide +kernel
theorem dX8_see_24 : decode cX8_see 24 = .ok (.ifCond .ne 5, 3) := by decide +kernel
theorem dX8_see_27 : decode cX8_see 27 = .ok (.iconst (-1), 1) := by decide +kernel
theorem dX8_see_28 : decode cX8_see 28 = .ok (.ireturn, 1) := by decide +kernel
theorem dX8_see_29 : decode cX8_see 29 = .ok (.iload_n 2, 1) := by decide +kernel
theorem dX8_see_30 : decode cX8_see 30 = .ok (.iconst 0, 1) := by decide +kernel
theorem dX8_see_31 : decode cX8_see 31 = .ok (.bipush 12, 2) := by decide +kernel
theorem dX8_see_33 : decode cX8_see 33 = .ok (.invokestatic 67, 3) := by decide +kernel
theorem dX8_see_36 : decode cX8_see 36 = .ok (.ifCond .ne 6, 3) := by decide +kernel
theorem dX8_see_39 : decode cX8_see 39 = .ok (.bipush (-2), 2) := by decide +kernel
theorem dX8_see_41 : decode cX8_see 41 = .ok (.ireturn, 1) := by decide +kernel
theorem dX8_see_42 : decode cX8_see 42 = .ok (.aload_n 0, 1) := by decide +kernel
theorem dX8_see_43 : decode cX8_see 43 = .ok (.getfield 12, 3) := by decide +kernel
theorem dX8_see_46 : decode cX8_see 46 = .ok (.getfield 28, 3) := by decide +kernel
theorem dX8_see_49 : decode cX8_see 49 = .ok (.invokevirtual 208, 3) := by decide +kernel
theorem dX8_see_52 : decode cX8_see 52 = .ok (.ifCond .eq 8, 3) := by decide +kernel
theorem dX8_see_55 : decode cX8_see 55 = .ok (.bipush (-4), 2) := by decide +kernel
theorem dX8_see_57 : decode cX8_see 57 = .ok (.goto 19, 3) := by decide +kernel
theorem dX8_see_60 : decode cX8_see 60 = .ok (.aload_n 0, 1) := by decide +kernel
theorem dX8_see_61 : decode cX8_see 61 = .ok (.getfield 12, 3) := by decide +kernel
theorem dX8_see_64 : decode cX8_see 64 = .ok (.getfield 28, 3) := by decide +kernel
theorem dX8_see_67 : decode cX8_see 67 = .ok (.iload_n 1, 1) := by decide +kernel
theorem dX8_see_68 : decode cX8_see 68 = .ok (.iload_n 2, 1) := by decide +kernel
theorem dX8_see_69 : decode cX8_see 69 = .ok (.iload_n 3, 1) := by decide +kernel
theorem dX8_see_70 : decode cX8_see 70 = .ok (.invokestatic 99, 3) := by decide +kernel
theorem dX8_see_73 : decode cX8_see 73 = .ok (.invokevirtual 212, 3) := by decide +kernel
theorem dX8_see_76 : decode cX8_see 76 = .ok (.ireturn, 1) := by decide +kernel
theorem dX8_can_0 : decode cX8_can 0 = .ok (.aload_n 0, 1) := by decide +kernel
theorem dX8_can_1 : decode cX8_can 1 = .ok (.getfield 25, 3) := by decide +kernel
theorem dX8_can_4 : decode cX8_can 4 = .ok (.iload_n 1, 1) := by decide +kernel
theorem dX8_can_5 : decode cX8_can 5 = .ok (.invokevirtual 81, 3) := by decide +kernel
theorem dX8_can_8 : decode cX8_can 8 = .ok (.ifCond .eq 21, 3) := by decide +kernel
theorem dX8_can_11 : decode cX8_can 11 = .ok (.iload_n 2, 1) := by decide +kernel
theorem dX8_can_12 : decode cX8_can 12 = .ok (.iconst 0, 1) := by decide +kernel
theorem dX8_can_13 : decode cX8_can 13 = .ok (.iconst 1, 1) := by decide +kernel
theorem dX8_can_14 : decode cX8_can 14 = .ok (.invokestatic 67, 3) := by decide +kernel
theorem dX8_can_17 : decode cX8_can 17 = .ok (.ifCond .eq 12, 3) := by decide +kernel
theorem dX8_can_20 : decode cX8_can 20 = .ok (.iload_n 3, 1) := by decide +kernel
theorem dX8_can_21 : decode cX8_can 21 = .ok (.iconst 0, 1) := by decide +kernel
theorem dX8_can_22 : decode cX8_can 22 = .ok (.iconst 1, 1) := by decide +kernel
theorem dX8_can_23 : decode cX8_can 23 = .ok (.invokestatic 67, 3) := by decide +kernel
theorem dX8_can_26 : decode cX8_can 26 = .ok (.ifCond .ne 5, 3) := by decide +kernel
theorem dX8_can_29 : decode cX8_can 29 = .ok (.iconst (-1), 1) := by decide +kernel
theorem dX8_can_30 : decode cX8_can 30 = .ok (.ireturn, 1) := by decide +kernel
theorem dX8_can_31 : decode cX8_can 31 = .ok (.aload_n 0, 1) := by decide +kernel
theorem dX8_can_32 : decode cX8_can 32 = .ok (.getfield 35, 3) := by decide +kernel
theorem dX8_can_35 : decode cX8_can 35 = .ok (.iload_n 1, 1) := by decide +kernel
theorem dX8_can_36 : decode cX8_can 36 = .ok (.iload_n 2, 1) := by decide +kernel
theorem dX8_can_37 : decode cX8_can 37 = .ok (.ifCond .ne 7, 3) := by decide +kernel
theorem dX8_can_40 : decode cX8_can 40 = .ok (.iconst 1, 1) := by decide +kernel
theorem dX8_can_41 : decode cX8_can 41 = .ok (.goto 4, 3) := by decide +kernel
theorem dX8_can_44 : decode cX8_can 44 = .ok (.iconst 0, 1) := by decide +kernel
theorem dX8_can_45 : decode cX8_can 45 = .ok (.iload_n 3, 1) := by decide +kernel
theorem dX8_can_46 : decode cX8_can 46 = .ok (.ifCond .ne 7, 3) := by decide +kernel
theorem dX8_can_49 : decode cX8_can 49 = .ok (.iconst 1, 1) := by decide +kernel
theorem dX8_can_50 : decode cX8_can 50 = .ok (.goto 4, 3) := by decide +kernel
theorem dX8_can_53 : decode cX8_can 53 = .ok (.iconst 0, 1) := by decide +kernel
theorem dX8_can_54 : decode cX8_can 54 = .ok (.invokevirtual 214, 3) := by decide +kernel
theorem dX8_can_57 : decode cX8_can 57 = .ok (.ireturn, 1) := by decide +kernel
theorem dX8_odds_0 : decode cX8_odds 0 = .ok (.aload_n 0, 1) := by decide +kernel
theorem dX8_odds_1 : decode cX8_odds 1 = .ok (.getfield 25, 3) := by decide +kernel
theorem dX8_odds_4 : decode cX8_odds 4 = .ok (.iload_n 1, 1) := by decide +kernel
theorem dX8_odds_5 : decode cX8_odds 5 = .ok (.invokevirtual 81, 3) := by decide +kernel
theorem dX8_odds_8 : decode cX8_odds 8 = .ok (.ifCond .eq 13, 3) := by decide +kernel
theorem dX8_odds_11 : decode cX8_odds 11 = .ok (.iload_n 2, 1) := by decide +kernel
theorem dX8_odds_12 : decode cX8_odds 12 = .ok (.iconst 0, 1) := by decide +kernel
theorem dX8_odds_13 : decode cX8_odds 13 = .ok (.bipush 20, 2) := by decide +kernel
theorem dX8_odds_15 : decode cX8_odds 15 = .ok (.invokestatic 67, 3) := by decide +kernel
theorem dX8_odds_18 : decode cX8_odds 18 = .ok (.ifCond .ne 7, 3) := by decide +kernel
theorem dX8_odds_21 : decode cX8_odds 21 = .ok (.ldc2_w 218, 3) := by decide +kernel
theorem dX8_odds_24 : decode cX8_odds 24 = .ok (.lreturn, 1) := by decide +kernel
theorem dX8_odds_25 : decode cX8_odds 25 = .ok (.aload_n 0, 1) := by decide +kernel
theorem dX8_odds_26 : decode cX8_odds 26 = .ok (.getfield 35, 3) := by decide +kernel
theorem dX8_odds_29 : decode cX8_odds 29 = .ok (.iload_n 1, 1) := by decide +kernel
theorem dX8_odds_30 : decode cX8_odds 30 = .ok (.iload_n 2, 1) := by decide +kernel
theorem dX8_odds_31 : decode cX8_odds 31 = .ok (.invokevirtual 220, 3) := by decide +kernel
theorem dX8_odds_34 : decode cX8_odds 34 = .ok (.aload_n 0, 1) := by decide +kernel
theorem dX8_odds_35 : decode cX8_odds 35 = .ok (.getfield 25, 3) := by decide +kernel
theorem dX8_odds_38 : decode cX8_odds 38 = .ok (.invokevirtual 223, 3) := by decide +kernel
theorem dX8_odds_41 : decode cX8_odds 41 = .ok (.iload_n 3, 1) := by decide +kernel
theorem dX8_odds_42 : decode cX8_odds 42 = .ok (.invokestatic 226, 3) := by decide +kernel
theorem dX8_odds_45 : decode cX8_odds 45 = .ok (.lreturn, 1) := by decide +kernel
theorem dX8_mean_0 : decode cX8_mean 0 = .ok (.iload_n 1, 1) := by decide +kernel
theorem dX8_mean_1 : decode cX8_mean 1 = .ok (.iconst 0, 1) := by decide +kernel
theorem dX8_mean_2 : decode cX8_mean 2 = .ok (.bipush 60, 2) := by decide +kernel
theorem dX8_mean_4 : decode cX8_mean 4 = .ok (.invokestatic 67, 3) := by decide +kernel
theorem dX8_mean_7 : decode cX8_mean 7 = .ok (.ifCond .ne 7, 3) := by decide +kernel
theorem dX8_mean_10 : decode cX8_mean 10 = .ok (.ldc2_w 218, 3) := by decide +kernel
theorem dX8_mean_13 : decode cX8_mean 13 = .ok (.lreturn, 1) := by decide +kernel
theorem dX8_mean_14 : decode cX8_mean 14 = .ok (.aload_n 0, 1) := by decide +kernel
theorem dX8_mean_15 : decode cX8_mean 15 = .ok (.getfield 35, 3) := by decide +kernel
theorem dX8_mean_18 : decode cX8_mean 18 = .ok (.iload_n 1, 1) := by decide +kernel
theorem dX8_mean_19 : decode cX8_mean 19 = .ok (.invokevirtual 188, 3) := by decide +kernel
theorem dX8_mean_22 : decode cX8_mean 22 = .ok (.invokevirtual 181, 3) := by decide +kernel
theorem dX8_mean_25 : decode cX8_mean 25 = .ok (.aload_n 0, 1) := by decide +kernel
theorem dX8_mean_26 : decode cX8_mean 26 = .ok (.getfield 25, 3) := by decide +kernel
theorem dX8_mean_29 : decode cX8_mean 29 = .ok (.getfield 71, 3) := by decide +kernel
theorem dX8_mean_32 : decode cX8_mean 32 = .ok (.iload_n 2, 1) := by decide +kernel
theorem dX8_mean_33 : decode cX8_mean 33 = .ok (.invokestatic 226, 3) := by decide +kernel
theorem dX8_mean_36 : decode cX8_mean 36 = .ok (.lreturn, 1) := by decide +kernel
theorem dX8_plan_0 : decode cX8_plan 0 = .ok (.iload_n 1, 1) := by decide +kernel
theorem dX8_plan_1 : decode cX8_plan 1 = .ok (.iconst (-1), 1) := by decide +kernel
theorem dX8_plan_2 : decode cX8_plan 2 = .ok (.if_icmp .ne 14, 3) := by decide +kernel
theorem dX8_plan_5 : decode cX8_plan 5 = .ok (.aload_n 0, 1) := by decide +kernel
theorem dX8_plan_6 : decode cX8_plan 6 = .ok (.getfield 12, 3) := by decide +kernel
theorem dX8_plan_9 : decode cX8_plan 9 = .ok (.getfield 230, 3) := by decide +kernel
theorem dX8_plan_12 : decode cX8_plan 12 = .ok (.invokevirtual 204, 3) := by decide +kernel
theorem dX8_plan_15 : decode cX8_plan 15 = .ok (.ireturn, 1) := by decide +kernel
theorem dX8_plan_16 : decode cX8_plan 16 = .ok (.iload_n 1, 1) := by decide +kernel
theorem dX8_plan_17 : decode cX8_plan 17 = .ok (.iconst 1, 1) := by decide +kernel
theorem dX8_plan_18 : decode cX8_plan 18 = .ok (.if_icmp .eq 8, 3) := by decide +kernel
theorem dX8_plan_21 : decode cX8_plan 21 = .ok (.iload_n 1, 1) := by decide +kernel
theorem dX8_plan_22 : decode cX8_plan 22 = .ok (.iconst 2, 1) := by decide +kernel
theorem dX8_plan_23 : decode cX8_plan 23 = .ok (.if_icmp .ne 7, 3) := by decide +kernel
theorem dX8_plan_26 : decode cX8_plan 26 = .ok (.iconst 1, 1) := by decide +kernel
theorem dX8_plan_27 : decode cX8_plan 27 = .ok (.goto 4, 3) := by decide +kernel
theorem dX8_plan_30 : decode cX8_plan 30 = .ok (.iconst 0, 1) := by decide +kernel
theorem dX8_plan_31 : decode cX8_plan 31 = .ok (.istore_n 3, 1) := by decide +kernel
theorem dX8_plan_32 : decode cX8_plan 32 = .ok (.iload_n 1, 1) := by decide +kernel
theorem dX8_plan_33 : decode cX8_plan 33 = .ok (.ifCond .eq 14, 3) := by decide +kernel
theorem dX8_plan_36 : decode cX8_plan 36 = .ok (.iload_n 3, 1) := by decide +kernel
theorem dX8_plan_37 : decode cX8_plan 37 = .ok (.ifCond .ne 10, 3) := by decide +kernel
theorem dX8_plan_40 : decode cX8_plan 40 = .ok (.iload_n 1, 1) := by decide +kernel
theorem dX8_plan_41 : decode cX8_plan 41 = .ok (.iconst 3, 1) := by decide +kernel
theorem dX8_plan_42 : decode cX8_plan 42 = .ok (.if_icmp .eq 5, 3) := by decide +kernel
theorem dX8_plan_45 : decode cX8_plan 45 = .ok (.iconst (-1), 1) := by decide +kernel
theorem dX8_plan_46 : decode cX8_plan 46 = .ok (.ireturn, 1) := by decide +kernel
theorem dX8_plan_47 : decode cX8_plan 47 = .ok (.iload_n 3, 1) := by decide +kernel
theorem dX8_plan_48 : decode cX8_plan 48 = .ok (.ifCond .eq 14, 3) := by decide +kernel
theorem dX8_plan_51 : decode cX8_plan 51 = .ok (.aload_n 0, 1) := by decide +kernel
theorem dX8_plan_52 : decode cX8_plan 52 = .ok (.getfield 25, 3) := by decide +kernel
theorem dX8_plan_55 : decode cX8_plan 55 = .ok (.iload_n 2, 1) := by decide +kernel
theorem dX8_plan_56 : decode cX8_plan 56 = .ok (.invokevirtual 81, 3) := by decide +kernel
theorem dX8_plan_59 : decode cX8_plan 59 = .ok (.ifCond .eq 19, 3) := by decide +kernel
theorem dX8_plan_62 : decode cX8_plan 62 = .ok (.iload_n 1, 1) := by decide +kernel
theorem dX8_plan_63 : decode cX8_plan 63 = .ok (.iconst 3, 1) := by decide +kernel
theorem dX8_plan_64 : decode cX8_plan 64 = .ok (.if_icmp .ne 16, 3) := by decide +kernel
theorem dX8_plan_67 : decode cX8_plan 67 = .ok (.aload_n 0, 1) := by decide +kernel
theorem dX8_plan_68 : decode cX8_plan 68 = .ok (.getfield 25, 3) := by decide +kernel
theorem dX8_plan_71 : decode cX8_plan 71 = .ok (.iload_n 2, 1) := by decide +kernel
theorem dX8_plan_72 : decode cX8_plan 72 = .ok (.invokevirtual 117, 3) := by decide +kernel
theorem dX8_plan_75 : decode cX8_plan 75 = .ok (.ifCond .ne 5, 3) := by decide +kernel
theorem dX8_plan_78 : decode cX8_plan 78 = .ok (.iconst (-1), 1) := by decide +kernel
theorem dX8_plan_79 : decode cX8_plan 79 = .ok (.ireturn, 1) := by decide +kernel
theorem dX8_plan_80 : decode cX8_plan 80 = .ok (.aload_n 0, 1) := by decide +kernel
theorem dX8_plan_81 : decode cX8_plan 81 = .ok (.getfield 12, 3) := by decide +kernel
theorem dX8_plan_84 : decode cX8_plan 84 = .ok (.getfield 230, 3) := by decide +kernel
theorem dX8_plan_87 : decode cX8_plan 87 = .ok (.invokevirtual 208, 3) := by decide +kernel
theorem dX8_plan_90 : decode cX8_plan 90 = .ok (.ifCond .eq 8, 3) := by decide +kernel
theorem dX8_plan_93 : decode cX8_plan 93 = .ok (.bipush (-4), 2) := by decide +kernel
theorem dX8_plan_95 : decode cX8_plan 95 = .ok (.goto 16, 3) := by decide +kernel
theorem dX8_plan_98 : decode cX8_plan 98 = .ok (.aload_n 0, 1) := by decide +kernel
theorem dX8_plan_99 : decode cX8_plan 99 = .ok (.getfield 12, 3) := by decide +kernel
theorem dX8_plan_102 : decode cX8_plan 102 = .ok (.getfield 230, 3) := by decide +kernel
theorem dX8_plan_105 : decode cX8_plan 105 = .ok (.iload_n 1, 1) := by decide +kernel
theorem dX8_plan_106 : decode cX8_plan 106 = .ok (.iload_n 2, 1) := by decide +kernel
theorem dX8_plan_107 : decode cX8_plan 107 = .ok (.iconst 0, 1) := by decide +kernel
theorem dX8_plan_108 : decode cX8_plan 108 = .ok (.invokevirtual 212, 3) := by decide +kernel
theorem dX8_plan_111 : decode cX8_plan 111 = .ok (.ireturn, 1) := by decide +kernel
theorem dX8_ends_0 : decode cX8_ends 0 = .ok (.iload_n 1, 1) := by decide +kernel
theorem dX8_ends_1 : decode cX8_ends 1 = .ok (.iconst 0, 1) := by decide +kernel
theorem dX8_ends_2 : decode cX8_ends 2 = .ok (.iconst 1, 1) := by decide +kernel
theorem dX8_ends_3 : decode cX8_ends 3 = .ok (.invokestatic 67, 3) := by decide +kernel
theorem dX8_ends_6 : decode cX8_ends 6 = .ok (.ifCond .ne 5, 3) := by decide +kernel
theorem dX8_ends_9 : decode cX8_ends 9 = .ok (.iconst (-1), 1) := by decide +kernel
theorem dX8_ends_10 : decode cX8_ends 10 = .ok (.ireturn, 1) := by decide +kernel
theorem dX8_ends_11 : decode cX8_ends 11 = .ok (.aload_n 0, 1) := by decide +kernel
theorem dX8_ends_12 : decode cX8_ends 12 = .ok (.getfield 35, 3) := by decide +kernel
theorem dX8_ends_15 : decode cX8_ends 15 = .ok (.aload_n 0, 1) := by decide +kernel
theorem dX8_ends_16 : decode cX8_ends 16 = .ok (.getfield 12, 3) := by decide +kernel
theorem dX8_ends_19 : decode cX8_ends 19 = .ok (.getfield 230, 3) := by decide +kernel
theorem dX8_ends_22 : decode cX8_ends 22 = .ok (.invokevirtual 233, 3) := by decide +kernel
theorem dX8_ends_25 : decode cX8_ends 25 = .ok (.astore_n 2, 1) := by decide +kernel
theorem dX8_ends_26 : decode cX8_ends 26 = .ok (.iload_n 1, 1) := by decide +kernel
theorem dX8_ends_27 : decode cX8_ends 27 = .ok (.ifCond .ne 10, 3) := by decide +kernel
theorem dX8_ends_30 : decode cX8_ends 30 = .ok (.aload_n 2, 1) := by decide +kernel
theorem dX8_ends_31 : decode cX8_ends 31 = .ok (.invokevirtual 181, 3) := by decide +kernel
theorem dX8_ends_34 : decode cX8_ends 34 = .ok (.goto 7, 3) := by decide +kernel
theorem dX8_ends_37 : decode cX8_ends 37 = .ok (.aload_n 2, 1) := by decide +kernel
theorem dX8_ends_38 : decode cX8_ends 38 = .ok (.invokevirtual 175, 3) := by decide +kernel
theorem dX8_ends_41 : decode cX8_ends 41 = .ok (.ireturn, 1) := by decide +kernel
theorem dX8_book_0 : decode cX8_book 0 = .ok (.iload_n 1, 1) := by decide +kernel
theorem dX8_book_1 : decode cX8_book 1 = .ok (.iconst (-1), 1) := by decide +kernel
theorem dX8_book_2 : decode cX8_book 2 = .ok (.if_icmp .ne 14, 3) := by decide +kernel
theorem dX8_book_5 : decode cX8_book 5 = .ok (.aload_n 0, 1) := by decide +kernel
theorem dX8_book_6 : decode cX8_book 6 = .ok (.getfield 12, 3) := by decide +kernel
theorem dX8_book_9 : decode cX8_book 9 = .ok (.getfield 237, 3) := by decide +kernel
theorem dX8_book_12 : decode cX8_book 12 = .ok (.invokevirtual 204, 3) := by decide +kernel
theorem dX8_book_15 : decode cX8_book 15 = .ok (.ireturn, 1) := by decide +kernel
theorem dX8_book_16 : decode cX8_book 16 = .ok (.aload_n 0, 1) := by decide +kernel
theorem dX8_book_17 : decode cX8_book 17 = .ok (.getfield 25, 3) := by decide +kernel
theorem dX8_book_20 : decode cX8_book 20 = .ok (.iload_n 1, 1) := by decide +kernel
theorem dX8_book_21 : decode cX8_book 21 = .ok (.invokevirtual 81, 3) := by decide +kernel
theorem dX8_book_24 : decode cX8_book 24 = .ok (.ifCond .ne 5, 3) := by decide +kernel
theorem dX8_book_27 : decode cX8_book 27 = .ok (.iconst (-1), 1) := by decide +kernel
theorem dX8_book_28 : decode cX8_book 28 = .ok (.ireturn, 1) := by decide +kernel
theorem dX8_book_29 : decode cX8_book 29 = .ok (.iload_n 2, 1) := by decide +kernel
theorem dX8_book_30 : decode cX8_book 30 = .ok (.iconst 0, 1) := by decide +kernel
theorem dX8_book_31 : decode cX8_book 31 = .ok (.bipush 99, 2) := by decide +kernel
theorem dX8_book_33 : decode cX8_book 33 = .ok (.invokestatic 67, 3) := by decide +kernel
theorem dX8_book_36 : decode cX8_book 36 = .ok (.ifCond .ne 6, 3) := by decide +kernel
theorem dX8_book_39 : decode cX8_book 39 = .ok (.bipush (-2), 2) := by decide +kernel
theorem dX8_book_41 : decode cX8_book 41 = .ok (.ireturn, 1) := by decide +kernel
theorem dX8_book_42 : decode cX8_book 42 = .ok (.aload_n 0, 1) := by decide +kernel
theorem dX8_book_43 : decode cX8_book 43 = .ok (.getfield 12, 3) := by decide +kernel
theorem dX8_book_46 : decode cX8_book 46 = .ok (.getfield 237, 3) := by decide +kernel
theorem dX8_book_49 : decode cX8_book 49 = .ok (.invokevirtual 208, 3) := by decide +kernel
theorem dX8_book_52 : decode cX8_book 52 = .ok (.ifCond .eq 8, 3) := by decide +kernel
theorem dX8_book_55 : decode cX8_book 55 = .ok (.bipush (-4), 2) := by decide +kernel
theorem dX8_book_57 : decode cX8_book 57 = .ok (.goto 16, 3) := by decide +kernel
theorem dX8_book_60 : decode cX8_book 60 = .ok (.aload_n 0, 1) := by decide +kernel
theorem dX8_book_61 : decode cX8_book 61 = .ok (.getfield 12, 3) := by decide +kernel
theorem dX8_book_64 : decode cX8_book 64 = .ok (.getfield 237, 3) := by decide +kernel
theorem dX8_book_67 : decode cX8_book 67 = .ok (.iload_n 1, 1) := by decide +kernel
theorem dX8_book_68 : decode cX8_book 68 = .ok (.iload_n 2, 1) := by decide +kernel
theorem dX8_book_69 : decode cX8_book 69 = .ok (.iconst 0, 1) := by decide +kernel
theorem dX8_book_70 : decode cX8_book 70 = .ok (.invokevirtual 212, 3) := by decide +kernel
theorem dX8_book_73 : decode cX8_book 73 = .ok (.ireturn, 1) := by decide +kernel
theorem dX8_looked_0 : decode cX8_looked 0 = .ok (.aload_n 0, 1) := by decide +kernel
theorem dX8_looked_1 : decode cX8_looked 1 = .ok (.getfield 12, 3) := by decide +kernel
theorem dX8_looked_4 : decode cX8_looked 4 = .ok (.getfield 237, 3) := by decide +kernel
theorem dX8_looked_7 : decode cX8_looked 7 = .ok (.astore_n 1, 1) := by decide +kernel
theorem dX8_looked_8 : decode cX8_looked 8 = .ok (.iconst 0, 1) := by decide +kernel
theorem dX8_looked_9 : decode cX8_looked 9 = .ok (.istore_n 2, 1) := by decide +kernel
theorem dX8_looked_10 : decode cX8_looked 10 = .ok (.iload_n 2, 1) := by decide +kernel
theorem dX8_looked_11 : decode cX8_looked 11 = .ok (.aload_n 1, 1) := by decide +kernel
theorem dX8_looked_12 : decode cX8_looked 12 = .ok (.getfield 240, 3) := by decide +kernel
theorem dX8_looked_15 : decode cX8_looked 15 = .ok (.if_icmp .ge 47, 3) := by decide +kernel
theorem dX8_looked_18 : decode cX8_looked 18 = .ok (.aload_n 1, 1) := by decide +kernel
theorem dX8_looked_19 : decode cX8_looked 19 = .ok (.getfield 241, 3) := by decide +kernel
theorem dX8_looked_22 : decode cX8_looked 22 = .ok (.iload_n 2, 1) := by decide +kernel
theorem dX8_looked_23 : decode cX8_looked 23 = .ok (.iaload, 1) := by decide +kernel
theorem dX8_looked_24 : decode cX8_looked 24 = .ok (.istore_n 3, 1) := by decide +kernel
theorem dX8_looked_25 : decode cX8_looked 25 = .ok (.aload_n 0, 1) := by decide +kernel
theorem dX8_looked_26 : decode cX8_looked 26 = .ok (.getfield 25, 3) := by decide +kernel
theorem dX8_looked_29 : decode cX8_looked 29 = .ok (.iload_n 3, 1) := by decide +kernel
theorem dX8_looked_30 : decode cX8_looked 30 = .ok (.invokevirtual 81, 3) := by decide +kernel
theorem dX8_looked_33 : decode cX8_looked 33 = .ok (.ifCond .eq 23, 3) := by decide +kernel
theorem dX8_looked_36 : decode cX8_looked 36 = .ok (.aload_n 0, 1) := by decide +kernel
theorem dX8_looked_37 : decode cX8_looked 37 = .ok (.getfield 25, 3) := by decide +kernel
theorem dX8_looked_40 : decode cX8_looked 40 = .ok (.getfield 92, 3) := by decide +kernel
theorem dX8_looked_43 : decode cX8_looked 43 = .ok (.iload_n 3, 1) := by decide +kernel
theorem dX8_looked_44 : decode cX8_looked 44 = .ok (.iaload, 1) := by decide +kernel
theorem dX8_looked_45 : decode cX8_looked 45 = .ok (.aload_n 1, 1) := by decide +kernel
theorem dX8_looked_46 : decode cX8_looked 46 = .ok (.getfield 244, 3) := by decide +kernel
theorem dX8_looked_49 : decode cX8_looked 49 = .ok (.iload_n 2, 1) := by decide +kernel
theorem dX8_looked_50 : decode cX8_looked 50 = .ok (.iaload, 1) := by decide +kernel
theorem dX8_looked_51 : decode cX8_looked 51 = .ok (.if_icmp .eq 5, 3) := by decide +kernel
theorem dX8_looked_54 : decode cX8_looked 54 = .ok (.iload_n 2, 1) := by decide +kernel
theorem dX8_looked_55 : decode cX8_looked 55 = .ok (.ireturn, 1) := by decide +kernel
theorem dX8_looked_56 : decode cX8_looked 56 = .ok (.iinc 2 1, 3) := by decide +kernel
theorem dX8_looked_59 : decode cX8_looked 59 = .ok (.goto (-49), 3) := by decide +kernel
theorem dX8_looked_62 : decode cX8_looked 62 = .ok (.bipush (-5), 2) := by decide +kernel
theorem dX8_looked_64 : decode cX8_looked 64 = .ok (.ireturn, 1) := by decide +kernel
theorem dX8_judge_0 : decode cX8_judge 0 = .ok (.aload_n 0, 1) := by decide +kernel
theorem dX8_judge_1 : decode cX8_judge 1 = .ok (.getfield 62, 3) := by decide +kernel
theorem dX8_judge_4 : decode cX8_judge 4 = .ok (.iload_n 1, 1) := by decide +kernel
theorem dX8_judge_5 : decode cX8_judge 5 = .ok (.invokevirtual 247, 3) := by decide +kernel
theorem dX8_judge_8 : decode cX8_judge 8 = .ok (.ifCond .ne 5, 3) := by decide +kernel
theorem dX8_judge_11 : decode cX8_judge 11 = .ok (.iconst (-1), 1) := by decide +kernel
theorem dX8_judge_12 : decode cX8_judge 12 = .ok (.ireturn, 1) := by decide +kernel
theorem dX8_judge_13 : decode cX8_judge 13 = .ok (.aload_n 0, 1) := by decide +kernel
theorem dX8_judge_14 : decode cX8_judge 14 = .ok (.getfield 62, 3) := by decide +kernel
theorem dX8_judge_17 : decode cX8_judge 17 = .ok (.iload_n 1, 1) := by decide +kernel
theorem dX8_judge_18 : decode cX8_judge 18 = .ok (.invokevirtual 250, 3) := by decide +kernel
theorem dX8_judge_21 : decode cX8_judge 21 = .ok (.ifCond .eq 18, 3) := by decide +kernel
theorem dX8_judge_24 : decode cX8_judge 24 = .ok (.aload_n 0, 1) := by decide +kernel
theorem dX8_judge_25 : decode cX8_judge 25 = .ok (.getfield 62, 3) := by decide +kernel
theorem dX8_judge_28 : decode cX8_judge 28 = .ok (.getfield 253, 3) := by decide +kernel
theorem dX8_judge_31 : decode cX8_judge 31 = .ok (.iload_n 1, 1) := by decide +kernel
theorem dX8_judge_32 : decode cX8_judge 32 = .ok (.iaload, 1) := by decide +kernel
theorem dX8_judge_33 : decode cX8_judge 33 = .ok (.ifCond .eq 6, 3) := by decide +kernel
theorem dX8_judge_36 : decode cX8_judge 36 = .ok (.bipush (-12), 2) := by decide +kernel
theorem dX8_judge_38 : decode cX8_judge 38 = .ok (.ireturn, 1) := by decide +kernel
theorem dX8_judge_39 : decode cX8_judge 39 = .ok (.iconst 0, 1) := by decide +kernel
theorem dX8_judge_40 : decode cX8_judge 40 = .ok (.istore_n 3, 1) := by decide +kernel
theorem dX8_judge_41 : decode cX8_judge 41 = .ok (.iload_n 3, 1) := by decide +kernel
theorem dX8_judge_42 : decode cX8_judge 42 = .ok (.aload_n 0, 1) := by decide +kernel
theorem dX8_judge_43 : decode cX8_judge 43 = .ok (.getfield 25, 3) := by decide +kernel
theorem dX8_judge_46 : decode cX8_judge 46 = .ok (.getfield 71, 3) := by decide +kernel
theorem dX8_judge_49 : decode cX8_judge 49 = .ok (.if_icmp .ge 73, 3) := by decide +kernel
theorem dX8_judge_52 : decode cX8_judge 52 = .ok (.aload_n 0, 1) := by decide +kernel
theorem dX8_judge_53 : decode cX8_judge 53 = .ok (.getfield 62, 3) := by decide +kernel
theorem dX8_judge_56 : decode cX8_judge 56 = .ok (.iload_n 1, 1) := by decide +kernel
theorem dX8_judge_57 : decode cX8_judge 57 = .ok (.invokevirtual 250, 3) := by decide +kernel
theorem dX8_judge_60 : decode cX8_judge 60 = .ok (.ifCond .eq 22, 3) := by decide +kernel
theorem dX8_judge_63 : decode cX8_judge 63 = .ok (.iload_n 2, 1) := by decide +kernel
theorem dX8_judge_64 : decode cX8_judge 64 = .ok (.ifCond .lt 18, 3) := by decide +kernel
theorem dX8_judge_67 : decode cX8_judge 67 = .ok (.iload_n 2, 1) := by decide +kernel
theorem dX8_judge_68 : decode cX8_judge 68 = .ok (.aload_n 0, 1) := by decide +kernel
theorem dX8_judge_69 : decode cX8_judge 69 = .ok (.getfield 62, 3) := by decide +kernel
theorem dX8_judge_72 : decode cX8_judge 72 = .ok (.getfield 256, 3) := by decide +kernel
theorem dX8_judge_75 : decode cX8_judge 75 = .ok (.iload_n 1, 1) := by decide +kernel
theorem dX8_judge_76 : decode cX8_judge 76 = .ok (.iaload, 1) := by decide +kernel
theorem dX8_judge_77 : decode cX8_judge 77 = .ok (.iload_n 3, 1) := by decide +kernel
theorem dX8_judge_78 : decode cX8_judge 78 = .ok (.isub, 1) := by decide +kernel
theorem dX8_judge_79 : decode cX8_judge 79 = .ok (.if_icmp .lt 8, 3) := by decide +kernel
theorem dX8_judge_82 : decode cX8_judge 82 = .ok (.bipush 100, 2) := by decide +kernel
theorem dX8_judge_84 : decode cX8_judge 84 = .ok (.iload_n 3, 1) := by decide +kernel
theorem dX8_judge_85 : decode cX8_judge 85 = .ok (.iadd, 1) := by decide +kernel
theorem dX8_judge_86 : decode cX8_judge 86 = .ok (.ireturn, 1) := by decide +kernel
theorem dX8_judge_87 : decode cX8_judge 87 = .ok (.aload_n 0, 1) := by decide +kernel
theorem dX8_judge_88 : decode cX8_judge 88 = .ok (.getfield 62, 3) := by decide +kernel
theorem dX8_judge_91 : decode cX8_judge 91 = .ok (.getfield 258, 3) := by decide +kernel
theorem dX8_judge_94 : decode cX8_judge 94 = .ok (.iload_n 1, 1) := by decide +kernel
theorem dX8_judge_95 : decode cX8_judge 95 = .ok (.aaload, 1) := by decide +kernel
theorem dX8_judge_96 : decode cX8_judge 96 = .ok (.iload_n 2, 1) := by decide +kernel
theorem dX8_judge_97 : decode cX8_judge 97 = .ok (.iload_n 3, 1) := by decide +kernel
theorem dX8_judge_98 : decode cX8_judge 98 = .ok (.iadd, 1) := by decide +kernel
theorem dX8_judge_99 : decode cX8_judge 99 = .ok (.laload, 1) := by decide +kernel
theorem dX8_judge_100 : decode cX8_judge 100 = .ok (.aload_n 0, 1) := by decide +kernel
theorem dX8_judge_101 : decode cX8_judge 101 = .ok (.getfield 25, 3) := by decide +kernel
theorem dX8_judge_104 : decode cX8_judge 104 = .ok (.getfield 92, 3) := by decide +kernel
theorem dX8_judge_107 : decode cX8_judge 107 = .ok (.iload_n 3, 1) := by decide +kernel
theorem dX8_judge_108 : decode cX8_judge 108 = .ok (.iaload, 1) := by decide +kernel
theorem dX8_judge_109 : decode cX8_judge 109 = .ok (.i2l, 1) := by decide +kernel
theorem dX8_judge_110 : decode cX8_judge 110 = .ok (.lcmp, 1) := by decide +kernel
theorem dX8_judge_111 : decode cX8_judge 111 = .ok (.ifCond .eq 5, 3) := by decide +kernel
theorem dX8_judge_114 : decode cX8_judge 114 = .ok (.iload_n 3, 1) := by decide +kernel
theorem dX8_judge_115 : decode cX8_judge 115 = .ok (.ireturn, 1) := by decide +kernel
theorem dX8_judge_116 : decode cX8_judge 116 = .ok (.iinc 3 1, 3) := by decide +kernel
theorem dX8_judge_119 : decode cX8_judge 119 = .ok (.goto (-78), 3) := by decide +kernel
theorem dX8_judge_122 : decode cX8_judge 122 = .ok (.bipush (-5), 2) := by decide +kernel
theorem dX8_judge_124 : decode cX8_judge 124 = .ok (.ireturn, 1) := by decide +kernel
theorem dX8_image_0 : decode cX8_image 0 = .ok (.aload_n 0, 1) := by decide +kernel
theorem dX8_image_1 : decode cX8_image 1 = .ok (.getfield 18, 3) := by decide +kernel
theorem dX8_image_4 : decode cX8_image 4 = .ok (.aload_n 0, 1) := by decide +kernel
theorem dX8_image_5 : decode cX8_image 5 = .ok (.getfield 12, 3) := by decide +kernel
theorem dX8_image_8 : decode cX8_image 8 = .ok (.invokevirtual 262, 3) := by decide +kernel
theorem dX8_image_11 : decode cX8_image 11 = .ok (.aload_n 0, 1) := by decide +kernel
theorem dX8_image_12 : decode cX8_image 12 = .ok (.iconst 1, 1) := by decide +kernel
theorem dX8_image_13 : decode cX8_image 13 = .ok (.putfield 266, 3) := by decide +kernel
theorem dX8_image_16 : decode cX8_image 16 = .ok (.aload_n 0, 1) := by decide +kernel
theorem dX8_image_17 : decode cX8_image 17 = .ok (.getfield 25, 3) := by decide +kernel
theorem dX8_image_20 : decode cX8_image 20 = .ok (.getfield 71, 3) := by decide +kernel
theorem dX8_image_23 : decode cX8_image 23 = .ok (.ireturn, 1) := by decide +kernel
theorem dX8_undo_0 : decode cX8_undo 0 = .ok (.aload_n 0, 1) := by decide +kernel
theorem dX8_undo_1 : decode cX8_undo 1 = .ok (.getfield 266, 3) := by decide +kernel
theorem dX8_undo_4 : decode cX8_undo 4 = .ok (.ifCond .ne 6, 3) := by decide +kernel
theorem dX8_undo_7 : decode cX8_undo 7 = .ok (.bipush (-3), 2) := by decide +kernel
theorem dX8_undo_9 : decode cX8_undo 9 = .ok (.ireturn, 1) := by decide +kernel
theorem dX8_undo_10 : decode cX8_undo 10 = .ok (.aload_n 0, 1) := by decide +kernel
theorem dX8_undo_11 : decode cX8_undo 11 = .ok (.getfield 12, 3) := by decide +kernel
theorem dX8_undo_14 : decode cX8_undo 14 = .ok (.aload_n 0, 1) := by decide +kernel
theorem dX8_undo_15 : decode cX8_undo 15 = .ok (.getfield 18, 3) := by decide +kernel
theorem dX8_undo_18 : decode cX8_undo 18 = .ok (.invokevirtual 262, 3) := by decide +kernel
theorem dX8_undo_21 : decode cX8_undo 21 = .ok (.aload_n 0, 1) := by decide +kernel
theorem dX8_undo_22 : decode cX8_undo 22 = .ok (.getfield 25, 3) := by decide +kernel
theorem dX8_undo_25 : decode cX8_undo 25 = .ok (.getfield 71, 3) := by decide +kernel
theorem dX8_undo_28 : decode cX8_undo 28 = .ok (.ireturn, 1) := by decide +kernel
theorem dX8_act_0 : decode cX8_act 0 = .ok (.aload_n 0, 1) := by decide +kernel
theorem dX8_act_1 : decode cX8_act 1 = .ok (.getfield 55, 3) := by decide +kernel
theorem dX8_act_4 : decode cX8_act 4 = .ok (.iconst 0, 1) := by decide +kernel
theorem dX8_act_5 : decode cX8_act 5 = .ok (.putfield 270, 3) := by decide +kernel
theorem dX8_act_8 : decode cX8_act 8 = .ok (.aload_n 0, 1) := by decide +kernel
theorem dX8_act_9 : decode cX8_act 9 = .ok (.getfield 25, 3) := by decide +kernel
theorem dX8_act_12 : decode cX8_act 12 = .ok (.iload_n 1, 1) := by decide +kernel
theorem dX8_act_13 : decode cX8_act 13 = .ok (.invokevirtual 81, 3) := by decide +kernel
theorem dX8_act_16 : decode cX8_act 16 = .ok (.ifCond .eq 12, 3) := by decide +kernel
theorem dX8_act_19 : decode cX8_act 19 = .ok (.iload_n 2, 1) := by decide +kernel
theorem dX8_act_20 : decode cX8_act 20 = .ok (.iconst 0, 1) := by decide +kernel
theorem dX8_act_21 : decode cX8_act 21 = .ok (.iconst 2, 1) := by decide +kernel
theorem dX8_act_22 : decode cX8_act 22 = .ok (.invokestatic 67, 3) := by decide +kernel
theorem dX8_act_25 : decode cX8_act 25 = .ok (.ifCond .ne 5, 3) := by decide +kernel
theorem dX8_act_28 : decode cX8_act 28 = .ok (.iconst 0, 1) := by decide +kernel
theorem dX8_act_29 : decode cX8_act 29 = .ok (.ireturn, 1) := by decide +kernel
theorem dX8_act_30 : decode cX8_act 30 = .ok (.aload_n 0, 1) := by decide +kernel
theorem dX8_act_31 : decode cX8_act 31 = .ok (.getfield 55, 3) := by decide +kernel
theorem dX8_act_34 : decode cX8_act 34 = .ok (.aload_n 0, 1) := by decide +kernel
theorem dX8_act_35 : decode cX8_act 35 = .ok (.getfield 25, 3) := by decide +kernel
theorem dX8_act_38 : decode cX8_act 38 = .ok (.iload_n 1, 1) := by decide +kernel
theorem dX8_act_39 : decode cX8_act 39 = .ok (.iload_n 2, 1) := by decide +kernel
theorem dX8_act_40 : decode cX8_act 40 = .ok (.iload_n 3, 1) := by decide +kernel
theorem dX8_act_41 : decode cX8_act 41 = .ok (.invokevirtual 273, 3) := by decide +kernel
theorem dX8_act_44 : decode cX8_act 44 = .ok (.ireturn, 1) := by decide +kernel
theorem dX8_trace_0 : decode cX8_trace 0 = .ok (.iload_n 1, 1) := by decide +kernel
theorem dX8_trace_1 : decode cX8_trace 1 = .ok (.ifCond .lt 32, 3) := by decide +kernel
theorem dX8_trace_4 : decode cX8_trace 4 = .ok (.iload_n 1, 1) := by decide +kernel
theorem dX8_trace_5 : decode cX8_trace 5 = .ok (.aload_n 0, 1) := by decide +kernel
theorem dX8_trace_6 : decode cX8_trace 6 = .ok (.getfield 55, 3) := by decide +kernel
theorem dX8_trace_9 : decode cX8_trace 9 = .ok (.getfield 270, 3) := by decide +kernel
theorem dX8_trace_12 : decode cX8_trace 12 = .ok (.if_icmp .ge 21, 3) := by decide +kernel
theorem dX8_trace_15 : decode cX8_trace 15 = .ok (.iload_n 1, 1) := by decide +kernel
theorem dX8_trace_16 : decode cX8_trace 16 = .ok (.bipush 20, 2) := by decide +kernel
theorem dX8_trace_18 : decode cX8_trace 18 = .ok (.if_icmp .ge 15, 3) := by decide +kernel
theorem dX8_trace_21 : decode cX8_trace 21 = .ok (.aload_n 0, 1) := by decide +kernel
theorem dX8_trace_22 : decode cX8_trace 22 = .ok (.getfield 55, 3) := by decide +kernel
theorem dX8_trace_25 : decode cX8_trace 25 = .ok (.getfield 277, 3) := by decide +kernel
theorem dX8_trace_28 : decode cX8_trace 28 = .ok (.iload_n 1, 1) := by decide +kernel
theorem dX8_trace_29 : decode cX8_trace 29 = .ok (.iaload, 1) := by decide +kernel
theorem dX8_trace_30 : decode cX8_trace 30 = .ok (.goto 4, 3) := by decide +kernel
theorem dX8_trace_33 : decode cX8_trace 33 = .ok (.iconst (-1), 1) := by decide +kernel
theorem dX8_trace_34 : decode cX8_trace 34 = .ok (.ireturn, 1) := by decide +kernel
theorem dX8_taken_0 : decode cX8_taken 0 = .ok (.iload_n 2, 1) := by decide +kernel
theorem dX8_taken_1 : decode cX8_taken 1 = .ok (.iconst 0, 1) := by decide +kernel
theorem dX8_taken_2 : decode cX8_taken 2 = .ok (.bipush 6, 2) := by decide +kernel
theorem dX8_taken_4 : decode cX8_taken 4 = .ok (.invokestatic 67, 3) := by decide +kernel
theorem dX8_taken_7 : decode cX8_taken 7 = .ok (.ifCond .ne 6, 3) := by decide +kernel
theorem dX8_taken_10 : decode cX8_taken 10 = .ok (.bipush (-2), 2) := by decide +kernel
theorem dX8_taken_12 : decode cX8_taken 12 = .ok (.ireturn, 1) := by decide +kernel
theorem dX8_taken_13 : decode cX8_taken 13 = .ok (.aload_n 0, 1) := by decide +kernel
theorem dX8_taken_14 : decode cX8_taken 14 = .ok (.getfield 25, 3) := by decide +kernel
theorem dX8_taken_17 : decode cX8_taken 17 = .ok (.iload_n 1, 1) := by decide +kernel
theorem dX8_taken_18 : decode cX8_taken 18 = .ok (.invokevirtual 81, 3) := by decide +kernel
theorem dX8_taken_21 : decode cX8_taken 21 = .ok (.ifCond .ne 6, 3) := by decide +kernel
theorem dX8_taken_24 : decode cX8_taken 24 = .ok (.bipush (-11), 2) := by decide +kernel
theorem dX8_taken_26 : decode cX8_taken 26 = .ok (.ireturn, 1) := by decide +kernel
theorem dX8_taken_27 : decode cX8_taken 27 = .ok (.aload_n 0, 1) := by decide +kernel
theorem dX8_taken_28 : decode cX8_taken 28 = .ok (.getfield 25, 3) := by decide +kernel
theorem dX8_taken_31 : decode cX8_taken 31 = .ok (.getfield 85, 3) := by decide +kernel
theorem dX8_taken_34 : decode cX8_taken 34 = .ok (.iload_n 1, 1) := by decide +kernel
theorem dX8_taken_35 : decode cX8_taken 35 = .ok (.iaload, 1) := by decide +kernel
theorem dX8_taken_36 : decode cX8_taken 36 = .ok (.iload_n 2, 1) := by decide +kernel
theorem dX8_taken_37 : decode cX8_taken 37 = .ok (.invokestatic 280, 3) := by decide +kernel
theorem dX8_taken_40 : decode cX8_taken 40 = .ok (.ifCond .eq 15, 3) := by decide +kernel
theorem dX8_taken_43 : decode cX8_taken 43 = .ok (.aload_n 0, 1) := by decide +kernel
theorem dX8_taken_44 : decode cX8_taken 44 = .ok (.getfield 25, 3) := by decide +kernel
theorem dX8_taken_47 : decode cX8_taken 47 = .ok (.getfield 85, 3) := by decide +kernel
theorem dX8_taken_50 : decode cX8_taken 50 = .ok (.iload_n 1, 1) := by decide +kernel
theorem dX8_taken_51 : decode cX8_taken 51 = .ok (.iaload, 1) := by decide +kernel
theorem dX8_taken_52 : decode cX8_taken 52 = .ok (.goto 5, 3) := by decide +kernel
theorem dX8_taken_55 : decode cX8_taken 55 = .ok (.bipush (-12), 2) := by decide +kernel
theorem dX8_taken_57 : decode cX8_taken 57 = .ok (.ireturn, 1) := by decide +kernel
theorem dX8_count_0 : decode cX8_count 0 = .ok (.iload_n 1, 1) := by decide +kernel
theorem dX8_count_1 : decode cX8_count 1 = .ok (.tableswitch 117 0 7 #[47, 55, 63, 68, 79, 90, 101, 109], 47) := by decide +kernel
theorem dX8_count_48 : decode cX8_count 48 = .ok (.aload_n 0, 1) := by decide +kernel
theorem dX8_count_49 : decode cX8_count 49 = .ok (.getfield 25, 3) := by decide +kernel
theorem dX8_count_52 : decode cX8_count 52 = .ok (.getfield 71, 3) := by decide +kernel
theorem dX8_count_55 : decode cX8_count 55 = .ok (.ireturn, 1) := by decide +kernel
theorem dX8_count_56 : decode cX8_count 56 = .ok (.aload_n 0, 1) := by decide +kernel
theorem dX8_count_57 : decode cX8_count 57 = .ok (.getfield 25, 3) := by decide +kernel
theorem dX8_count_60 : decode cX8_count 60 = .ok (.getfield 111, 3) := by decide +kernel
theorem dX8_count_63 : decode cX8_count 63 = .ok (.ireturn, 1) := by decide +kernel
theorem dX8_count_64 : decode cX8_count 64 = .ok (.aload_n 0, 1) := by decide +kernel
theorem dX8_count_65 : decode cX8_count 65 = .ok (.getfield 151, 3) := by decide +kernel
theorem dX8_count_68 : decode cX8_count 68 = .ok (.ireturn, 1) := by decide +kernel
theorem dX8_count_69 : decode cX8_count 69 = .ok (.aload_n 0, 1) := by decide +kernel
theorem dX8_count_70 : decode cX8_count 70 = .ok (.getfield 12, 3) := by decide +kernel
theorem dX8_count_73 : decode cX8_count 73 = .ok (.getfield 28, 3) := by decide +kernel
theorem dX8_count_76 : decode cX8_count 76 = .ok (.getfield 240, 3) := by decide +kernel
theorem dX8_count_79 : decode cX8_count 79 = .ok (.ireturn, 1) := by decide +kernel
theorem dX8_count_80 : decode cX8_count 80 = .ok (.aload_n 0, 1) := by decide +kernel
theorem dX8_count_81 : decode cX8_count 81 = .ok (.getfield 12, 3) := by decide +kernel
theorem dX8_count_84 : decode cX8_count 84 = .ok (.getfield 230, 3) := by decide +kernel
theorem dX8_count_87 : decode cX8_count 87 = .ok (.getfield 240, 3) := by decide +kernel
theorem dX8_count_90 : decode cX8_count 90 = .ok (.ireturn, 1) := by decide +kernel
theorem dX8_count_91 : decode cX8_count 91 = .ok (.aload_n 0, 1) := by decide +kernel
theorem dX8_count_92 : decode cX8_count 92 = .ok (.getfield 12, 3) := by decide +kernel
theorem dX8_count_95 : decode cX8_count 95 = .ok (.getfield 237, 3) := by decide +kernel
theorem dX8_count_98 : decode cX8_count 98 = .ok (.getfield 240, 3) := by decide +kernel
theorem dX8_count_101 : decode cX8_count 101 = .ok (.ireturn, 1) := by decide +kernel
theorem dX8_count_102 : decode cX8_count 102 = .ok (.aload_n 0, 1) := by decide +kernel
theorem dX8_count_103 : decode cX8_count 103 = .ok (.getfield 42, 3) := by decide +kernel
theorem dX8_count_106 : decode cX8_count 106 = .ok (.getfield 144, 3) := by decide +kernel
theorem dX8_count_109 : decode cX8_count 109 = .ok (.ireturn, 1) := by decide +kernel
theorem dX8_count_110 : decode cX8_count 110 = .ok (.aload_n 0, 1) := by decide +kernel
theorem dX8_count_111 : decode cX8_count 111 = .ok (.getfield 55, 3) := by decide +kernel
theorem dX8_count_114 : decode cX8_count 114 = .ok (.getfield 270, 3) := by decide +kernel
theorem dX8_count_117 : decode cX8_count 117 = .ok (.ireturn, 1) := by decide +kernel
theorem dX8_count_118 : decode cX8_count 118 = .ok (.bipush (-2), 2) := by decide +kernel
theorem dX8_count_120 : decode cX8_count 120 = .ok (.ireturn, 1) := by decide +kernel
theorem dX8_tape_0 : decode cX8_tape 0 = .ok (.aload_n 0, 1) := by decide +kernel
theorem dX8_tape_1 : decode cX8_tape 1 = .ok (.getfield 62, 3) := by decide +kernel
theorem dX8_tape_4 : decode cX8_tape 4 = .ok (.iload_n 1, 1) := by decide +kernel
theorem dX8_tape_5 : decode cX8_tape 5 = .ok (.invokevirtual 247, 3) := by decide +kernel
theorem dX8_tape_8 : decode cX8_tape 8 = .ok (.ifCond .ne 5, 3) := by decide +kernel
theorem dX8_tape_11 : decode cX8_tape 11 = .ok (.iconst (-1), 1) := by decide +kernel
theorem dX8_tape_12 : decode cX8_tape 12 = .ok (.ireturn, 1) := by decide +kernel
theorem dX8_tape_13 : decode cX8_tape 13 = .ok (.iload_n 2, 1) := by decide +kernel
theorem dX8_tape_14 : decode cX8_tape 14 = .ok (.iconst (-1), 1) := by decide +kernel
theorem dX8_tape_15 : decode cX8_tape 15 = .ok (.if_icmp .ne 14, 3) := by decide +kernel
theorem dX8_tape_18 : decode cX8_tape 18 = .ok (.aload_n 0, 1) := by decide +kernel
theorem dX8_tape_19 : decode cX8_tape 19 = .ok (.getfield 62, 3) := by decide +kernel
theorem dX8_tape_22 : decode cX8_tape 22 = .ok (.iload_n 1, 1) := by decide +kernel
theorem dX8_tape_23 : decode cX8_tape 23 = .ok (.iload_n 2, 1) := by decide +kernel
theorem dX8_tape_24 : decode cX8_tape 24 = .ok (.iconst 0, 1) := by decide +kernel
theorem dX8_tape_25 : decode cX8_tape 25 = .ok (.invokevirtual 284, 3) := by decide +kernel
theorem dX8_tape_28 : decode cX8_tape 28 = .ok (.ireturn, 1) := by decide +kernel
theorem dX8_tape_29 : decode cX8_tape 29 = .ok (.iload_n 2, 1) := by decide +kernel
theorem dX8_tape_30 : decode cX8_tape 30 = .ok (.iconst 0, 1) := by decide +kernel
theorem dX8_tape_31 : decode cX8_tape 31 = .ok (.iconst 4, 1) := by decide +kernel
theorem dX8_tape_32 : decode cX8_tape 32 = .ok (.invokestatic 67, 3) := by decide +kernel
theorem dX8_tape_35 : decode cX8_tape 35 = .ok (.ifCond .eq 9, 3) := by decide +kernel
theorem dX8_tape_38 : decode cX8_tape 38 = .ok (.iload_n 3, 1) := by decide +kernel
theorem dX8_tape_39 : decode cX8_tape 39 = .ok (.bipush 60, 2) := by decide +kernel
theorem dX8_tape_41 : decode cX8_tape 41 = .ok (.if_icmp .le 6, 3) := by decide +kernel
theorem dX8_tape_44 : decode cX8_tape 44 = .ok (.bipush (-2), 2) := by decide +kernel
theorem dX8_tape_46 : decode cX8_tape 46 = .ok (.ireturn, 1) := by decide +kernel
theorem dX8_tape_47 : decode cX8_tape 47 = .ok (.iload_n 3, 1) := by decide +kernel
theorem dX8_tape_48 : decode cX8_tape 48 = .ok (.ifCond .ge 8, 3) := by decide +kernel
theorem dX8_tape_51 : decode cX8_tape 51 = .ok (.bipush (-14), 2) := by decide +kernel
theorem dX8_tape_53 : decode cX8_tape 53 = .ok (.goto 13, 3) := by decide +kernel
theorem dX8_tape_56 : decode cX8_tape 56 = .ok (.aload_n 0, 1) := by decide +kernel
theorem dX8_tape_57 : decode cX8_tape 57 = .ok (.getfield 62, 3) := by decide +kernel
theorem dX8_tape_60 : decode cX8_tape 60 = .ok (.iload_n 1, 1) := by decide +kernel
theorem dX8_tape_61 : decode cX8_tape 61 = .ok (.iload_n 2, 1) := by decide +kernel
theorem dX8_tape_62 : decode cX8_tape 62 = .ok (.iload_n 3, 1) := by decide +kernel
theorem dX8_tape_63 : decode cX8_tape 63 = .ok (.invokevirtual 284, 3) := by decide +kernel
theorem dX8_tape_66 : decode cX8_tape 66 = .ok (.ireturn, 1) := by decide +kernel
theorem dX8_item_0 : decode cX8_item 0 = .ok (.aload_n 0, 1) := by decide +kernel
theorem dX8_item_1 : decode cX8_item 1 = .ok (.getfield 62, 3) := by decide +kernel
theorem dX8_item_4 : decode cX8_item 4 = .ok (.iload_n 1, 1) := by decide +kernel
theorem dX8_item_5 : decode cX8_item 5 = .ok (.invokevirtual 247, 3) := by decide +kernel
theorem dX8_item_8 : decode cX8_item 8 = .ok (.ifCond .ne 5, 3) := by decide +kernel
theorem dX8_item_11 : decode cX8_item 11 = .ok (.iconst (-1), 1) := by decide +kernel
theorem dX8_item_12 : decode cX8_item 12 = .ok (.ireturn, 1) := by decide +kernel
theorem dX8_item_13 : decode cX8_item 13 = .ok (.aload_n 0, 1) := by decide +kernel
theorem dX8_item_14 : decode cX8_item 14 = .ok (.getfield 62, 3) := by decide +kernel
theorem dX8_item_17 : decode cX8_item 17 = .ok (.iload_n 1, 1) := by decide +kernel
theorem dX8_item_18 : decode cX8_item 18 = .ok (.invokevirtual 250, 3) := by decide +kernel
theorem dX8_item_21 : decode cX8_item 21 = .ok (.ifCond .ne 6, 3) := by decide +kernel
theorem dX8_item_24 : decode cX8_item 24 = .ok (.bipush (-11), 2) := by decide +kernel
theorem dX8_item_26 : decode cX8_item 26 = .ok (.ireturn, 1) := by decide +kernel
theorem dX8_item_27 : decode cX8_item 27 = .ok (.aload_n 0, 1) := by decide +kernel
theorem dX8_item_28 : decode cX8_item 28 = .ok (.getfield 62, 3) := by decide +kernel
theorem dX8_item_31 : decode cX8_item 31 = .ok (.iload_n 1, 1) := by decide +kernel
theorem dX8_item_32 : decode cX8_item 32 = .ok (.iload_n 2, 1) := by decide +kernel
theorem dX8_item_33 : decode cX8_item 33 = .ok (.iconst 1, 1) := by decide +kernel
theorem dX8_item_34 : decode cX8_item 34 = .ok (.invokevirtual 286, 3) := by decide +kernel
theorem dX8_item_37 : decode cX8_item 37 = .ok (.ifCond .eq 16, 3) := by decide +kernel
theorem dX8_item_40 : decode cX8_item 40 = .ok (.aload_n 0, 1) := by decide +kernel
theorem dX8_item_41 : decode cX8_item 41 = .ok (.getfield 62, 3) := by decide +kernel
theorem dX8_item_44 : decode cX8_item 44 = .ok (.iload_n 1, 1) := by decide +kernel
theorem dX8_item_45 : decode cX8_item 45 = .ok (.iload_n 2, 1) := by decide +kernel
theorem dX8_item_46 : decode cX8_item 46 = .ok (.lload_n 3, 1) := by decide +kernel
theorem dX8_item_47 : decode cX8_item 47 = .ok (.invokevirtual 289, 3) := by decide +kernel
theorem dX8_item_50 : decode cX8_item 50 = .ok (.goto 5, 3) := by decide +kernel
theorem dX8_item_53 : decode cX8_item 53 = .ok (.bipush (-13), 2) := by decide +kernel
theorem dX8_item_55 : decode cX8_item 55 = .ok (.ireturn, 1) := by decide +kernel
theorem dX8_read_0 : decode cX8_read 0 = .ok (.aload_n 0, 1) := by decide +kernel
theorem dX8_read_1 : decode cX8_read 1 = .ok (.getfield 62, 3) := by decide +kernel
theorem dX8_read_4 : decode cX8_read 4 = .ok (.iload_n 1, 1) := by decide +kernel
theorem dX8_read_5 : decode cX8_read 5 = .ok (.invokevirtual 247, 3) := by decide +kernel
theorem dX8_read_8 : decode cX8_read 8 = .ok (.ifCond .eq 41, 3) := by decide +kernel
theorem dX8_read_11 : decode cX8_read 11 = .ok (.aload_n 0, 1) := by decide +kernel
theorem dX8_read_12 : decode cX8_read 12 = .ok (.getfield 62, 3) := by decide +kernel
theorem dX8_read_15 : decode cX8_read 15 = .ok (.iload_n 1, 1) := by decide +kernel
theorem dX8_read_16 : decode cX8_read 16 = .ok (.invokevirtual 250, 3) := by decide +kernel
theorem dX8_read_19 : decode cX8_read 19 = .ok (.ifCond .eq 30, 3) := by decide +kernel
theorem dX8_read_22 : decode cX8_read 22 = .ok (.aload_n 0, 1) := by decide +kernel
theorem dX8_read_23 : decode cX8_read 23 = .ok (.getfield 62, 3) := by decide +kernel
theorem dX8_read_26 : decode cX8_read 26 = .ok (.iload_n 1, 1) := by decide +kernel
theorem dX8_read_27 : decode cX8_read 27 = .ok (.iload_n 2, 1) := by decide +kernel
theorem dX8_read_28 : decode cX8_read 28 = .ok (.iconst 1, 1) := by decide +kernel
theorem dX8_read_29 : decode cX8_read 29 = .ok (.invokevirtual 286, 3) := by decide +kernel
theorem dX8_read_32 : decode cX8_read 32 = .ok (.ifCond .eq 17, 3) := by decide +kernel
theorem dX8_read_35 : decode cX8_read 35 = .ok (.aload_n 0, 1) := by decide +kernel
theorem dX8_read_36 : decode cX8_read 36 = .ok (.getfield 62, 3) := by decide +kernel
theorem dX8_read_39 : decode cX8_read 39 = .ok (.getfield 258, 3) := by decide +kernel
theorem dX8_read_42 : decode cX8_read 42 = .ok (.iload_n 1, 1) := by decide +kernel
theorem dX8_read_43 : decode cX8_read 43 = .ok (.aaload, 1) := by decide +kernel
theorem dX8_read_44 : decode cX8_read 44 = .ok (.iload_n 2, 1) := by decide +kernel
theorem dX8_read_45 : decode cX8_read 45 = .ok (.laload, 1) := by decide +kernel
theorem dX8_read_46 : decode cX8_read 46 = .ok (.goto 6, 3) := by decide +kernel
theorem dX8_read_49 : decode cX8_read 49 = .ok (.ldc2_w 218, 3) := by decide +kernel
theorem dX8_read_52 : decode cX8_read 52 = .ok (.lreturn, 1) := by decide +kernel
theorem dX8_shift_0 : decode cX8_shift 0 = .ok (.aload_n 0, 1) := by decide +kernel
theorem dX8_shift_1 : decode cX8_shift 1 = .ok (.getfield 62, 3) := by decide +kernel
theorem dX8_shift_4 : decode cX8_shift 4 = .ok (.iload_n 1, 1) := by decide +kernel
theorem dX8_shift_5 : decode cX8_shift 5 = .ok (.invokevirtual 247, 3) := by decide +kernel
theorem dX8_shift_8 : decode cX8_shift 8 = .ok (.ifCond .eq 14, 3) := by decide +kernel
theorem dX8_shift_11 : decode cX8_shift 11 = .ok (.aload_n 0, 1) := by decide +kernel
theorem dX8_shift_12 : decode cX8_shift 12 = .ok (.getfield 62, 3) := by decide +kernel
theorem dX8_shift_15 : decode cX8_shift 15 = .ok (.iload_n 3, 1) := by decide +kernel
theorem dX8_shift_16 : decode cX8_shift 16 = .ok (.invokevirtual 247, 3) := by decide +kernel
theorem dX8_shift_19 : decode cX8_shift 19 = .ok (.ifCond .ne 5, 3) := by decide +kernel
theorem dX8_shift_22 : decode cX8_shift 22 = .ok (.iconst (-1), 1) := by decide +kernel
theorem dX8_shift_23 : decode cX8_shift 23 = .ok (.ireturn, 1) := by decide +kernel
theorem dX8_shift_24 : decode cX8_shift 24 = .ok (.aload_n 0, 1) := by decide +kernel
theorem dX8_shift_25 : decode cX8_shift 25 = .ok (.getfield 62, 3) := by decide +kernel
theorem dX8_shift_28 : decode cX8_shift 28 = .ok (.iload_n 1, 1) := by decide +kernel
theorem dX8_shift_29 : decode cX8_shift 29 = .ok (.invokevirtual 250, 3) := by decide +kernel
theorem dX8_shift_32 : decode cX8_shift 32 = .ok (.ifCond .eq 14, 3) := by decide +kernel
theorem dX8_shift_35 : decode cX8_shift 35 = .ok (.aload_n 0, 1) := by decide +kernel
theorem dX8_shift_36 : decode cX8_shift 36 = .ok (.getfield 62, 3) := by decide +kernel
theorem dX8_shift_39 : decode cX8_shift 39 = .ok (.iload_n 3, 1) := by decide +kernel
theorem dX8_shift_40 : decode cX8_shift 40 = .ok (.invokevirtual 250, 3) := by decide +kernel
theorem dX8_shift_43 : decode cX8_shift 43 = .ok (.ifCond .ne 6, 3) := by decide +kernel
theorem dX8_shift_46 : decode cX8_shift 46 = .ok (.bipush (-11), 2) := by decide +kernel
theorem dX8_shift_48 : decode cX8_shift 48 = .ok (.ireturn, 1) := by decide +kernel
theorem dX8_shift_49 : decode cX8_shift 49 = .ok (.aload_n 0, 1) := by decide +kernel
theorem dX8_shift_50 : decode cX8_shift 50 = .ok (.getfield 62, 3) := by decide +kernel
theorem dX8_shift_53 : decode cX8_shift 53 = .ok (.getfield 253, 3) := by decide +kernel
theorem dX8_shift_56 : decode cX8_shift 56 = .ok (.iload_n 1, 1) := by decide +kernel
theorem dX8_shift_57 : decode cX8_shift 57 = .ok (.iaload, 1) := by decide +kernel
theorem dX8_shift_58 : decode cX8_shift 58 = .ok (.aload_n 0, 1) := by decide +kernel
theorem dX8_shift_59 : decode cX8_shift 59 = .ok (.getfield 62, 3) := by decide +kernel
theorem dX8_shift_62 : decode cX8_shift 62 = .ok (.getfield 253, 3) := by decide +kernel
theorem dX8_shift_65 : decode cX8_shift 65 = .ok (.iload_n 3, 1) := by decide +kernel
theorem dX8_shift_66 : decode cX8_shift 66 = .ok (.iaload, 1) := by decide +kernel
theorem dX8_shift_67 : decode cX8_shift 67 = .ok (.if_icmp .eq 6, 3) := by decide +kernel
theorem dX8_shift_70 : decode cX8_shift 70 = .ok (.bipush (-12), 2) := by decide +kernel
theorem dX8_shift_72 : decode cX8_shift 72 = .ok (.ireturn, 1) := by decide +kernel
theorem dX8_shift_73 : decode cX8_shift 73 = .ok (.aload_n 0, 1) := by decide +kernel
theorem dX8_shift_74 : decode cX8_shift 74 = .ok (.getfield 62, 3) := by decide +kernel
theorem dX8_shift_77 : decode cX8_shift 77 = .ok (.iload_n 1, 1) := by decide +kernel
theorem dX8_shift_78 : decode cX8_shift 78 = .ok (.iload_n 2, 1) := by decide +kernel
theorem dX8_shift_79 : decode cX8_shift 79 = .ok (.iload 5, 2) := by decide +kernel
theorem dX8_shift_81 : decode cX8_shift 81 = .ok (.invokevirtual 286, 3) := by decide +kernel
theorem dX8_shift_84 : decode cX8_shift 84 = .ok (.ifCond .eq 18, 3) := by decide +kernel
theorem dX8_shift_87 : decode cX8_shift 87 = .ok (.aload_n 0, 1) := by decide +kernel
theorem dX8_shift_88 : decode cX8_shift 88 = .ok (.getfield 62, 3) := by decide +kernel
theorem dX8_shift_91 : decode cX8_shift 91 = .ok (.iload_n 3, 1) := by decide +kernel
theorem dX8_shift_92 : decode cX8_shift 92 = .ok (.iload 4, 2) := by decide +kernel
theorem dX8_shift_94 : decode cX8_shift 94 = .ok (.iload 5, 2) := by decide +kernel
theorem dX8_shift_96 : decode cX8_shift 96 = .ok (.invokevirtual 286, 3) := by decide +kernel
theorem dX8_shift_99 : decode cX8_shift 99 = .ok (.ifCond .ne 6, 3) := by decide +kernel
theorem dX8_shift_102 : decode cX8_shift 102 = .ok (.bipush (-13), 2) := by decide +kernel
theorem dX8_shift_104 : decode cX8_shift 104 = .ok (.ireturn, 1) := by decide +kernel
theorem dX8_shift_105 : decode cX8_shift 105 = .ok (.aload_n 0, 1) := by decide +kernel
theorem dX8_shift_106 : decode cX8_shift 106 = .ok (.getfield 62, 3) := by decide +kernel
theorem dX8_shift_109 : decode cX8_shift 109 = .ok (.getfield 258, 3) := by decide +kernel
theorem dX8_shift_112 : decode cX8_shift 112 = .ok (.iload_n 1, 1) := by decide +kernel
theorem dX8_shift_113 : decode cX8_shift 113 = .ok (.aaload, 1) := by decide +kernel
theorem dX8_shift_114 : decode cX8_shift 114 = .ok (.iload_n 2, 1) := by decide +kernel
theorem dX8_shift_115 : decode cX8_shift 115 = .ok (.aload_n 0, 1) := by decide +kernel
theorem dX8_shift_116 : decode cX8_shift 116 = .ok (.getfield 62, 3) := by decide +kernel
theorem dX8_shift_119 : decode cX8_shift 119 = .ok (.getfield 258, 3) := by decide +kernel
theorem dX8_shift_122 : decode cX8_shift 122 = .ok (.iload_n 3, 1) := by decide +kernel
theorem dX8_shift_123 : decode cX8_shift 123 = .ok (.aaload, 1) := by decide +kernel
theorem dX8_shift_124 : decode cX8_shift 124 = .ok (.iload 4, 2) := by decide +kernel
theorem dX8_shift_126 : decode cX8_shift 126 = .ok (.iload 5, 2) := by decide +kernel
theorem dX8_shift_128 : decode cX8_shift 128 = .ok (.invokestatic 293, 3) := by decide +kernel
theorem dX8_shift_131 : decode cX8_shift 131 = .ok (.iload 5, 2) := by decide +kernel
theorem dX8_shift_133 : decode cX8_shift 133 = .ok (.ireturn, 1) := by decide +kernel
theorem dX8_isWithin_0 : decode cX8_isWithin 0 = .ok (.iload_n 0, 1) := by decide +kernel
theorem dX8_isWithin_1 : decode cX8_isWithin 1 = .ok (.iload_n 1, 1) := by decide +kernel
theorem dX8_isWithin_2 : decode cX8_isWithin 2 = .ok (.if_icmp .lt 12, 3) := by decide +kernel
theorem dX8_isWithin_5 : decode cX8_isWithin 5 = .ok (.iload_n 0, 1) := by decide +kernel
theorem dX8_isWithin_6 : decode cX8_isWithin 6 = .ok (.iload_n 2, 1) := by decide +kernel
theorem dX8_isWithin_7 : decode cX8_isWithin 7 = .ok (.if_icmp .gt 7, 3) := by decide +kernel
theorem dX8_isWithin_10 : decode cX8_isWithin 10 = .ok (.iconst 1, 1) := by decide +kernel
theorem dX8_isWithin_11 : decode cX8_isWithin 11 = .ok (.goto 4, 3) := by decide +kernel
theorem dX8_isWithin_14 : decode cX8_isWithin 14 = .ok (.iconst 0, 1) := by decide +kernel
theorem dX8_isWithin_15 : decode cX8_isWithin 15 = .ok (.ireturn, 1) := by decide +kernel
theorem dX8_asNumber_0 : decode cX8_asNumber 0 = .ok (.iload_n 0, 1) := by decide +kernel
theorem dX8_asNumber_1 : decode cX8_asNumber 1 = .ok (.ifCond .eq 7, 3) := by decide +kernel
theorem dX8_asNumber_4 : decode cX8_asNumber 4 = .ok (.iconst 1, 1) := by decide +kernel
theorem dX8_asNumber_5 : decode cX8_asNumber 5 = .ok (.goto 4, 3) := by decide +kernel
theorem dX8_asNumber_8 : decode cX8_asNumber 8 = .ok (.iconst 0, 1) := by decide +kernel
theorem dX8_asNumber_9 : decode cX8_asNumber 9 = .ok (.ireturn, 1) := by decide +kernel
theorem dX8_orLacks_0 : decode cX8_orLacks 0 = .ok (.iload_n 0, 1) := by decide +kernel
theorem dX8_orLacks_1 : decode cX8_orLacks 1 = .ok (.ifCond .ge 8, 3) := by decide +kernel
theorem dX8_orLacks_4 : decode cX8_orLacks 4 = .ok (.bipush (-5), 2) := by decide +kernel
theorem dX8_orLacks_6 : decode cX8_orLacks 6 = .ok (.goto 4, 3) := by decide +kernel
theorem dX8_orLacks_9 : decode cX8_orLacks 9 = .ok (.iload_n 0, 1) := by decide +kernel
theorem dX8_orLacks_10 : decode cX8_orLacks 10 = .ok (.ireturn, 1) := by decide +kernel
theorem dX8_isOrIsUnder_0 : decode cX8_isOrIsUnder 0 = .ok (.iload_n 0, 1) := by decide +kernel
theorem dX8_isOrIsUnder_1 : decode cX8_isOrIsUnder 1 = .ok (.istore_n 2, 1) := by decide +kernel
theorem dX8_isOrIsUnder_2 : decode cX8_isOrIsUnder 2 = .ok (.iconst 0, 1) := by decide +kernel
theorem dX8_isOrIsUnder_3 : decode cX8_isOrIsUnder 3 = .ok (.istore_n 3, 1) := by decide +kernel
theorem dX8_isOrIsUnder_4 : decode cX8_isOrIsUnder 4 = .ok (.iload_n 3, 1) := by decide +kernel
theorem dX8_isOrIsUnder_5 : decode cX8_isOrIsUnder 5 = .ok (.getstatic 299, 3) := by decide +kernel
theorem dX8_isOrIsUnder_8 : decode cX8_isOrIsUnder 8 = .ok (.arraylength, 1) := by decide +kernel
theorem dX8_isOrIsUnder_9 : decode cX8_isOrIsUnder 9 = .ok (.if_icmp .ge 32, 3) := by decide +kernel
theorem dX8_isOrIsUnder_12 : decode cX8_isOrIsUnder 12 = .ok (.iload_n 2, 1) := by decide +kernel
theorem dX8_isOrIsUnder_13 : decode cX8_isOrIsUnder 13 = .ok (.iconst 0, 1) := by decide +kernel
theorem dX8_isOrIsUnder_14 : decode cX8_isOrIsUnder 14 = .ok (.bipush 6, 2) := by decide +kernel
theorem dX8_isOrIsUnder_16 : decode cX8_isOrIsUnder 16 = .ok (.invokestatic 67, 3) := by decide +kernel
theorem dX8_isOrIsUnder_19 : decode cX8_isOrIsUnder 19 = .ok (.ifCond .eq 22, 3) := by decide +kernel
theorem dX8_isOrIsUnder_22 : decode cX8_isOrIsUnder 22 = .ok (.iload_n 2, 1) := by decide +kernel
theorem dX8_isOrIsUnder_23 : decode cX8_isOrIsUnder 23 = .ok (.iload_n 1, 1) := by decide +kernel
theorem dX8_isOrIsUnder_24 : decode cX8_isOrIsUnder 24 = .ok (.if_icmp .ne 5, 3) := by decide +kernel
theorem dX8_isOrIsUnder_27 : decode cX8_isOrIsUnder 27 = .ok (.iconst 1, 1) := by decide +kernel
theorem dX8_isOrIsUnder_28 : decode cX8_isOrIsUnder 28 = .ok (.ireturn, 1) := by decide +kernel
theorem dX8_isOrIsUnder_29 : decode cX8_isOrIsUnder 29 = .ok (.getstatic 299, 3) := by decide +kernel
theorem dX8_isOrIsUnder_32 : decode cX8_isOrIsUnder 32 = .ok (.iload_n 2, 1) := by decide +kernel
theorem dX8_isOrIsUnder_33 : decode cX8_isOrIsUnder 33 = .ok (.iaload, 1) := by decide +kernel
theorem dX8_isOrIsUnder_34 : decode cX8_isOrIsUnder 34 = .ok (.istore_n 2, 1) := by decide +kernel
theorem dX8_isOrIsUnder_35 : decode cX8_isOrIsUnder 35 = .ok (.iinc 3 1, 3) := by decide +kernel
theorem dX8_isOrIsUnder_38 : decode cX8_isOrIsUnder 38 = .ok (.goto (-34), 3) := by decide +kernel
theorem dX8_isOrIsUnder_41 : decode cX8_isOrIsUnder 41 = .ok (.iconst 0, 1) := by decide +kernel
theorem dX8_isOrIsUnder_42 : decode cX8_isOrIsUnder 42 = .ok (.ireturn, 1) := by decide +kernel
theorem dX8_lowestTerms_0 : decode cX8_lowestTerms 0 = .ok (.iload_n 1, 1) := by decide +kernel
theorem dX8_lowestTerms_1 : decode cX8_lowestTerms 1 = .ok (.iconst 1, 1) := by decide +kernel
theorem dX8_lowestTerms_2 : decode cX8_lowestTerms 2 = .ok (.if_icmp .lt 12, 3) := by decide +kernel
theorem dX8_lowestTerms_5 : decode cX8_lowestTerms 5 = .ok (.iload_n 2, 1) := by decide +kernel
theorem dX8_lowestTerms_6 : decode cX8_lowestTerms 6 = .ok (.iconst 0, 1) := by decide +kernel
theorem dX8_lowestTerms_7 : decode cX8_lowestTerms 7 = .ok (.iconst 1, 1) := by decide +kernel
theorem dX8_lowestTerms_8 : decode cX8_lowestTerms 8 = .ok (.invokestatic 67, 3) := by decide +kernel
theorem dX8_lowestTerms_11 : decode cX8_lowestTerms 11 = .ok (.ifCond .ne 7, 3) := by decide +kernel
theorem dX8_lowestTerms_14 : decode cX8_lowestTerms 14 = .ok (.ldc2_w 218, 3) := by decide +kernel
theorem dX8_lowestTerms_17 : decode cX8_lowestTerms 17 = .ok (.lreturn, 1) := by decide +kernel
theorem dX8_lowestTerms_18 : decode cX8_lowestTerms 18 = .ok (.iload_n 1, 1) := by decide +kernel
theorem dX8_lowestTerms_19 : decode cX8_lowestTerms 19 = .ok (.istore_n 3, 1) := by decide +kernel
theorem dX8_lowestTerms_20 : decode cX8_lowestTerms 20 = .ok (.iload_n 3, 1) := by decide +kernel
theorem dX8_lowestTerms_21 : decode cX8_lowestTerms 21 = .ok (.iconst 1, 1) := by decide +kernel
theorem dX8_lowestTerms_22 : decode cX8_lowestTerms 22 = .ok (.if_icmp .le 21, 3) := by decide +kernel
theorem dX8_lowestTerms_25 : decode cX8_lowestTerms 25 = .ok (.iload_n 0, 1) := by decide +kernel
theorem dX8_lowestTerms_26 : decode cX8_lowestTerms 26 = .ok (.iload_n 3, 1) := by decide +kernel
theorem dX8_lowestTerms_27 : decode cX8_lowestTerms 27 = .ok (.irem, 1) := by decide +kernel
theorem dX8_lowestTerms_28 : decode cX8_lowestTerms 28 = .ok (.ifCond .ne 9, 3) := by decide +kernel
theorem dX8_lowestTerms_31 : decode cX8_lowestTerms 31 = .ok (.iload_n 1, 1) := by decide +kernel
theorem dX8_lowestTerms_32 : decode cX8_lowestTerms 32 = .ok (.iload_n 3, 1) := by decide +kernel
theorem dX8_lowestTerms_33 : decode cX8_lowestTerms 33 = .ok (.irem, 1) := by decide +kernel
theorem dX8_lowestTerms_34 : decode cX8_lowestTerms 34 = .ok (.ifCond .eq 9, 3) := by decide +kernel
theorem dX8_lowestTerms_37 : decode cX8_lowestTerms 37 = .ok (.iinc 3 (-1), 3) := by decide +kernel
theorem dX8_lowestTerms_40 : decode cX8_lowestTerms 40 = .ok (.goto (-20), 3) := by decide +kernel
theorem dX8_lowestTerms_43 : decode cX8_lowestTerms 43 = .ok (.iload_n 2, 1) := by decide +kernel
theorem dX8_lowestTerms_44 : decode cX8_lowestTerms 44 = .ok (.ifCond .ne 10, 3) := by decide +kernel
theorem dX8_lowestTerms_47 : decode cX8_lowestTerms 47 = .ok (.iload_n 0, 1) := by decide +kernel
theorem dX8_lowestTerms_48 : decode cX8_lowestTerms 48 = .ok (.iload_n 3, 1) := by decide +kernel
theorem dX8_lowestTerms_49 : decode cX8_lowestTerms 49 = .ok (.idiv, 1) := by decide +kernel
theorem dX8_lowestTerms_50 : decode cX8_lowestTerms 50 = .ok (.i2l, 1) := by decide +kernel
theorem dX8_lowestTerms_51 : decode cX8_lowestTerms 51 = .ok (.goto 7, 3) := by decide +kernel
theorem dX8_lowestTerms_54 : decode cX8_lowestTerms 54 = .ok (.iload_n 1, 1) := by decide +kernel
theorem dX8_lowestTerms_55 : decode cX8_lowestTerms 55 = .ok (.iload_n 3, 1) := by decide +kernel
theorem dX8_lowestTerms_56 : decode cX8_lowestTerms 56 = .ok (.idiv, 1) := by decide +kernel
theorem dX8_lowestTerms_57 : decode cX8_lowestTerms 57 = .ok (.i2l, 1) := by decide +kernel
theorem dX8_lowestTerms_58 : decode cX8_lowestTerms 58 = .ok (.lreturn, 1) := by decide +kernel
