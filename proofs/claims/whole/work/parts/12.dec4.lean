/-! ===== decode rows ===== -/
theorem dX9_ready_32 : decode cX9_ready 32 = .ok (.goto (-21), 3) := by decide +kernel
theorem dX9_ready_35 : decode cX9_ready 35 = .ok (.aload_n 0, 1) := by decide +kernel
theorem dX9_ready_36 : decode cX9_ready 36 = .ok (.invokevirtual 371, 3) := by decide +kernel
theorem dX9_ready_39 : decode cX9_ready 39 = .ok (.iload_n 2, 1) := by decide +kernel
theorem dX9_ready_40 : decode cX9_ready 40 = .ok (.bipush 61, 2) := by decide +kernel
theorem dX9_ready_42 : decode cX9_ready 42 = .ok (.if_icmp .ge 7, 3) := by decide +kernel
theorem dX9_ready_45 : decode cX9_ready 45 = .ok (.iload_n 2, 1) := by decide +kernel
theorem dX9_ready_46 : decode cX9_ready 46 = .ok (.goto 5, 3) := by decide +kernel
theorem dX9_ready_49 : decode cX9_ready 49 = .ok (.bipush (-5), 2) := by decide +kernel
theorem dX9_ready_51 : decode cX9_ready 51 = .ok (.ireturn, 1) := by decide +kernel
theorem dX9_piece_0 : decode cX9_piece 0 = .ok (.aload_n 0, 1) := by decide +kernel
theorem dX9_piece_1 : decode cX9_piece 1 = .ok (.iload_n 1, 1) := by decide +kernel
theorem dX9_piece_2 : decode cX9_piece 2 = .ok (.invokevirtual 271, 3) := by decide +kernel
theorem dX9_piece_5 : decode cX9_piece 5 = .ok (.ifCond .ne 5, 3) := by decide +kernel
theorem dX9_piece_8 : decode cX9_piece 8 = .ok (.iconst (-1), 1) := by decide +kernel
theorem dX9_piece_9 : decode cX9_piece 9 = .ok (.ireturn, 1) := by decide +kernel
theorem dX9_piece_10 : decode cX9_piece 10 = .ok (.iload_n 2, 1) := by decide +kernel
theorem dX9_piece_11 : decode cX9_piece 11 = .ok (.tableswitch 74 0 4 #[33, 40, 47, 54, 68], 33) := by decide +kernel
theorem dX9_piece_44 : decode cX9_piece 44 = .ok (.aload_n 0, 1) := by decide +kernel
theorem dX9_piece_45 : decode cX9_piece 45 = .ok (.getfield 38, 3) := by decide +kernel
theorem dX9_piece_48 : decode cX9_piece 48 = .ok (.iload_n 1, 1) := by decide +kernel
theorem dX9_piece_49 : decode cX9_piece 49 = .ok (.iaload, 1) := by decide +kernel
theorem dX9_piece_50 : decode cX9_piece 50 = .ok (.ireturn, 1) := by decide +kernel
theorem dX9_piece_51 : decode cX9_piece 51 = .ok (.aload_n 0, 1) := by decide +kernel
theorem dX9_piece_52 : decode cX9_piece 52 = .ok (.getfield 41, 3) := by decide +kernel
theorem dX9_piece_55 : decode cX9_piece 55 = .ok (.iload_n 1, 1) := by decide +kernel
theorem dX9_piece_56 : decode cX9_piece 56 = .ok (.iaload, 1) := by decide +kernel
theorem dX9_piece_57 : decode cX9_piece 57 = .ok (.ireturn, 1) := by decide +kernel
theorem dX9_piece_58 : decode cX9_piece 58 = .ok (.aload_n 0, 1) := by decide +kernel
theorem dX9_piece_59 : decode cX9_piece 59 = .ok (.getfield 44, 3) := by decide +kernel
theorem dX9_piece_62 : decode cX9_piece 62 = .ok (.iload_n 1, 1) := by decide +kernel
theorem dX9_piece_63 : decode cX9_piece 63 = .ok (.iaload, 1) := by decide +kernel
theorem dX9_piece_64 : decode cX9_piece 64 = .ok (.ireturn, 1) := by decide +kernel
theorem dX9_piece_65 : decode cX9_piece 65 = .ok (.aload_n 0, 1) := by decide +kernel
theorem dX9_piece_66 : decode cX9_piece 66 = .ok (.iload_n 1, 1) := by decide +kernel
theorem dX9_piece_67 : decode cX9_piece 67 = .ok (.invokevirtual 341, 3) := by decide +kernel
theorem dX9_piece_70 : decode cX9_piece 70 = .ok (.ifCond .eq 7, 3) := by decide +kernel
theorem dX9_piece_73 : decode cX9_piece 73 = .ok (.iconst 1, 1) := by decide +kernel
theorem dX9_piece_74 : decode cX9_piece 74 = .ok (.goto 4, 3) := by decide +kernel
theorem dX9_piece_77 : decode cX9_piece 77 = .ok (.iconst 0, 1) := by decide +kernel
theorem dX9_piece_78 : decode cX9_piece 78 = .ok (.ireturn, 1) := by decide +kernel
theorem dX9_piece_79 : decode cX9_piece 79 = .ok (.aload_n 0, 1) := by decide +kernel
theorem dX9_piece_80 : decode cX9_piece 80 = .ok (.iload_n 1, 1) := by decide +kernel
theorem dX9_piece_81 : decode cX9_piece 81 = .ok (.invokevirtual 374, 3) := by decide +kernel
theorem dX9_piece_84 : decode cX9_piece 84 = .ok (.ireturn, 1) := by decide +kernel
theorem dX9_piece_85 : decode cX9_piece 85 = .ok (.iconst (-1), 1) := by decide +kernel
theorem dX9_piece_86 : decode cX9_piece 86 = .ok (.ireturn, 1) := by decide +kernel
theorem dX9_on_0 : decode cX9_on 0 = .ok (.iload_n 2, 1) := by decide +kernel
theorem dX9_on_1 : decode cX9_on 1 = .ok (.ifCond .eq 39, 3) := by decide +kernel
theorem dX9_on_4 : decode cX9_on 4 = .ok (.aload_n 0, 1) := by decide +kernel
theorem dX9_on_5 : decode cX9_on 5 = .ok (.iload_n 2, 1) := by decide +kernel
theorem dX9_on_6 : decode cX9_on 6 = .ok (.bipush 10, 2) := by decide +kernel
theorem dX9_on_8 : decode cX9_on 8 = .ok (.bipush 9, 2) := by decide +kernel
theorem dX9_on_10 : decode cX9_on 10 = .ok (.aload_n 0, 1) := by decide +kernel
theorem dX9_on_11 : decode cX9_on 11 = .ok (.getfield 7, 3) := by decide +kernel
theorem dX9_on_14 : decode cX9_on 14 = .ok (.iadd, 1) := by decide +kernel
theorem dX9_on_15 : decode cX9_on 15 = .ok (.invokevirtual 252, 3) := by decide +kernel
theorem dX9_on_18 : decode cX9_on 18 = .ok (.ifCond .ne 22, 3) := by decide +kernel
theorem dX9_on_21 : decode cX9_on 21 = .ok (.aload_n 0, 1) := by decide +kernel
theorem dX9_on_22 : decode cX9_on 22 = .ok (.iload_n 2, 1) := by decide +kernel
theorem dX9_on_23 : decode cX9_on 23 = .ok (.bipush 20, 2) := by decide +kernel
theorem dX9_on_25 : decode cX9_on 25 = .ok (.bipush 19, 2) := by decide +kernel
theorem dX9_on_27 : decode cX9_on 27 = .ok (.aload_n 0, 1) := by decide +kernel
theorem dX9_on_28 : decode cX9_on 28 = .ok (.getfield 16, 3) := by decide +kernel
theorem dX9_on_31 : decode cX9_on 31 = .ok (.iadd, 1) := by decide +kernel
theorem dX9_on_32 : decode cX9_on 32 = .ok (.invokevirtual 252, 3) := by decide +kernel
theorem dX9_on_35 : decode cX9_on 35 = .ok (.ifCond .ne 5, 3) := by decide +kernel
theorem dX9_on_38 : decode cX9_on 38 = .ok (.iconst (-1), 1) := by decide +kernel
theorem dX9_on_39 : decode cX9_on 39 = .ok (.ireturn, 1) := by decide +kernel
theorem dX9_on_40 : decode cX9_on 40 = .ok (.aload_n 0, 1) := by decide +kernel
theorem dX9_on_41 : decode cX9_on 41 = .ok (.iload_n 1, 1) := by decide +kernel
theorem dX9_on_42 : decode cX9_on 42 = .ok (.invokevirtual 362, 3) := by decide +kernel
theorem dX9_on_45 : decode cX9_on 45 = .ok (.ifCond .ne 6, 3) := by decide +kernel
theorem dX9_on_48 : decode cX9_on 48 = .ok (.bipush (-2), 2) := by decide +kernel
theorem dX9_on_50 : decode cX9_on 50 = .ok (.ireturn, 1) := by decide +kernel
theorem dX9_on_51 : decode cX9_on 51 = .ok (.aload_n 0, 1) := by decide +kernel
theorem dX9_on_52 : decode cX9_on 52 = .ok (.invokevirtual 368, 3) := by decide +kernel
theorem dX9_on_55 : decode cX9_on 55 = .ok (.aload_n 0, 1) := by decide +kernel
theorem dX9_on_56 : decode cX9_on 56 = .ok (.iload_n 1, 1) := by decide +kernel
theorem dX9_on_57 : decode cX9_on 57 = .ok (.invokevirtual 365, 3) := by decide +kernel
theorem dX9_on_60 : decode cX9_on 60 = .ok (.iload_n 2, 1) := by decide +kernel
theorem dX9_on_61 : decode cX9_on 61 = .ok (.ifCond .ne 10, 3) := by decide +kernel
theorem dX9_on_64 : decode cX9_on 64 = .ok (.aload_n 0, 1) := by decide +kernel
theorem dX9_on_65 : decode cX9_on 65 = .ok (.invokevirtual 347, 3) := by decide +kernel
theorem dX9_on_68 : decode cX9_on 68 = .ok (.goto 30, 3) := by decide +kernel
theorem dX9_on_71 : decode cX9_on 71 = .ok (.iload_n 2, 1) := by decide +kernel
theorem dX9_on_72 : decode cX9_on 72 = .ok (.bipush 20, 2) := by decide +kernel
theorem dX9_on_74 : decode cX9_on 74 = .ok (.if_icmp .ge 15, 3) := by decide +kernel
theorem dX9_on_77 : decode cX9_on 77 = .ok (.aload_n 0, 1) := by decide +kernel
theorem dX9_on_78 : decode cX9_on 78 = .ok (.getfield 32, 3) := by decide +kernel
theorem dX9_on_81 : decode cX9_on 81 = .ok (.iload_n 2, 1) := by decide +kernel
theorem dX9_on_82 : decode cX9_on 82 = .ok (.bipush 10, 2) := by decide +kernel
theorem dX9_on_84 : decode cX9_on 84 = .ok (.isub, 1) := by decide +kernel
theorem dX9_on_85 : decode cX9_on 85 = .ok (.iaload, 1) := by decide +kernel
theorem dX9_on_86 : decode cX9_on 86 = .ok (.goto 12, 3) := by decide +kernel
theorem dX9_on_89 : decode cX9_on 89 = .ok (.aload_n 0, 1) := by decide +kernel
theorem dX9_on_90 : decode cX9_on 90 = .ok (.getfield 44, 3) := by decide +kernel
theorem dX9_on_93 : decode cX9_on 93 = .ok (.iload_n 2, 1) := by decide +kernel
theorem dX9_on_94 : decode cX9_on 94 = .ok (.bipush 20, 2) := by decide +kernel
theorem dX9_on_96 : decode cX9_on 96 = .ok (.isub, 1) := by decide +kernel
theorem dX9_on_97 : decode cX9_on 97 = .ok (.iaload, 1) := by decide +kernel
theorem dX9_on_98 : decode cX9_on 98 = .ok (.istore_n 3, 1) := by decide +kernel
theorem dX9_on_99 : decode cX9_on 99 = .ok (.aload_n 0, 1) := by decide +kernel
theorem dX9_on_100 : decode cX9_on 100 = .ok (.invokevirtual 371, 3) := by decide +kernel
theorem dX9_on_103 : decode cX9_on 103 = .ok (.iload_n 3, 1) := by decide +kernel
theorem dX9_on_104 : decode cX9_on 104 = .ok (.ireturn, 1) := by decide +kernel
theorem dX9_layLine_0 : decode cX9_layLine 0 = .ok (.iload_n 1, 1) := by decide +kernel
theorem dX9_layLine_1 : decode cX9_layLine 1 = .ok (.istore_n 2, 1) := by decide +kernel
theorem dX9_layLine_2 : decode cX9_layLine 2 = .ok (.iconst 0, 1) := by decide +kernel
theorem dX9_layLine_3 : decode cX9_layLine 3 = .ok (.istore_n 3, 1) := by decide +kernel
theorem dX9_layLine_4 : decode cX9_layLine 4 = .ok (.aload_n 0, 1) := by decide +kernel
theorem dX9_layLine_5 : decode cX9_layLine 5 = .ok (.getfield 16, 3) := by decide +kernel
theorem dX9_layLine_8 : decode cX9_layLine 8 = .ok (.iconst 1, 1) := by decide +kernel
theorem dX9_layLine_9 : decode cX9_layLine 9 = .ok (.isub, 1) := by decide +kernel
theorem dX9_layLine_10 : decode cX9_layLine 10 = .ok (.istore 4, 2) := by decide +kernel
theorem dX9_layLine_12 : decode cX9_layLine 12 = .ok (.iload 4, 2) := by decide +kernel
theorem dX9_layLine_14 : decode cX9_layLine 14 = .ok (.ifCond .lt 58, 3) := by decide +kernel
theorem dX9_layLine_17 : decode cX9_layLine 17 = .ok (.aload_n 0, 1) := by decide +kernel
theorem dX9_layLine_18 : decode cX9_layLine 18 = .ok (.getfield 120, 3) := by decide +kernel
theorem dX9_layLine_21 : decode cX9_layLine 21 = .ok (.iload 4, 2) := by decide +kernel
theorem dX9_layLine_23 : decode cX9_layLine 23 = .ok (.iload_n 2, 1) := by decide +kernel
theorem dX9_layLine_24 : decode cX9_layLine 24 = .ok (.aload_n 0, 1) := by decide +kernel
theorem dX9_layLine_25 : decode cX9_layLine 25 = .ok (.getfield 16, 3) := by decide +kernel
theorem dX9_layLine_28 : decode cX9_layLine 28 = .ok (.irem, 1) := by decide +kernel
theorem dX9_layLine_29 : decode cX9_layLine 29 = .ok (.iastore, 1) := by decide +kernel
theorem dX9_layLine_30 : decode cX9_layLine 30 = .ok (.iload_n 2, 1) := by decide +kernel
theorem dX9_layLine_31 : decode cX9_layLine 31 = .ok (.aload_n 0, 1) := by decide +kernel
theorem dX9_layLine_32 : decode cX9_layLine 32 = .ok (.getfield 16, 3) := by decide +kernel
theorem dX9_layLine_35 : decode cX9_layLine 35 = .ok (.idiv, 1) := by decide +kernel
theorem dX9_layLine_36 : decode cX9_layLine 36 = .ok (.istore_n 2, 1) := by decide +kernel
theorem dX9_layLine_37 : decode cX9_layLine 37 = .ok (.aload_n 0, 1) := by decide +kernel
theorem dX9_layLine_38 : decode cX9_layLine 38 = .ok (.iload_n 3, 1) := by decide +kernel
theorem dX9_layLine_39 : decode cX9_layLine 39 = .ok (.aload_n 0, 1) := by decide +kernel
theorem dX9_layLine_40 : decode cX9_layLine 40 = .ok (.getfield 120, 3) := by decide +kernel
theorem dX9_layLine_43 : decode cX9_layLine 43 = .ok (.iload 4, 2) := by decide +kernel
theorem dX9_layLine_45 : decode cX9_layLine 45 = .ok (.iaload, 1) := by decide +kernel
theorem dX9_layLine_46 : decode cX9_layLine 46 = .ok (.invokevirtual 263, 3) := by decide +kernel
theorem dX9_layLine_49 : decode cX9_layLine 49 = .ok (.ifCond .eq 5, 3) := by decide +kernel
theorem dX9_layLine_52 : decode cX9_layLine 52 = .ok (.iconst 0, 1) := by decide +kernel
theorem dX9_layLine_53 : decode cX9_layLine 53 = .ok (.ireturn, 1) := by decide +kernel
theorem dX9_layLine_54 : decode cX9_layLine 54 = .ok (.iload_n 3, 1) := by decide +kernel
theorem dX9_layLine_55 : decode cX9_layLine 55 = .ok (.iconst 1, 1) := by decide +kernel
theorem dX9_layLine_56 : decode cX9_layLine 56 = .ok (.aload_n 0, 1) := by decide +kernel
theorem dX9_layLine_57 : decode cX9_layLine 57 = .ok (.getfield 120, 3) := by decide +kernel
theorem dX9_layLine_60 : decode cX9_layLine 60 = .ok (.iload 4, 2) := by decide +kernel
theorem dX9_layLine_62 : decode cX9_layLine 62 = .ok (.iaload, 1) := by decide +kernel
theorem dX9_layLine_63 : decode cX9_layLine 63 = .ok (.ishl, 1) := by decide +kernel
theorem dX9_layLine_64 : decode cX9_layLine 64 = .ok (.ior, 1) := by decide +kernel
theorem dX9_layLine_65 : decode cX9_layLine 65 = .ok (.istore_n 3, 1) := by decide +kernel
theorem dX9_layLine_66 : decode cX9_layLine 66 = .ok (.iinc 4 (-1), 3) := by decide +kernel
theorem dX9_layLine_69 : decode cX9_layLine 69 = .ok (.goto (-57), 3) := by decide +kernel
theorem dX9_layLine_72 : decode cX9_layLine 72 = .ok (.iconst 1, 1) := by decide +kernel
theorem dX9_layLine_73 : decode cX9_layLine 73 = .ok (.ireturn, 1) := by decide +kernel
theorem dX9_firstOfLine_0 : decode cX9_firstOfLine 0 = .ok (.iconst 0, 1) := by decide +kernel
theorem dX9_firstOfLine_1 : decode cX9_firstOfLine 1 = .ok (.istore_n 1, 1) := by decide +kernel
theorem dX9_firstOfLine_2 : decode cX9_firstOfLine 2 = .ok (.iload_n 1, 1) := by decide +kernel
theorem dX9_firstOfLine_3 : decode cX9_firstOfLine 3 = .ok (.aload_n 0, 1) := by decide +kernel
theorem dX9_firstOfLine_4 : decode cX9_firstOfLine 4 = .ok (.getfield 16, 3) := by decide +kernel
theorem dX9_firstOfLine_7 : decode cX9_firstOfLine 7 = .ok (.if_icmp .ge 29, 3) := by decide +kernel
theorem dX9_firstOfLine_10 : decode cX9_firstOfLine 10 = .ok (.aload_n 0, 1) := by decide +kernel
theorem dX9_firstOfLine_11 : decode cX9_firstOfLine 11 = .ok (.aload_n 0, 1) := by decide +kernel
theorem dX9_firstOfLine_12 : decode cX9_firstOfLine 12 = .ok (.getfield 120, 3) := by decide +kernel
theorem dX9_firstOfLine_15 : decode cX9_firstOfLine 15 = .ok (.iload_n 1, 1) := by decide +kernel
theorem dX9_firstOfLine_16 : decode cX9_firstOfLine 16 = .ok (.iaload, 1) := by decide +kernel
theorem dX9_firstOfLine_17 : decode cX9_firstOfLine 17 = .ok (.invokevirtual 341, 3) := by decide +kernel
theorem dX9_firstOfLine_20 : decode cX9_firstOfLine 20 = .ok (.ifCond .ne 10, 3) := by decide +kernel
theorem dX9_firstOfLine_23 : decode cX9_firstOfLine 23 = .ok (.aload_n 0, 1) := by decide +kernel
theorem dX9_firstOfLine_24 : decode cX9_firstOfLine 24 = .ok (.getfield 120, 3) := by decide +kernel
theorem dX9_firstOfLine_27 : decode cX9_firstOfLine 27 = .ok (.iload_n 1, 1) := by decide +kernel
theorem dX9_firstOfLine_28 : decode cX9_firstOfLine 28 = .ok (.iaload, 1) := by decide +kernel
theorem dX9_firstOfLine_29 : decode cX9_firstOfLine 29 = .ok (.ireturn, 1) := by decide +kernel
theorem dX9_firstOfLine_30 : decode cX9_firstOfLine 30 = .ok (.iinc 1 1, 3) := by decide +kernel
theorem dX9_firstOfLine_33 : decode cX9_firstOfLine 33 = .ok (.goto (-31), 3) := by decide +kernel
theorem dX9_firstOfLine_36 : decode cX9_firstOfLine 36 = .ok (.bipush (-5), 2) := by decide +kernel
theorem dX9_firstOfLine_38 : decode cX9_firstOfLine 38 = .ok (.ireturn, 1) := by decide +kernel
theorem dX9_doneInTime_0 : decode cX9_doneInTime 0 = .ok (.aload_n 0, 1) := by decide +kernel
theorem dX9_doneInTime_1 : decode cX9_doneInTime 1 = .ok (.invokevirtual 368, 3) := by decide +kernel
theorem dX9_doneInTime_4 : decode cX9_doneInTime 4 = .ok (.aload_n 0, 1) := by decide +kernel
theorem dX9_doneInTime_5 : decode cX9_doneInTime 5 = .ok (.invokevirtual 347, 3) := by decide +kernel
theorem dX9_doneInTime_8 : decode cX9_doneInTime 8 = .ok (.istore_n 2, 1) := by decide +kernel
theorem dX9_doneInTime_9 : decode cX9_doneInTime 9 = .ok (.iconst 1, 1) := by decide +kernel
theorem dX9_doneInTime_10 : decode cX9_doneInTime 10 = .ok (.istore_n 3, 1) := by decide +kernel
theorem dX9_doneInTime_11 : decode cX9_doneInTime 11 = .ok (.iload_n 3, 1) := by decide +kernel
theorem dX9_doneInTime_12 : decode cX9_doneInTime 12 = .ok (.iload_n 1, 1) := by decide +kernel
theorem dX9_doneInTime_13 : decode cX9_doneInTime 13 = .ok (.if_icmp .gt 87, 3) := by decide +kernel
theorem dX9_doneInTime_16 : decode cX9_doneInTime 16 = .ok (.aload_n 0, 1) := by decide +kernel
theorem dX9_doneInTime_17 : decode cX9_doneInTime 17 = .ok (.invokevirtual 347, 3) := by decide +kernel
theorem dX9_doneInTime_20 : decode cX9_doneInTime 20 = .ok (.istore 4, 2) := by decide +kernel
theorem dX9_doneInTime_22 : decode cX9_doneInTime 22 = .ok (.aload_n 0, 1) := by decide +kernel
theorem dX9_doneInTime_23 : decode cX9_doneInTime 23 = .ok (.aload_n 0, 1) := by decide +kernel
theorem dX9_doneInTime_24 : decode cX9_doneInTime 24 = .ok (.invokevirtual 377, 3) := by decide +kernel
theorem dX9_doneInTime_27 : decode cX9_doneInTime 27 = .ok (.putfield 19, 3) := by decide +kernel
theorem dX9_doneInTime_30 : decode cX9_doneInTime 30 = .ok (.aload_n 0, 1) := by decide +kernel
theorem dX9_doneInTime_31 : decode cX9_doneInTime 31 = .ok (.invokevirtual 359, 3) := by decide +kernel
theorem dX9_doneInTime_34 : decode cX9_doneInTime 34 = .ok (.iconst 0, 1) := by decide +kernel
theorem dX9_doneInTime_35 : decode cX9_doneInTime 35 = .ok (.istore 5, 2) := by decide +kernel
theorem dX9_doneInTime_37 : decode cX9_doneInTime 37 = .ok (.iload 5, 2) := by decide +kernel
theorem dX9_doneInTime_39 : decode cX9_doneInTime 39 = .ok (.aload_n 0, 1) := by decide +kernel
theorem dX9_doneInTime_40 : decode cX9_doneInTime 40 = .ok (.getfield 16, 3) := by decide +kernel
theorem dX9_doneInTime_43 : decode cX9_doneInTime 43 = .ok (.if_icmp .ge 51, 3) := by decide +kernel
theorem dX9_doneInTime_46 : decode cX9_doneInTime 46 = .ok (.iload_n 2, 1) := by decide +kernel
theorem dX9_doneInTime_47 : decode cX9_doneInTime 47 = .ok (.aload_n 0, 1) := by decide +kernel
theorem dX9_doneInTime_48 : decode cX9_doneInTime 48 = .ok (.iload 5, 2) := by decide +kernel
theorem dX9_doneInTime_50 : decode cX9_doneInTime 50 = .ok (.invokevirtual 341, 3) := by decide +kernel
theorem dX9_doneInTime_53 : decode cX9_doneInTime 53 = .ok (.ifCond .eq 32, 3) := by decide +kernel
theorem dX9_doneInTime_56 : decode cX9_doneInTime 56 = .ok (.aload_n 0, 1) := by decide +kernel
theorem dX9_doneInTime_57 : decode cX9_doneInTime 57 = .ok (.iload 4, 2) := by decide +kernel
theorem dX9_doneInTime_59 : decode cX9_doneInTime 59 = .ok (.iload 5, 2) := by decide +kernel
theorem dX9_doneInTime_61 : decode cX9_doneInTime 61 = .ok (.invokevirtual 263, 3) := by decide +kernel
theorem dX9_doneInTime_64 : decode cX9_doneInTime 64 = .ok (.ifCond .ne 21, 3) := by decide +kernel
theorem dX9_doneInTime_67 : decode cX9_doneInTime 67 = .ok (.iload_n 3, 1) := by decide +kernel
theorem dX9_doneInTime_68 : decode cX9_doneInTime 68 = .ok (.aload_n 0, 1) := by decide +kernel
theorem dX9_doneInTime_69 : decode cX9_doneInTime 69 = .ok (.getfield 41, 3) := by decide +kernel
theorem dX9_doneInTime_72 : decode cX9_doneInTime 72 = .ok (.iload 5, 2) := by decide +kernel
theorem dX9_doneInTime_74 : decode cX9_doneInTime 74 = .ok (.iaload, 1) := by decide +kernel
theorem dX9_doneInTime_75 : decode cX9_doneInTime 75 = .ok (.if_icmp .gt 10, 3) := by decide +kernel
theorem dX9_doneInTime_78 : decode cX9_doneInTime 78 = .ok (.iconst 1, 1) := by decide +kernel
theorem dX9_doneInTime_79 : decode cX9_doneInTime 79 = .ok (.iload 5, 2) := by decide +kernel
theorem dX9_doneInTime_81 : decode cX9_doneInTime 81 = .ok (.ishl, 1) := by decide +kernel
theorem dX9_doneInTime_82 : decode cX9_doneInTime 82 = .ok (.goto 4, 3) := by decide +kernel
theorem dX9_doneInTime_85 : decode cX9_doneInTime 85 = .ok (.iconst 0, 1) := by decide +kernel
theorem dX9_doneInTime_86 : decode cX9_doneInTime 86 = .ok (.ior, 1) := by decide +kernel
theorem dX9_doneInTime_87 : decode cX9_doneInTime 87 = .ok (.istore_n 2, 1) := by decide +kernel
theorem dX9_doneInTime_88 : decode cX9_doneInTime 88 = .ok (.iinc 5 1, 3) := by decide +kernel
theorem dX9_doneInTime_91 : decode cX9_doneInTime 91 = .ok (.goto (-54), 3) := by decide +kernel
theorem dX9_doneInTime_94 : decode cX9_doneInTime 94 = .ok (.iinc 3 1, 3) := by decide +kernel
theorem dX9_doneInTime_97 : decode cX9_doneInTime 97 = .ok (.goto (-86), 3) := by decide +kernel
theorem dX9_doneInTime_100 : decode cX9_doneInTime 100 = .ok (.aload_n 0, 1) := by decide +kernel
theorem dX9_doneInTime_101 : decode cX9_doneInTime 101 = .ok (.invokevirtual 371, 3) := by decide +kernel
theorem dX9_doneInTime_104 : decode cX9_doneInTime 104 = .ok (.iconst 0, 1) := by decide +kernel
theorem dX9_doneInTime_105 : decode cX9_doneInTime 105 = .ok (.istore_n 3, 1) := by decide +kernel
theorem dX9_doneInTime_106 : decode cX9_doneInTime 106 = .ok (.iconst 0, 1) := by decide +kernel
theorem dX9_doneInTime_107 : decode cX9_doneInTime 107 = .ok (.istore 4, 2) := by decide +kernel
theorem dX9_doneInTime_109 : decode cX9_doneInTime 109 = .ok (.iload 4, 2) := by decide +kernel
theorem dX9_doneInTime_111 : decode cX9_doneInTime 111 = .ok (.aload_n 0, 1) := by decide +kernel
theorem dX9_doneInTime_112 : decode cX9_doneInTime 112 = .ok (.getfield 16, 3) := by decide +kernel
theorem dX9_doneInTime_115 : decode cX9_doneInTime 115 = .ok (.if_icmp .ge 27, 3) := by decide +kernel
theorem dX9_doneInTime_118 : decode cX9_doneInTime 118 = .ok (.iload_n 3, 1) := by decide +kernel
theorem dX9_doneInTime_119 : decode cX9_doneInTime 119 = .ok (.aload_n 0, 1) := by decide +kernel
theorem dX9_doneInTime_120 : decode cX9_doneInTime 120 = .ok (.iload_n 2, 1) := by decide +kernel
theorem dX9_doneInTime_121 : decode cX9_doneInTime 121 = .ok (.iload 4, 2) := by decide +kernel
theorem dX9_doneInTime_123 : decode cX9_doneInTime 123 = .ok (.invokevirtual 263, 3) := by decide +kernel
theorem dX9_doneInTime_126 : decode cX9_doneInTime 126 = .ok (.ifCond .eq 7, 3) := by decide +kernel
theorem dX9_doneInTime_129 : decode cX9_doneInTime 129 = .ok (.iconst 1, 1) := by decide +kernel
theorem dX9_doneInTime_130 : decode cX9_doneInTime 130 = .ok (.goto 4, 3) := by decide +kernel
theorem dX9_doneInTime_133 : decode cX9_doneInTime 133 = .ok (.iconst 0, 1) := by decide +kernel
theorem dX9_doneInTime_134 : decode cX9_doneInTime 134 = .ok (.iadd, 1) := by decide +kernel
theorem dX9_doneInTime_135 : decode cX9_doneInTime 135 = .ok (.istore_n 3, 1) := by decide +kernel
theorem dX9_doneInTime_136 : decode cX9_doneInTime 136 = .ok (.iinc 4 1, 3) := by decide +kernel
theorem dX9_doneInTime_139 : decode cX9_doneInTime 139 = .ok (.goto (-30), 3) := by decide +kernel
theorem dX9_doneInTime_142 : decode cX9_doneInTime 142 = .ok (.iload_n 3, 1) := by decide +kernel
theorem dX9_doneInTime_143 : decode cX9_doneInTime 143 = .ok (.ireturn, 1) := by decide +kernel
theorem dX9_best_0 : decode cX9_best 0 = .ok (.aload_n 0, 1) := by decide +kernel
theorem dX9_best_1 : decode cX9_best 1 = .ok (.iload_n 2, 1) := by decide +kernel
theorem dX9_best_2 : decode cX9_best 2 = .ok (.iconst (-1), 1) := by decide +kernel
theorem dX9_best_3 : decode cX9_best 3 = .ok (.iconst 3, 1) := by decide +kernel
theorem dX9_best_4 : decode cX9_best 4 = .ok (.invokevirtual 252, 3) := by decide +kernel
theorem dX9_best_7 : decode cX9_best 7 = .ok (.ifCond .ne 5, 3) := by decide +kernel
theorem dX9_best_10 : decode cX9_best 10 = .ok (.iconst (-1), 1) := by decide +kernel
theorem dX9_best_11 : decode cX9_best 11 = .ok (.ireturn, 1) := by decide +kernel
theorem dX9_best_12 : decode cX9_best 12 = .ok (.aload_n 0, 1) := by decide +kernel
theorem dX9_best_13 : decode cX9_best 13 = .ok (.iload_n 1, 1) := by decide +kernel
theorem dX9_best_14 : decode cX9_best 14 = .ok (.iconst 0, 1) := by decide +kernel
theorem dX9_best_15 : decode cX9_best 15 = .ok (.bipush 40, 2) := by decide +kernel
theorem dX9_best_17 : decode cX9_best 17 = .ok (.invokevirtual 252, 3) := by decide +kernel
theorem dX9_best_20 : decode cX9_best 20 = .ok (.ifCond .ne 6, 3) := by decide +kernel
theorem dX9_best_23 : decode cX9_best 23 = .ok (.bipush (-2), 2) := by decide +kernel
theorem dX9_best_25 : decode cX9_best 25 = .ok (.ireturn, 1) := by decide +kernel
theorem dX9_best_26 : decode cX9_best 26 = .ok (.iconst 1, 1) := by decide +kernel
theorem dX9_best_27 : decode cX9_best 27 = .ok (.istore_n 3, 1) := by decide +kernel
theorem dX9_best_28 : decode cX9_best 28 = .ok (.iconst 0, 1) := by decide +kernel
theorem dX9_best_29 : decode cX9_best 29 = .ok (.istore 4, 2) := by decide +kernel
theorem dX9_best_31 : decode cX9_best 31 = .ok (.iload 4, 2) := by decide +kernel
theorem dX9_best_33 : decode cX9_best 33 = .ok (.aload_n 0, 1) := by decide +kernel
theorem dX9_best_34 : decode cX9_best 34 = .ok (.getfield 16, 3) := by decide +kernel
theorem dX9_best_37 : decode cX9_best 37 = .ok (.if_icmp .ge 16, 3) := by decide +kernel
theorem dX9_best_40 : decode cX9_best 40 = .ok (.iload_n 3, 1) := by decide +kernel
theorem dX9_best_41 : decode cX9_best 41 = .ok (.aload_n 0, 1) := by decide +kernel
theorem dX9_best_42 : decode cX9_best 42 = .ok (.getfield 16, 3) := by decide +kernel
theorem dX9_best_45 : decode cX9_best 45 = .ok (.imul, 1) := by decide +kernel
theorem dX9_best_46 : decode cX9_best 46 = .ok (.istore_n 3, 1) := by decide +kernel
theorem dX9_best_47 : decode cX9_best 47 = .ok (.iinc 4 1, 3) := by decide +kernel
theorem dX9_best_50 : decode cX9_best 50 = .ok (.goto (-19), 3) := by decide +kernel
theorem dX9_best_53 : decode cX9_best 53 = .ok (.iconst (-1), 1) := by decide +kernel
theorem dX9_best_54 : decode cX9_best 54 = .ok (.istore 4, 2) := by decide +kernel
theorem dX9_best_56 : decode cX9_best 56 = .ok (.iconst 0, 1) := by decide +kernel
theorem dX9_best_57 : decode cX9_best 57 = .ok (.istore 5, 2) := by decide +kernel
theorem dX9_best_59 : decode cX9_best 59 = .ok (.iload 5, 2) := by decide +kernel
theorem dX9_best_61 : decode cX9_best 61 = .ok (.iload_n 3, 1) := by decide +kernel
theorem dX9_best_62 : decode cX9_best 62 = .ok (.if_icmp .ge 71, 3) := by decide +kernel
theorem dX9_best_65 : decode cX9_best 65 = .ok (.aload_n 0, 1) := by decide +kernel
theorem dX9_best_66 : decode cX9_best 66 = .ok (.iload 5, 2) := by decide +kernel
theorem dX9_best_68 : decode cX9_best 68 = .ok (.invokevirtual 380, 3) := by decide +kernel
theorem dX9_best_71 : decode cX9_best 71 = .ok (.ifCond .ne 6, 3) := by decide +kernel
theorem dX9_best_74 : decode cX9_best 74 = .ok (.goto 53, 3) := by decide +kernel
theorem dX9_best_77 : decode cX9_best 77 = .ok (.aload_n 0, 1) := by decide +kernel
theorem dX9_best_78 : decode cX9_best 78 = .ok (.iload_n 1, 1) := by decide +kernel
theorem dX9_best_79 : decode cX9_best 79 = .ok (.invokevirtual 383, 3) := by decide +kernel
theorem dX9_best_82 : decode cX9_best 82 = .ok (.istore 6, 2) := by decide +kernel
theorem dX9_best_84 : decode cX9_best 84 = .ok (.iload 6, 2) := by decide +kernel
theorem dX9_best_86 : decode cX9_best 86 = .ok (.iload 4, 2) := by decide +kernel
theorem dX9_best_88 : decode cX9_best 88 = .ok (.if_icmp .gt 6, 3) := by decide +kernel
theorem dX9_best_91 : decode cX9_best 91 = .ok (.goto 36, 3) := by decide +kernel
theorem dX9_best_94 : decode cX9_best 94 = .ok (.iload 6, 2) := by decide +kernel
theorem dX9_best_96 : decode cX9_best 96 = .ok (.istore 4, 2) := by decide +kernel
theorem dX9_best_98 : decode cX9_best 98 = .ok (.iconst 0, 1) := by decide +kernel
theorem dX9_best_99 : decode cX9_best 99 = .ok (.istore 7, 2) := by decide +kernel
theorem dX9_best_101 : decode cX9_best 101 = .ok (.iload 7, 2) := by decide +kernel
theorem dX9_best_103 : decode cX9_best 103 = .ok (.iconst 4, 1) := by decide +kernel
theorem dX9_best_104 : decode cX9_best 104 = .ok (.if_icmp .ge 23, 3) := by decide +kernel
theorem dX9_best_107 : decode cX9_best 107 = .ok (.aload_n 0, 1) := by decide +kernel
theorem dX9_best_108 : decode cX9_best 108 = .ok (.getfield 123, 3) := by decide +kernel
theorem dX9_best_111 : decode cX9_best 111 = .ok (.iload 7, 2) := by decide +kernel
theorem dX9_best_113 : decode cX9_best 113 = .ok (.aload_n 0, 1) := by decide +kernel
theorem dX9_best_114 : decode cX9_best 114 = .ok (.getfield 120, 3) := by decide +kernel
theorem dX9_best_117 : decode cX9_best 117 = .ok (.iload 7, 2) := by decide +kernel
theorem dX9_best_119 : decode cX9_best 119 = .ok (.iaload, 1) := by decide +kernel
theorem dX9_best_120 : decode cX9_best 120 = .ok (.iastore, 1) := by decide +kernel
theorem dX9_best_121 : decode cX9_best 121 = .ok (.iinc 7 1, 3) := by decide +kernel
theorem dX9_best_124 : decode cX9_best 124 = .ok (.goto (-23), 3) := by decide +kernel
theorem dX9_best_127 : decode cX9_best 127 = .ok (.iinc 5 1, 3) := by decide +kernel
theorem dX9_best_130 : decode cX9_best 130 = .ok (.goto (-71), 3) := by decide +kernel
theorem dX9_best_133 : decode cX9_best 133 = .ok (.iload_n 2, 1) := by decide +kernel
theorem dX9_best_134 : decode cX9_best 134 = .ok (.ifCond .ge 6, 3) := by decide +kernel
theorem dX9_best_137 : decode cX9_best 137 = .ok (.iload 4, 2) := by decide +kernel
theorem dX9_best_139 : decode cX9_best 139 = .ok (.ireturn, 1) := by decide +kernel
theorem dX9_best_140 : decode cX9_best 140 = .ok (.iload_n 2, 1) := by decide +kernel
theorem dX9_best_141 : decode cX9_best 141 = .ok (.aload_n 0, 1) := by decide +kernel
theorem dX9_best_142 : decode cX9_best 142 = .ok (.getfield 16, 3) := by decide +kernel
theorem dX9_best_145 : decode cX9_best 145 = .ok (.if_icmp .ge 12, 3) := by decide +kernel
theorem dX9_best_148 : decode cX9_best 148 = .ok (.aload_n 0, 1) := by decide +kernel
theorem dX9_best_149 : decode cX9_best 149 = .ok (.getfield 123, 3) := by decide +kernel
theorem dX9_best_152 : decode cX9_best 152 = .ok (.iload_n 2, 1) := by decide +kernel
theorem dX9_best_153 : decode cX9_best 153 = .ok (.iaload, 1) := by decide +kernel
theorem dX9_best_154 : decode cX9_best 154 = .ok (.goto 5, 3) := by decide +kernel
theorem dX9_best_157 : decode cX9_best 157 = .ok (.bipush (-5), 2) := by decide +kernel
theorem dX9_best_159 : decode cX9_best 159 = .ok (.ireturn, 1) := by decide +kernel
theorem dX9_hottestIf_0 : decode cX9_hottestIf 0 = .ok (.aload_n 0, 1) := by decide +kernel
theorem dX9_hottestIf_1 : decode cX9_hottestIf 1 = .ok (.invokevirtual 368, 3) := by decide +kernel
theorem dX9_hottestIf_4 : decode cX9_hottestIf 4 = .ok (.aload_n 0, 1) := by decide +kernel
theorem dX9_hottestIf_5 : decode cX9_hottestIf 5 = .ok (.bipush (-5), 2) := by decide +kernel
theorem dX9_hottestIf_7 : decode cX9_hottestIf 7 = .ok (.putfield 19, 3) := by decide +kernel
theorem dX9_hottestIf_10 : decode cX9_hottestIf 10 = .ok (.aload_n 0, 1) := by decide +kernel
theorem dX9_hottestIf_11 : decode cX9_hottestIf 11 = .ok (.getfield 32, 3) := by decide +kernel
theorem dX9_hottestIf_14 : decode cX9_hottestIf 14 = .ok (.iload_n 1, 1) := by decide +kernel
theorem dX9_hottestIf_15 : decode cX9_hottestIf 15 = .ok (.aload_n 0, 1) := by decide +kernel
theorem dX9_hottestIf_16 : decode cX9_hottestIf 16 = .ok (.aload_n 0, 1) := by decide +kernel
theorem dX9_hottestIf_17 : decode cX9_hottestIf 17 = .ok (.getfield 32, 3) := by decide +kernel
theorem dX9_hottestIf_20 : decode cX9_hottestIf 20 = .ok (.iload_n 1, 1) := by decide +kernel
theorem dX9_hottestIf_21 : decode cX9_hottestIf 21 = .ok (.iaload, 1) := by decide +kernel
theorem dX9_hottestIf_22 : decode cX9_hottestIf 22 = .ok (.iload_n 2, 1) := by decide +kernel
theorem dX9_hottestIf_23 : decode cX9_hottestIf 23 = .ok (.iadd, 1) := by decide +kernel
theorem dX9_hottestIf_24 : decode cX9_hottestIf 24 = .ok (.bipush 99, 2) := by decide +kernel
theorem dX9_hottestIf_26 : decode cX9_hottestIf 26 = .ok (.invokevirtual 248, 3) := by decide +kernel
theorem dX9_hottestIf_29 : decode cX9_hottestIf 29 = .ok (.iastore, 1) := by decide +kernel
theorem dX9_hottestIf_30 : decode cX9_hottestIf 30 = .ok (.aload_n 0, 1) := by decide +kernel
theorem dX9_hottestIf_31 : decode cX9_hottestIf 31 = .ok (.iconst 3, 1) := by decide +kernel
theorem dX9_hottestIf_32 : decode cX9_hottestIf 32 = .ok (.invokevirtual 365, 3) := by decide +kernel
theorem dX9_hottestIf_35 : decode cX9_hottestIf 35 = .ok (.aload_n 0, 1) := by decide +kernel
theorem dX9_hottestIf_36 : decode cX9_hottestIf 36 = .ok (.getfield 32, 3) := by decide +kernel
theorem dX9_hottestIf_39 : decode cX9_hottestIf 39 = .ok (.aload_n 0, 1) := by decide +kernel
theorem dX9_hottestIf_40 : decode cX9_hottestIf 40 = .ok (.invokevirtual 350, 3) := by decide +kernel
theorem dX9_hottestIf_43 : decode cX9_hottestIf 43 = .ok (.iaload, 1) := by decide +kernel
theorem dX9_hottestIf_44 : decode cX9_hottestIf 44 = .ok (.istore_n 3, 1) := by decide +kernel
theorem dX9_hottestIf_45 : decode cX9_hottestIf 45 = .ok (.aload_n 0, 1) := by decide +kernel
theorem dX9_hottestIf_46 : decode cX9_hottestIf 46 = .ok (.invokevirtual 371, 3) := by decide +kernel
theorem dX9_hottestIf_49 : decode cX9_hottestIf 49 = .ok (.iload_n 3, 1) := by decide +kernel
theorem dX9_hottestIf_50 : decode cX9_hottestIf 50 = .ok (.ireturn, 1) := by decide +kernel
theorem dX9_talk_0 : decode cX9_talk 0 = .ok (.aload_n 0, 1) := by decide +kernel
theorem dX9_talk_1 : decode cX9_talk 1 = .ok (.iload_n 2, 1) := by decide +kernel
theorem dX9_talk_2 : decode cX9_talk 2 = .ok (.iconst 0, 1) := by decide +kernel
theorem dX9_talk_3 : decode cX9_talk 3 = .ok (.iconst 1, 1) := by decide +kernel
theorem dX9_talk_4 : decode cX9_talk 4 = .ok (.invokevirtual 252, 3) := by decide +kernel
theorem dX9_talk_7 : decode cX9_talk 7 = .ok (.ifCond .ne 5, 3) := by decide +kernel
theorem dX9_talk_10 : decode cX9_talk 10 = .ok (.iconst (-1), 1) := by decide +kernel
theorem dX9_talk_11 : decode cX9_talk 11 = .ok (.ireturn, 1) := by decide +kernel
theorem dX9_talk_12 : decode cX9_talk 12 = .ok (.aload_n 0, 1) := by decide +kernel
theorem dX9_talk_13 : decode cX9_talk 13 = .ok (.iload_n 1, 1) := by decide +kernel
theorem dX9_talk_14 : decode cX9_talk 14 = .ok (.invokevirtual 256, 3) := by decide +kernel
theorem dX9_talk_17 : decode cX9_talk 17 = .ok (.ifCond .ne 6, 3) := by decide +kernel
theorem dX9_talk_20 : decode cX9_talk 20 = .ok (.bipush (-2), 2) := by decide +kernel
theorem dX9_talk_22 : decode cX9_talk 22 = .ok (.ireturn, 1) := by decide +kernel
theorem dX9_talk_23 : decode cX9_talk 23 = .ok (.bipush (-5), 2) := by decide +kernel
theorem dX9_talk_25 : decode cX9_talk 25 = .ok (.istore_n 3, 1) := by decide +kernel
theorem dX9_talk_26 : decode cX9_talk 26 = .ok (.bipush (-5), 2) := by decide +kernel
theorem dX9_talk_28 : decode cX9_talk 28 = .ok (.istore 4, 2) := by decide +kernel
theorem dX9_talk_30 : decode cX9_talk 30 = .ok (.iconst 0, 1) := by decide +kernel
theorem dX9_talk_31 : decode cX9_talk 31 = .ok (.istore 5, 2) := by decide +kernel
theorem dX9_talk_33 : decode cX9_talk 33 = .ok (.iload 5, 2) := by decide +kernel
theorem dX9_talk_35 : decode cX9_talk 35 = .ok (.aload_n 0, 1) := by decide +kernel
theorem dX9_talk_36 : decode cX9_talk 36 = .ok (.getfield 7, 3) := by decide +kernel
theorem dX9_talk_39 : decode cX9_talk 39 = .ok (.if_icmp .ge 51, 3) := by decide +kernel
theorem dX9_talk_42 : decode cX9_talk 42 = .ok (.aload_n 0, 1) := by decide +kernel
theorem dX9_talk_43 : decode cX9_talk 43 = .ok (.aload_n 0, 1) := by decide +kernel
theorem dX9_talk_44 : decode cX9_talk 44 = .ok (.getfield 13, 3) := by decide +kernel
theorem dX9_talk_47 : decode cX9_talk 47 = .ok (.iload 5, 2) := by decide +kernel
theorem dX9_talk_49 : decode cX9_talk 49 = .ok (.invokevirtual 263, 3) := by decide +kernel
theorem dX9_talk_52 : decode cX9_talk 52 = .ok (.ifCond .eq 6, 3) := by decide +kernel
theorem dX9_talk_55 : decode cX9_talk 55 = .ok (.goto 29, 3) := by decide +kernel
theorem dX9_talk_58 : decode cX9_talk 58 = .ok (.aload_n 0, 1) := by decide +kernel
theorem dX9_talk_59 : decode cX9_talk 59 = .ok (.iload 5, 2) := by decide +kernel
theorem dX9_talk_61 : decode cX9_talk 61 = .ok (.iload_n 1, 1) := by decide +kernel
theorem dX9_talk_62 : decode cX9_talk 62 = .ok (.invokevirtual 386, 3) := by decide +kernel
theorem dX9_talk_65 : decode cX9_talk 65 = .ok (.istore 6, 2) := by decide +kernel
theorem dX9_talk_67 : decode cX9_talk 67 = .ok (.iload 6, 2) := by decide +kernel
theorem dX9_talk_69 : decode cX9_talk 69 = .ok (.iload 4, 2) := by decide +kernel
theorem dX9_talk_71 : decode cX9_talk 71 = .ok (.if_icmp .gt 6, 3) := by decide +kernel
theorem dX9_talk_74 : decode cX9_talk 74 = .ok (.goto 10, 3) := by decide +kernel
theorem dX9_talk_77 : decode cX9_talk 77 = .ok (.iload 5, 2) := by decide +kernel
theorem dX9_talk_79 : decode cX9_talk 79 = .ok (.istore_n 3, 1) := by decide +kernel
theorem dX9_talk_80 : decode cX9_talk 80 = .ok (.iload 6, 2) := by decide +kernel
theorem dX9_talk_82 : decode cX9_talk 82 = .ok (.istore 4, 2) := by decide +kernel
theorem dX9_talk_84 : decode cX9_talk 84 = .ok (.iinc 5 1, 3) := by decide +kernel
theorem dX9_talk_87 : decode cX9_talk 87 = .ok (.goto (-54), 3) := by decide +kernel
theorem dX9_talk_90 : decode cX9_talk 90 = .ok (.iload_n 2, 1) := by decide +kernel
theorem dX9_talk_91 : decode cX9_talk 91 = .ok (.ifCond .ne 7, 3) := by decide +kernel
theorem dX9_talk_94 : decode cX9_talk 94 = .ok (.iload_n 3, 1) := by decide +kernel
theorem dX9_talk_95 : decode cX9_talk 95 = .ok (.goto 5, 3) := by decide +kernel
theorem dX9_talk_98 : decode cX9_talk 98 = .ok (.iload 4, 2) := by decide +kernel
theorem dX9_talk_100 : decode cX9_talk 100 = .ok (.ireturn, 1) := by decide +kernel
theorem dX9_see_0 : decode cX9_see 0 = .ok (.iload_n 1, 1) := by decide +kernel
theorem dX9_see_1 : decode cX9_see 1 = .ok (.iconst (-1), 1) := by decide +kernel
theorem dX9_see_2 : decode cX9_see 2 = .ok (.if_icmp .ne 10, 3) := by decide +kernel
theorem dX9_see_5 : decode cX9_see 5 = .ok (.aload_n 0, 1) := by decide +kernel
theorem dX9_see_6 : decode cX9_see 6 = .ok (.iconst 0, 1) := by decide +kernel
theorem dX9_see_7 : decode cX9_see 7 = .ok (.putfield 126, 3) := by decide +kernel
theorem dX9_see_10 : decode cX9_see 10 = .ok (.iconst 0, 1) := by decide +kernel
theorem dX9_see_11 : decode cX9_see 11 = .ok (.ireturn, 1) := by decide +kernel
theorem dX9_see_12 : decode cX9_see 12 = .ok (.aload_n 0, 1) := by decide +kernel
theorem dX9_see_13 : decode cX9_see 13 = .ok (.iload_n 1, 1) := by decide +kernel
theorem dX9_see_14 : decode cX9_see 14 = .ok (.invokevirtual 260, 3) := by decide +kernel
theorem dX9_see_17 : decode cX9_see 17 = .ok (.ifCond .ne 5, 3) := by decide +kernel
theorem dX9_see_20 : decode cX9_see 20 = .ok (.iconst (-1), 1) := by decide +kernel
theorem dX9_see_21 : decode cX9_see 21 = .ok (.ireturn, 1) := by decide +kernel
theorem dX9_see_22 : decode cX9_see 22 = .ok (.aload_n 0, 1) := by decide +kernel
theorem dX9_see_23 : decode cX9_see 23 = .ok (.iload_n 2, 1) := by decide +kernel
theorem dX9_see_24 : decode cX9_see 24 = .ok (.iconst 0, 1) := by decide +kernel
theorem dX9_see_25 : decode cX9_see 25 = .ok (.bipush 12, 2) := by decide +kernel
theorem dX9_see_27 : decode cX9_see 27 = .ok (.invokevirtual 252, 3) := by decide +kernel
theorem dX9_see_30 : decode cX9_see 30 = .ok (.ifCond .ne 6, 3) := by decide +kernel
theorem dX9_see_33 : decode cX9_see 33 = .ok (.bipush (-2), 2) := by decide +kernel
theorem dX9_see_35 : decode cX9_see 35 = .ok (.ireturn, 1) := by decide +kernel
theorem dX9_see_36 : decode cX9_see 36 = .ok (.aload_n 0, 1) := by decide +kernel
theorem dX9_see_37 : decode cX9_see 37 = .ok (.getfield 126, 3) := by decide +kernel
theorem dX9_see_40 : decode cX9_see 40 = .ok (.iconst 5, 1) := by decide +kernel
theorem dX9_see_41 : decode cX9_see 41 = .ok (.if_icmp .ne 6, 3) := by decide +kernel
theorem dX9_see_44 : decode cX9_see 44 = .ok (.bipush (-4), 2) := by decide +kernel
theorem dX9_see_46 : decode cX9_see 46 = .ok (.ireturn, 1) := by decide +kernel
theorem dX9_see_47 : decode cX9_see 47 = .ok (.aload_n 0, 1) := by decide +kernel
theorem dX9_see_48 : decode cX9_see 48 = .ok (.getfield 129, 3) := by decide +kernel
theorem dX9_see_51 : decode cX9_see 51 = .ok (.aload_n 0, 1) := by decide +kernel
theorem dX9_see_52 : decode cX9_see 52 = .ok (.getfield 126, 3) := by decide +kernel
theorem dX9_see_55 : decode cX9_see 55 = .ok (.iload_n 1, 1) := by decide +kernel
theorem dX9_see_56 : decode cX9_see 56 = .ok (.iastore, 1) := by decide +kernel
theorem dX9_see_57 : decode cX9_see 57 = .ok (.aload_n 0, 1) := by decide +kernel
theorem dX9_see_58 : decode cX9_see 58 = .ok (.getfield 132, 3) := by decide +kernel
theorem dX9_see_61 : decode cX9_see 61 = .ok (.aload_n 0, 1) := by decide +kernel
theorem dX9_see_62 : decode cX9_see 62 = .ok (.getfield 126, 3) := by decide +kernel
theorem dX9_see_65 : decode cX9_see 65 = .ok (.iload_n 2, 1) := by decide +kernel
theorem dX9_see_66 : decode cX9_see 66 = .ok (.iastore, 1) := by decide +kernel
theorem dX9_see_67 : decode cX9_see 67 = .ok (.aload_n 0, 1) := by decide +kernel
theorem dX9_see_68 : decode cX9_see 68 = .ok (.getfield 135, 3) := by decide +kernel
theorem dX9_see_71 : decode cX9_see 71 = .ok (.aload_n 0, 1) := by decide +kernel
theorem dX9_see_72 : decode cX9_see 72 = .ok (.getfield 126, 3) := by decide +kernel
theorem dX9_see_75 : decode cX9_see 75 = .ok (.iload_n 3, 1) := by decide +kernel
theorem dX9_see_76 : decode cX9_see 76 = .ok (.bastore, 1) := by decide +kernel
theorem dX9_see_77 : decode cX9_see 77 = .ok (.aload_n 0, 1) := by decide +kernel
theorem dX9_see_78 : decode cX9_see 78 = .ok (.dup, 1) := by decide +kernel
theorem dX9_see_79 : decode cX9_see 79 = .ok (.getfield 126, 3) := by decide +kernel
theorem dX9_see_82 : decode cX9_see 82 = .ok (.iconst 1, 1) := by decide +kernel
theorem dX9_see_83 : decode cX9_see 83 = .ok (.iadd, 1) := by decide +kernel
theorem dX9_see_84 : decode cX9_see 84 = .ok (.putfield 126, 3) := by decide +kernel
theorem dX9_see_87 : decode cX9_see 87 = .ok (.aload_n 0, 1) := by decide +kernel
theorem dX9_see_88 : decode cX9_see 88 = .ok (.getfield 126, 3) := by decide +kernel
theorem dX9_see_91 : decode cX9_see 91 = .ok (.ireturn, 1) := by decide +kernel
theorem dX9_isSeen_0 : decode cX9_isSeen 0 = .ok (.iconst 1, 1) := by decide +kernel
theorem dX9_isSeen_1 : decode cX9_isSeen 1 = .ok (.istore_n 1, 1) := by decide +kernel
theorem dX9_isSeen_2 : decode cX9_isSeen 2 = .ok (.iconst 0, 1) := by decide +kernel
theorem dX9_isSeen_3 : decode cX9_isSeen 3 = .ok (.istore_n 2, 1) := by decide +kernel
theorem dX9_isSeen_4 : decode cX9_isSeen 4 = .ok (.iload_n 2, 1) := by decide +kernel
theorem dX9_isSeen_5 : decode cX9_isSeen 5 = .ok (.aload_n 0, 1) := by decide +kernel
theorem dX9_isSeen_6 : decode cX9_isSeen 6 = .ok (.getfield 126, 3) := by decide +kernel
theorem dX9_isSeen_9 : decode cX9_isSeen 9 = .ok (.if_icmp .ge 73, 3) := by decide +kernel
theorem dX9_isSeen_12 : decode cX9_isSeen 12 = .ok (.iload_n 1, 1) := by decide +kernel
theorem dX9_isSeen_13 : decode cX9_isSeen 13 = .ok (.ifCond .eq 69, 3) := by decide +kernel
theorem dX9_isSeen_16 : decode cX9_isSeen 16 = .ok (.aload_n 0, 1) := by decide +kernel
theorem dX9_isSeen_17 : decode cX9_isSeen 17 = .ok (.invokevirtual 368, 3) := by decide +kernel
theorem dX9_isSeen_20 : decode cX9_isSeen 20 = .ok (.aload_n 0, 1) := by decide +kernel
theorem dX9_isSeen_21 : decode cX9_isSeen 21 = .ok (.bipush (-5), 2) := by decide +kernel
theorem dX9_isSeen_23 : decode cX9_isSeen 23 = .ok (.putfield 19, 3) := by decide +kernel
theorem dX9_isSeen_26 : decode cX9_isSeen 26 = .ok (.aload_n 0, 1) := by decide +kernel
theorem dX9_isSeen_27 : decode cX9_isSeen 27 = .ok (.aload_n 0, 1) := by decide +kernel
theorem dX9_isSeen_28 : decode cX9_isSeen 28 = .ok (.getfield 132, 3) := by decide +kernel
theorem dX9_isSeen_31 : decode cX9_isSeen 31 = .ok (.iload_n 2, 1) := by decide +kernel
theorem dX9_isSeen_32 : decode cX9_isSeen 32 = .ok (.iaload, 1) := by decide +kernel
theorem dX9_isSeen_33 : decode cX9_isSeen 33 = .ok (.invokevirtual 365, 3) := by decide +kernel
theorem dX9_isSeen_36 : decode cX9_isSeen 36 = .ok (.aload_n 0, 1) := by decide +kernel
theorem dX9_isSeen_37 : decode cX9_isSeen 37 = .ok (.getfield 32, 3) := by decide +kernel
theorem dX9_isSeen_40 : decode cX9_isSeen 40 = .ok (.aload_n 0, 1) := by decide +kernel
theorem dX9_isSeen_41 : decode cX9_isSeen 41 = .ok (.getfield 129, 3) := by decide +kernel
theorem dX9_isSeen_44 : decode cX9_isSeen 44 = .ok (.iload_n 2, 1) := by decide +kernel
theorem dX9_isSeen_45 : decode cX9_isSeen 45 = .ok (.iaload, 1) := by decide +kernel
theorem dX9_isSeen_46 : decode cX9_isSeen 46 = .ok (.iaload, 1) := by decide +kernel
theorem dX9_isSeen_47 : decode cX9_isSeen 47 = .ok (.bipush 50, 2) := by decide +kernel
theorem dX9_isSeen_49 : decode cX9_isSeen 49 = .ok (.if_icmp .lt 7, 3) := by decide +kernel
theorem dX9_isSeen_52 : decode cX9_isSeen 52 = .ok (.iconst 1, 1) := by decide +kernel
theorem dX9_isSeen_53 : decode cX9_isSeen 53 = .ok (.goto 4, 3) := by decide +kernel
theorem dX9_isSeen_56 : decode cX9_isSeen 56 = .ok (.iconst 0, 1) := by decide +kernel
theorem dX9_isSeen_57 : decode cX9_isSeen 57 = .ok (.aload_n 0, 1) := by decide +kernel
theorem dX9_isSeen_58 : decode cX9_isSeen 58 = .ok (.getfield 135, 3) := by decide +kernel
theorem dX9_isSeen_61 : decode cX9_isSeen 61 = .ok (.iload_n 2, 1) := by decide +kernel
theorem dX9_isSeen_62 : decode cX9_isSeen 62 = .ok (.baload, 1) := by decide +kernel
theorem dX9_isSeen_63 : decode cX9_isSeen 63 = .ok (.if_icmp .ne 7, 3) := by decide +kernel
theorem dX9_isSeen_66 : decode cX9_isSeen 66 = .ok (.iconst 1, 1) := by decide +kernel
theorem dX9_isSeen_67 : decode cX9_isSeen 67 = .ok (.goto 4, 3) := by decide +kernel
theorem dX9_isSeen_70 : decode cX9_isSeen 70 = .ok (.iconst 0, 1) := by decide +kernel
theorem dX9_isSeen_71 : decode cX9_isSeen 71 = .ok (.istore_n 1, 1) := by decide +kernel
theorem dX9_isSeen_72 : decode cX9_isSeen 72 = .ok (.aload_n 0, 1) := by decide +kernel
theorem dX9_isSeen_73 : decode cX9_isSeen 73 = .ok (.invokevirtual 371, 3) := by decide +kernel
theorem dX9_isSeen_76 : decode cX9_isSeen 76 = .ok (.iinc 2 1, 3) := by decide +kernel
theorem dX9_isSeen_79 : decode cX9_isSeen 79 = .ok (.goto (-75), 3) := by decide +kernel
theorem dX9_isSeen_82 : decode cX9_isSeen 82 = .ok (.iload_n 1, 1) := by decide +kernel
theorem dX9_isSeen_83 : decode cX9_isSeen 83 = .ok (.ireturn, 1) := by decide +kernel
theorem dX9_heats_0 : decode cX9_heats 0 = .ok (.aload_n 0, 1) := by decide +kernel
theorem dX9_heats_1 : decode cX9_heats 1 = .ok (.getfield 32, 3) := by decide +kernel
theorem dX9_heats_4 : decode cX9_heats 4 = .ok (.iload_n 1, 1) := by decide +kernel
theorem dX9_heats_5 : decode cX9_heats 5 = .ok (.iaload, 1) := by decide +kernel
theorem dX9_heats_6 : decode cX9_heats 6 = .ok (.istore_n 3, 1) := by decide +kernel
theorem dX9_heats_7 : decode cX9_heats 7 = .ok (.iconst 0, 1) := by decide +kernel
theorem dX9_heats_8 : decode cX9_heats 8 = .ok (.istore 4, 2) := by decide +kernel
theorem dX9_heats_10 : decode cX9_heats 10 = .ok (.bipush (-5), 2) := by decide +kernel
theorem dX9_heats_12 : decode cX9_heats 12 = .ok (.istore 5, 2) := by decide +kernel
theorem dX9_heats_14 : decode cX9_heats 14 = .ok (.bipush 99, 2) := by decide +kernel
theorem dX9_heats_16 : decode cX9_heats 16 = .ok (.istore 6, 2) := by decide +kernel
theorem dX9_heats_18 : decode cX9_heats 18 = .ok (.iload 6, 2) := by decide +kernel
theorem dX9_heats_20 : decode cX9_heats 20 = .ok (.ifCond .lt 34, 3) := by decide +kernel
theorem dX9_heats_23 : decode cX9_heats 23 = .ok (.aload_n 0, 1) := by decide +kernel
theorem dX9_heats_24 : decode cX9_heats 24 = .ok (.getfield 32, 3) := by decide +kernel
theorem dX9_heats_27 : decode cX9_heats 27 = .ok (.iload_n 1, 1) := by decide +kernel
theorem dX9_heats_28 : decode cX9_heats 28 = .ok (.iload 6, 2) := by decide +kernel
theorem dX9_heats_30 : decode cX9_heats 30 = .ok (.iastore, 1) := by decide +kernel
theorem dX9_heats_31 : decode cX9_heats 31 = .ok (.aload_n 0, 1) := by decide +kernel
theorem dX9_heats_32 : decode cX9_heats 32 = .ok (.invokevirtual 389, 3) := by decide +kernel
theorem dX9_heats_35 : decode cX9_heats 35 = .ok (.ifCond .ne 6, 3) := by decide +kernel
theorem dX9_heats_38 : decode cX9_heats 38 = .ok (.goto 10, 3) := by decide +kernel
theorem dX9_heats_41 : decode cX9_heats 41 = .ok (.iinc 4 1, 3) := by decide +kernel
theorem dX9_heats_44 : decode cX9_heats 44 = .ok (.iload 6, 2) := by decide +kernel
theorem dX9_heats_46 : decode cX9_heats 46 = .ok (.istore 5, 2) := by decide +kernel
theorem dX9_heats_48 : decode cX9_heats 48 = .ok (.iinc 6 (-1), 3) := by decide +kernel
theorem dX9_heats_51 : decode cX9_heats 51 = .ok (.goto (-33), 3) := by decide +kernel
theorem dX9_heats_54 : decode cX9_heats 54 = .ok (.aload_n 0, 1) := by decide +kernel
theorem dX9_heats_55 : decode cX9_heats 55 = .ok (.getfield 32, 3) := by decide +kernel
theorem dX9_heats_58 : decode cX9_heats 58 = .ok (.iload_n 1, 1) := by decide +kernel
theorem dX9_heats_59 : decode cX9_heats 59 = .ok (.iload_n 3, 1) := by decide +kernel
theorem dX9_heats_60 : decode cX9_heats 60 = .ok (.iastore, 1) := by decide +kernel
theorem dX9_heats_61 : decode cX9_heats 61 = .ok (.iload_n 2, 1) := by decide +kernel
theorem dX9_heats_62 : decode cX9_heats 62 = .ok (.ifCond .ne 8, 3) := by decide +kernel
theorem dX9_heats_65 : decode cX9_heats 65 = .ok (.iload 4, 2) := by decide +kernel
theorem dX9_heats_67 : decode cX9_heats 67 = .ok (.goto 5, 3) := by decide +kernel
theorem dX9_heats_70 : decode cX9_heats 70 = .ok (.iload 5, 2) := by decide +kernel
theorem dX9_heats_72 : decode cX9_heats 72 = .ok (.ireturn, 1) := by decide +kernel
theorem dX9_canBe_0 : decode cX9_canBe 0 = .ok (.aload_n 0, 1) := by decide +kernel
theorem dX9_canBe_1 : decode cX9_canBe 1 = .ok (.getfield 29, 3) := by decide +kernel
theorem dX9_canBe_4 : decode cX9_canBe 4 = .ok (.iload_n 1, 1) := by decide +kernel
theorem dX9_canBe_5 : decode cX9_canBe 5 = .ok (.iaload, 1) := by decide +kernel
theorem dX9_canBe_6 : decode cX9_canBe 6 = .ok (.istore_n 3, 1) := by decide +kernel
theorem dX9_canBe_7 : decode cX9_canBe 7 = .ok (.iconst 0, 1) := by decide +kernel
theorem dX9_canBe_8 : decode cX9_canBe 8 = .ok (.istore 4, 2) := by decide +kernel
theorem dX9_canBe_10 : decode cX9_canBe 10 = .ok (.bipush (-5), 2) := by decide +kernel
theorem dX9_canBe_12 : decode cX9_canBe 12 = .ok (.istore 5, 2) := by decide +kernel
theorem dX9_canBe_14 : decode cX9_canBe 14 = .ok (.bipush 9, 2) := by decide +kernel
theorem dX9_canBe_16 : decode cX9_canBe 16 = .ok (.istore 6, 2) := by decide +kernel
theorem dX9_canBe_18 : decode cX9_canBe 18 = .ok (.iload 6, 2) := by decide +kernel
theorem dX9_canBe_20 : decode cX9_canBe 20 = .ok (.ifCond .lt 34, 3) := by decide +kernel
theorem dX9_canBe_23 : decode cX9_canBe 23 = .ok (.aload_n 0, 1) := by decide +kernel
theorem dX9_canBe_24 : decode cX9_canBe 24 = .ok (.getfield 29, 3) := by decide +kernel
theorem dX9_canBe_27 : decode cX9_canBe 27 = .ok (.iload_n 1, 1) := by decide +kernel
theorem dX9_canBe_28 : decode cX9_canBe 28 = .ok (.iload 6, 2) := by decide +kernel
theorem dX9_canBe_30 : decode cX9_canBe 30 = .ok (.iastore, 1) := by decide +kernel
theorem dX9_canBe_31 : decode cX9_canBe 31 = .ok (.aload_n 0, 1) := by decide +kernel
theorem dX9_canBe_32 : decode cX9_canBe 32 = .ok (.invokevirtual 389, 3) := by decide +kernel
theorem dX9_canBe_35 : decode cX9_canBe 35 = .ok (.ifCond .ne 6, 3) := by decide +kernel
theorem dX9_canBe_38 : decode cX9_canBe 38 = .ok (.goto 10, 3) := by decide +kernel
theorem dX9_canBe_41 : decode cX9_canBe 41 = .ok (.iinc 4 1, 3) := by decide +kernel
theorem dX9_canBe_44 : decode cX9_canBe 44 = .ok (.iload 6, 2) := by decide +kernel
theorem dX9_canBe_46 : decode cX9_canBe 46 = .ok (.istore 5, 2) := by decide +kernel
theorem dX9_canBe_48 : decode cX9_canBe 48 = .ok (.iinc 6 (-1), 3) := by decide +kernel
theorem dX9_canBe_51 : decode cX9_canBe 51 = .ok (.goto (-33), 3) := by decide +kernel
theorem dX9_canBe_54 : decode cX9_canBe 54 = .ok (.aload_n 0, 1) := by decide +kernel
theorem dX9_canBe_55 : decode cX9_canBe 55 = .ok (.getfield 29, 3) := by decide +kernel
theorem dX9_canBe_58 : decode cX9_canBe 58 = .ok (.iload_n 1, 1) := by decide +kernel
theorem dX9_canBe_59 : decode cX9_canBe 59 = .ok (.iload_n 3, 1) := by decide +kernel
theorem dX9_canBe_60 : decode cX9_canBe 60 = .ok (.iastore, 1) := by decide +kernel
theorem dX9_canBe_61 : decode cX9_canBe 61 = .ok (.iload_n 2, 1) := by decide +kernel
theorem dX9_canBe_62 : decode cX9_canBe 62 = .ok (.ifCond .ne 8, 3) := by decide +kernel
theorem dX9_canBe_65 : decode cX9_canBe 65 = .ok (.iload 4, 2) := by decide +kernel
theorem dX9_canBe_67 : decode cX9_canBe 67 = .ok (.goto 5, 3) := by decide +kernel
theorem dX9_canBe_70 : decode cX9_canBe 70 = .ok (.iload 5, 2) := by decide +kernel
theorem dX9_canBe_72 : decode cX9_canBe 72 = .ok (.ireturn, 1) := by decide +kernel
theorem dX9_can_0 : decode cX9_can 0 = .ok (.aload_n 0, 1) := by decide +kernel
theorem dX9_can_1 : decode cX9_can 1 = .ok (.iload_n 1, 1) := by decide +kernel
theorem dX9_can_2 : decode cX9_can 2 = .ok (.invokevirtual 260, 3) := by decide +kernel
theorem dX9_can_5 : decode cX9_can 5 = .ok (.ifCond .eq 23, 3) := by decide +kernel
theorem dX9_can_8 : decode cX9_can 8 = .ok (.aload_n 0, 1) := by decide +kernel
theorem dX9_can_9 : decode cX9_can 9 = .ok (.iload_n 2, 1) := by decide +kernel
theorem dX9_can_10 : decode cX9_can 10 = .ok (.iconst 0, 1) := by decide +kernel
theorem dX9_can_11 : decode cX9_can 11 = .ok (.iconst 1, 1) := by decide +kernel
theorem dX9_can_12 : decode cX9_can 12 = .ok (.invokevirtual 252, 3) := by decide +kernel
theorem dX9_can_15 : decode cX9_can 15 = .ok (.ifCond .eq 13, 3) := by decide +kernel
theorem dX9_can_18 : decode cX9_can 18 = .ok (.aload_n 0, 1) := by decide +kernel
theorem dX9_can_19 : decode cX9_can 19 = .ok (.iload_n 3, 1) := by decide +kernel
theorem dX9_can_20 : decode cX9_can 20 = .ok (.iconst 0, 1) := by decide +kernel
theorem dX9_can_21 : decode cX9_can 21 = .ok (.iconst 1, 1) := by decide +kernel
theorem dX9_can_22 : decode cX9_can 22 = .ok (.invokevirtual 252, 3) := by decide +kernel
theorem dX9_can_25 : decode cX9_can 25 = .ok (.ifCond .ne 5, 3) := by decide +kernel
theorem dX9_can_28 : decode cX9_can 28 = .ok (.iconst (-1), 1) := by decide +kernel
theorem dX9_can_29 : decode cX9_can 29 = .ok (.ireturn, 1) := by decide +kernel
theorem dX9_can_30 : decode cX9_can 30 = .ok (.iload_n 2, 1) := by decide +kernel
theorem dX9_can_31 : decode cX9_can 31 = .ok (.ifCond .ne 12, 3) := by decide +kernel
theorem dX9_can_34 : decode cX9_can 34 = .ok (.aload_n 0, 1) := by decide +kernel
theorem dX9_can_35 : decode cX9_can 35 = .ok (.iload_n 1, 1) := by decide +kernel
theorem dX9_can_36 : decode cX9_can 36 = .ok (.iload_n 3, 1) := by decide +kernel
theorem dX9_can_37 : decode cX9_can 37 = .ok (.invokevirtual 392, 3) := by decide +kernel
theorem dX9_can_40 : decode cX9_can 40 = .ok (.goto 9, 3) := by decide +kernel
theorem dX9_can_43 : decode cX9_can 43 = .ok (.aload_n 0, 1) := by decide +kernel
theorem dX9_can_44 : decode cX9_can 44 = .ok (.iload_n 1, 1) := by decide +kernel
theorem dX9_can_45 : decode cX9_can 45 = .ok (.iload_n 3, 1) := by decide +kernel
theorem dX9_can_46 : decode cX9_can 46 = .ok (.invokevirtual 395, 3) := by decide +kernel
theorem dX9_can_49 : decode cX9_can 49 = .ok (.ireturn, 1) := by decide +kernel
theorem dX9_divisor_0 : decode cX9_divisor 0 = .ok (.iload_n 1, 1) := by decide +kernel
theorem dX9_divisor_1 : decode cX9_divisor 1 = .ok (.istore_n 3, 1) := by decide +kernel
theorem dX9_divisor_2 : decode cX9_divisor 2 = .ok (.iload_n 2, 1) := by decide +kernel
theorem dX9_divisor_3 : decode cX9_divisor 3 = .ok (.istore 4, 2) := by decide +kernel
theorem dX9_divisor_5 : decode cX9_divisor 5 = .ok (.iload 4, 2) := by decide +kernel
theorem dX9_divisor_7 : decode cX9_divisor 7 = .ok (.ifCond .eq 19, 3) := by decide +kernel
theorem dX9_divisor_10 : decode cX9_divisor 10 = .ok (.iload_n 3, 1) := by decide +kernel
theorem dX9_divisor_11 : decode cX9_divisor 11 = .ok (.iload 4, 2) := by decide +kernel
theorem dX9_divisor_13 : decode cX9_divisor 13 = .ok (.irem, 1) := by decide +kernel
theorem dX9_divisor_14 : decode cX9_divisor 14 = .ok (.istore 5, 2) := by decide +kernel
theorem dX9_divisor_16 : decode cX9_divisor 16 = .ok (.iload 4, 2) := by decide +kernel
theorem dX9_divisor_18 : decode cX9_divisor 18 = .ok (.istore_n 3, 1) := by decide +kernel
theorem dX9_divisor_19 : decode cX9_divisor 19 = .ok (.iload 5, 2) := by decide +kernel
theorem dX9_divisor_21 : decode cX9_divisor 21 = .ok (.istore 4, 2) := by decide +kernel
theorem dX9_divisor_23 : decode cX9_divisor 23 = .ok (.goto (-18), 3) := by decide +kernel
theorem dX9_divisor_26 : decode cX9_divisor 26 = .ok (.iload_n 3, 1) := by decide +kernel
theorem dX9_divisor_27 : decode cX9_divisor 27 = .ok (.ireturn, 1) := by decide +kernel
theorem dX9_lowest_0 : decode cX9_lowest 0 = .ok (.aload_n 0, 1) := by decide +kernel
theorem dX9_lowest_1 : decode cX9_lowest 1 = .ok (.iload_n 1, 1) := by decide +kernel
theorem dX9_lowest_2 : decode cX9_lowest 2 = .ok (.iload_n 2, 1) := by decide +kernel
theorem dX9_lowest_3 : decode cX9_lowest 3 = .ok (.invokevirtual 398, 3) := by decide +kernel
theorem dX9_lowest_6 : decode cX9_lowest 6 = .ok (.istore 4, 2) := by decide +kernel
theorem dX9_lowest_8 : decode cX9_lowest 8 = .ok (.iload_n 3, 1) := by decide +kernel
theorem dX9_lowest_9 : decode cX9_lowest 9 = .ok (.ifCond .ne 11, 3) := by decide +kernel
theorem dX9_lowest_12 : decode cX9_lowest 12 = .ok (.iload_n 1, 1) := by decide +kernel
theorem dX9_lowest_13 : decode cX9_lowest 13 = .ok (.iload 4, 2) := by decide +kernel
theorem dX9_lowest_15 : decode cX9_lowest 15 = .ok (.idiv, 1) := by decide +kernel
theorem dX9_lowest_16 : decode cX9_lowest 16 = .ok (.i2l, 1) := by decide +kernel
theorem dX9_lowest_17 : decode cX9_lowest 17 = .ok (.goto 8, 3) := by decide +kernel
theorem dX9_lowest_20 : decode cX9_lowest 20 = .ok (.iload_n 2, 1) := by decide +kernel
theorem dX9_lowest_21 : decode cX9_lowest 21 = .ok (.iload 4, 2) := by decide +kernel
theorem dX9_lowest_23 : decode cX9_lowest 23 = .ok (.idiv, 1) := by decide +kernel
theorem dX9_lowest_24 : decode cX9_lowest 24 = .ok (.i2l, 1) := by decide +kernel
theorem dX9_lowest_25 : decode cX9_lowest 25 = .ok (.lreturn, 1) := by decide +kernel
theorem dX9_isHotIf_0 : decode cX9_isHotIf 0 = .ok (.aload_n 0, 1) := by decide +kernel
theorem dX9_isHotIf_1 : decode cX9_isHotIf 1 = .ok (.invokevirtual 368, 3) := by decide +kernel
theorem dX9_isHotIf_4 : decode cX9_isHotIf 4 = .ok (.aload_n 0, 1) := by decide +kernel
theorem dX9_isHotIf_5 : decode cX9_isHotIf 5 = .ok (.bipush (-5), 2) := by decide +kernel
theorem dX9_isHotIf_7 : decode cX9_isHotIf 7 = .ok (.putfield 19, 3) := by decide +kernel
theorem dX9_isHotIf_10 : decode cX9_isHotIf 10 = .ok (.aload_n 0, 1) := by decide +kernel
theorem dX9_isHotIf_11 : decode cX9_isHotIf 11 = .ok (.getfield 32, 3) := by decide +kernel
theorem dX9_isHotIf_14 : decode cX9_isHotIf 14 = .ok (.iload_n 2, 1) := by decide +kernel
theorem dX9_isHotIf_15 : decode cX9_isHotIf 15 = .ok (.aload_n 0, 1) := by decide +kernel
theorem dX9_isHotIf_16 : decode cX9_isHotIf 16 = .ok (.aload_n 0, 1) := by decide +kernel
theorem dX9_isHotIf_17 : decode cX9_isHotIf 17 = .ok (.getfield 32, 3) := by decide +kernel
theorem dX9_isHotIf_20 : decode cX9_isHotIf 20 = .ok (.iload_n 2, 1) := by decide +kernel
theorem dX9_isHotIf_21 : decode cX9_isHotIf 21 = .ok (.iaload, 1) := by decide +kernel
theorem dX9_isHotIf_22 : decode cX9_isHotIf 22 = .ok (.bipush 20, 2) := by decide +kernel
theorem dX9_isHotIf_24 : decode cX9_isHotIf 24 = .ok (.iadd, 1) := by decide +kernel
theorem dX9_isHotIf_25 : decode cX9_isHotIf 25 = .ok (.bipush 99, 2) := by decide +kernel
theorem dX9_isHotIf_27 : decode cX9_isHotIf 27 = .ok (.invokevirtual 248, 3) := by decide +kernel
theorem dX9_isHotIf_30 : decode cX9_isHotIf 30 = .ok (.iastore, 1) := by decide +kernel
theorem dX9_isHotIf_31 : decode cX9_isHotIf 31 = .ok (.aload_n 0, 1) := by decide +kernel
theorem dX9_isHotIf_32 : decode cX9_isHotIf 32 = .ok (.iload_n 3, 1) := by decide +kernel
theorem dX9_isHotIf_33 : decode cX9_isHotIf 33 = .ok (.invokevirtual 365, 3) := by decide +kernel
theorem dX9_isHotIf_36 : decode cX9_isHotIf 36 = .ok (.aload_n 0, 1) := by decide +kernel
theorem dX9_isHotIf_37 : decode cX9_isHotIf 37 = .ok (.getfield 32, 3) := by decide +kernel
theorem dX9_isHotIf_40 : decode cX9_isHotIf 40 = .ok (.iload_n 1, 1) := by decide +kernel
theorem dX9_isHotIf_41 : decode cX9_isHotIf 41 = .ok (.iaload, 1) := by decide +kernel
theorem dX9_isHotIf_42 : decode cX9_isHotIf 42 = .ok (.bipush 50, 2) := by decide +kernel
theorem dX9_isHotIf_44 : decode cX9_isHotIf 44 = .ok (.if_icmp .lt 7, 3) := by decide +kernel
theorem dX9_isHotIf_47 : decode cX9_isHotIf 47 = .ok (.iconst 1, 1) := by decide +kernel
theorem dX9_isHotIf_48 : decode cX9_isHotIf 48 = .ok (.goto 4, 3) := by decide +kernel
theorem dX9_isHotIf_51 : decode cX9_isHotIf 51 = .ok (.iconst 0, 1) := by decide +kernel
theorem dX9_isHotIf_52 : decode cX9_isHotIf 52 = .ok (.istore 4, 2) := by decide +kernel
theorem dX9_isHotIf_54 : decode cX9_isHotIf 54 = .ok (.aload_n 0, 1) := by decide +kernel
theorem dX9_isHotIf_55 : decode cX9_isHotIf 55 = .ok (.invokevirtual 371, 3) := by decide +kernel
theorem dX9_isHotIf_58 : decode cX9_isHotIf 58 = .ok (.iload 4, 2) := by decide +kernel
theorem dX9_isHotIf_60 : decode cX9_isHotIf 60 = .ok (.ireturn, 1) := by decide +kernel
theorem dX9_odds_0 : decode cX9_odds 0 = .ok (.aload_n 0, 1) := by decide +kernel
theorem dX9_odds_1 : decode cX9_odds 1 = .ok (.iload_n 1, 1) := by decide +kernel
theorem dX9_odds_2 : decode cX9_odds 2 = .ok (.invokevirtual 260, 3) := by decide +kernel
theorem dX9_odds_5 : decode cX9_odds 5 = .ok (.ifCond .eq 24, 3) := by decide +kernel
theorem dX9_odds_8 : decode cX9_odds 8 = .ok (.aload_n 0, 1) := by decide +kernel
theorem dX9_odds_9 : decode cX9_odds 9 = .ok (.iload_n 2, 1) := by decide +kernel
theorem dX9_odds_10 : decode cX9_odds 10 = .ok (.iconst 0, 1) := by decide +kernel
theorem dX9_odds_11 : decode cX9_odds 11 = .ok (.bipush 20, 2) := by decide +kernel
theorem dX9_odds_13 : decode cX9_odds 13 = .ok (.invokevirtual 252, 3) := by decide +kernel
theorem dX9_odds_16 : decode cX9_odds 16 = .ok (.ifCond .eq 13, 3) := by decide +kernel
theorem dX9_odds_19 : decode cX9_odds 19 = .ok (.aload_n 0, 1) := by decide +kernel
theorem dX9_odds_20 : decode cX9_odds 20 = .ok (.iload_n 3, 1) := by decide +kernel
theorem dX9_odds_21 : decode cX9_odds 21 = .ok (.iconst 0, 1) := by decide +kernel
theorem dX9_odds_22 : decode cX9_odds 22 = .ok (.iconst 1, 1) := by decide +kernel
theorem dX9_odds_23 : decode cX9_odds 23 = .ok (.invokevirtual 252, 3) := by decide +kernel
theorem dX9_odds_26 : decode cX9_odds 26 = .ok (.ifCond .ne 7, 3) := by decide +kernel
theorem dX9_odds_29 : decode cX9_odds 29 = .ok (.ldc2_w 401, 3) := by decide +kernel
theorem dX9_odds_32 : decode cX9_odds 32 = .ok (.lreturn, 1) := by decide +kernel
theorem dX9_odds_33 : decode cX9_odds 33 = .ok (.iconst 0, 1) := by decide +kernel
theorem dX9_odds_34 : decode cX9_odds 34 = .ok (.istore 4, 2) := by decide +kernel
theorem dX9_odds_36 : decode cX9_odds 36 = .ok (.iconst 0, 1) := by decide +kernel
theorem dX9_odds_37 : decode cX9_odds 37 = .ok (.istore 5, 2) := by decide +kernel
theorem dX9_odds_39 : decode cX9_odds 39 = .ok (.iconst 0, 1) := by decide +kernel
theorem dX9_odds_40 : decode cX9_odds 40 = .ok (.istore 6, 2) := by decide +kernel
theorem dX9_odds_42 : decode cX9_odds 42 = .ok (.iload 6, 2) := by decide +kernel
theorem dX9_odds_44 : decode cX9_odds 44 = .ok (.aload_n 0, 1) := by decide +kernel
theorem dX9_odds_45 : decode cX9_odds 45 = .ok (.getfield 7, 3) := by decide +kernel
theorem dX9_odds_48 : decode cX9_odds 48 = .ok (.if_icmp .ge 49, 3) := by decide +kernel
theorem dX9_odds_51 : decode cX9_odds 51 = .ok (.aload_n 0, 1) := by decide +kernel
theorem dX9_odds_52 : decode cX9_odds 52 = .ok (.aload_n 0, 1) := by decide +kernel
theorem dX9_odds_53 : decode cX9_odds 53 = .ok (.getfield 13, 3) := by decide +kernel
theorem dX9_odds_56 : decode cX9_odds 56 = .ok (.iload 6, 2) := by decide +kernel
theorem dX9_odds_58 : decode cX9_odds 58 = .ok (.invokevirtual 263, 3) := by decide +kernel
theorem dX9_odds_61 : decode cX9_odds 61 = .ok (.ifCond .eq 6, 3) := by decide +kernel
theorem dX9_odds_64 : decode cX9_odds 64 = .ok (.goto 27, 3) := by decide +kernel
theorem dX9_odds_67 : decode cX9_odds 67 = .ok (.iinc 5 1, 3) := by decide +kernel
theorem dX9_odds_70 : decode cX9_odds 70 = .ok (.iload 4, 2) := by decide +kernel
theorem dX9_odds_72 : decode cX9_odds 72 = .ok (.aload_n 0, 1) := by decide +kernel
theorem dX9_odds_73 : decode cX9_odds 73 = .ok (.iload_n 1, 1) := by decide +kernel
theorem dX9_odds_74 : decode cX9_odds 74 = .ok (.iload 6, 2) := by decide +kernel
theorem dX9_odds_76 : decode cX9_odds 76 = .ok (.iload_n 2, 1) := by decide +kernel
theorem dX9_odds_77 : decode cX9_odds 77 = .ok (.invokevirtual 403, 3) := by decide +kernel
theorem dX9_odds_80 : decode cX9_odds 80 = .ok (.ifCond .eq 7, 3) := by decide +kernel
theorem dX9_odds_83 : decode cX9_odds 83 = .ok (.iconst 1, 1) := by decide +kernel
theorem dX9_odds_84 : decode cX9_odds 84 = .ok (.goto 4, 3) := by decide +kernel
theorem dX9_odds_87 : decode cX9_odds 87 = .ok (.iconst 0, 1) := by decide +kernel
theorem dX9_odds_88 : decode cX9_odds 88 = .ok (.iadd, 1) := by decide +kernel
theorem dX9_odds_89 : decode cX9_odds 89 = .ok (.istore 4, 2) := by decide +kernel
theorem dX9_odds_91 : decode cX9_odds 91 = .ok (.iinc 6 1, 3) := by decide +kernel
theorem dX9_odds_94 : decode cX9_odds 94 = .ok (.goto (-52), 3) := by decide +kernel
theorem dX9_odds_97 : decode cX9_odds 97 = .ok (.iload 5, 2) := by decide +kernel
theorem dX9_odds_99 : decode cX9_odds 99 = .ok (.ifCond .ne 9, 3) := by decide +kernel
theorem dX9_odds_102 : decode cX9_odds 102 = .ok (.ldc2_w 401, 3) := by decide +kernel
theorem dX9_odds_105 : decode cX9_odds 105 = .ok (.goto 12, 3) := by decide +kernel
theorem dX9_odds_108 : decode cX9_odds 108 = .ok (.aload_n 0, 1) := by decide +kernel
theorem dX9_odds_109 : decode cX9_odds 109 = .ok (.iload 4, 2) := by decide +kernel
theorem dX9_odds_111 : decode cX9_odds 111 = .ok (.iload 5, 2) := by decide +kernel
theorem dX9_odds_113 : decode cX9_odds 113 = .ok (.iload_n 3, 1) := by decide +kernel
theorem dX9_odds_114 : decode cX9_odds 114 = .ok (.invokevirtual 406, 3) := by decide +kernel
theorem dX9_odds_117 : decode cX9_odds 117 = .ok (.lreturn, 1) := by decide +kernel
theorem dX9_mean_0 : decode cX9_mean 0 = .ok (.aload_n 0, 1) := by decide +kernel
theorem dX9_mean_1 : decode cX9_mean 1 = .ok (.iload_n 1, 1) := by decide +kernel
theorem dX9_mean_2 : decode cX9_mean 2 = .ok (.invokevirtual 362, 3) := by decide +kernel
theorem dX9_mean_5 : decode cX9_mean 5 = .ok (.ifCond .eq 20, 3) := by decide +kernel
theorem dX9_mean_8 : decode cX9_mean 8 = .ok (.aload_n 0, 1) := by decide +kernel
theorem dX9_mean_9 : decode cX9_mean 9 = .ok (.iload_n 2, 1) := by decide +kernel
theorem dX9_mean_10 : decode cX9_mean 10 = .ok (.iconst 0, 1) := by decide +kernel
theorem dX9_mean_11 : decode cX9_mean 11 = .ok (.iconst 1, 1) := by decide +kernel
theorem dX9_mean_12 : decode cX9_mean 12 = .ok (.invokevirtual 252, 3) := by decide +kernel
theorem dX9_mean_15 : decode cX9_mean 15 = .ok (.ifCond .eq 10, 3) := by decide +kernel
theorem dX9_mean_18 : decode cX9_mean 18 = .ok (.aload_n 0, 1) := by decide +kernel
theorem dX9_mean_19 : decode cX9_mean 19 = .ok (.getfield 7, 3) := by decide +kernel
theorem dX9_mean_22 : decode cX9_mean 22 = .ok (.ifCond .ne 7, 3) := by decide +kernel
theorem dX9_mean_25 : decode cX9_mean 25 = .ok (.ldc2_w 401, 3) := by decide +kernel
theorem dX9_mean_28 : decode cX9_mean 28 = .ok (.lreturn, 1) := by decide +kernel
theorem dX9_mean_29 : decode cX9_mean 29 = .ok (.aload_n 0, 1) := by decide +kernel
theorem dX9_mean_30 : decode cX9_mean 30 = .ok (.invokevirtual 368, 3) := by decide +kernel
theorem dX9_mean_33 : decode cX9_mean 33 = .ok (.aload_n 0, 1) := by decide +kernel
theorem dX9_mean_34 : decode cX9_mean 34 = .ok (.iload_n 1, 1) := by decide +kernel
theorem dX9_mean_35 : decode cX9_mean 35 = .ok (.invokevirtual 365, 3) := by decide +kernel
theorem dX9_mean_38 : decode cX9_mean 38 = .ok (.aload_n 0, 1) := by decide +kernel
theorem dX9_mean_39 : decode cX9_mean 39 = .ok (.invokevirtual 353, 3) := by decide +kernel
theorem dX9_mean_42 : decode cX9_mean 42 = .ok (.istore_n 3, 1) := by decide +kernel
theorem dX9_mean_43 : decode cX9_mean 43 = .ok (.aload_n 0, 1) := by decide +kernel
theorem dX9_mean_44 : decode cX9_mean 44 = .ok (.invokevirtual 371, 3) := by decide +kernel
theorem dX9_mean_47 : decode cX9_mean 47 = .ok (.aload_n 0, 1) := by decide +kernel
theorem dX9_mean_48 : decode cX9_mean 48 = .ok (.iload_n 3, 1) := by decide +kernel
theorem dX9_mean_49 : decode cX9_mean 49 = .ok (.aload_n 0, 1) := by decide +kernel
theorem dX9_mean_50 : decode cX9_mean 50 = .ok (.getfield 7, 3) := by decide +kernel
theorem dX9_mean_53 : decode cX9_mean 53 = .ok (.iload_n 2, 1) := by decide +kernel
theorem dX9_mean_54 : decode cX9_mean 54 = .ok (.invokevirtual 406, 3) := by decide +kernel
theorem dX9_mean_57 : decode cX9_mean 57 = .ok (.lreturn, 1) := by decide +kernel
theorem dX9_plan_0 : decode cX9_plan 0 = .ok (.iload_n 1, 1) := by decide +kernel
theorem dX9_plan_1 : decode cX9_plan 1 = .ok (.iconst (-1), 1) := by decide +kernel
theorem dX9_plan_2 : decode cX9_plan 2 = .ok (.if_icmp .ne 10, 3) := by decide +kernel
theorem dX9_plan_5 : decode cX9_plan 5 = .ok (.aload_n 0, 1) := by decide +kernel
theorem dX9_plan_6 : decode cX9_plan 6 = .ok (.iconst 0, 1) := by decide +kernel
theorem dX9_plan_7 : decode cX9_plan 7 = .ok (.putfield 138, 3) := by decide +kernel
theorem dX9_plan_10 : decode cX9_plan 10 = .ok (.iconst 0, 1) := by decide +kernel
theorem dX9_plan_11 : decode cX9_plan 11 = .ok (.ireturn, 1) := by decide +kernel
theorem dX9_plan_12 : decode cX9_plan 12 = .ok (.aload_n 0, 1) := by decide +kernel
theorem dX9_plan_13 : decode cX9_plan 13 = .ok (.iload_n 1, 1) := by decide +kernel
theorem dX9_plan_14 : decode cX9_plan 14 = .ok (.iconst 0, 1) := by decide +kernel
theorem dX9_plan_15 : decode cX9_plan 15 = .ok (.iconst 3, 1) := by decide +kernel
theorem dX9_plan_16 : decode cX9_plan 16 = .ok (.invokevirtual 252, 3) := by decide +kernel
theorem dX9_plan_19 : decode cX9_plan 19 = .ok (.ifCond .eq 34, 3) := by decide +kernel
theorem dX9_plan_22 : decode cX9_plan 22 = .ok (.aload_n 0, 1) := by decide +kernel
theorem dX9_plan_23 : decode cX9_plan 23 = .ok (.iload_n 1, 1) := by decide +kernel
theorem dX9_plan_24 : decode cX9_plan 24 = .ok (.iconst 1, 1) := by decide +kernel
theorem dX9_plan_25 : decode cX9_plan 25 = .ok (.iconst 2, 1) := by decide +kernel
theorem dX9_plan_26 : decode cX9_plan 26 = .ok (.invokevirtual 252, 3) := by decide +kernel
theorem dX9_plan_29 : decode cX9_plan 29 = .ok (.ifCond .eq 11, 3) := by decide +kernel
theorem dX9_plan_32 : decode cX9_plan 32 = .ok (.aload_n 0, 1) := by decide +kernel
theorem dX9_plan_33 : decode cX9_plan 33 = .ok (.iload_n 2, 1) := by decide +kernel
theorem dX9_plan_34 : decode cX9_plan 34 = .ok (.invokevirtual 260, 3) := by decide +kernel
theorem dX9_plan_37 : decode cX9_plan 37 = .ok (.ifCond .eq 16, 3) := by decide +kernel
theorem dX9_plan_40 : decode cX9_plan 40 = .ok (.iload_n 1, 1) := by decide +kernel
theorem dX9_plan_41 : decode cX9_plan 41 = .ok (.iconst 3, 1) := by decide +kernel
theorem dX9_plan_42 : decode cX9_plan 42 = .ok (.if_icmp .ne 13, 3) := by decide +kernel
theorem dX9_plan_45 : decode cX9_plan 45 = .ok (.aload_n 0, 1) := by decide +kernel
theorem dX9_plan_46 : decode cX9_plan 46 = .ok (.iload_n 2, 1) := by decide +kernel
theorem dX9_plan_47 : decode cX9_plan 47 = .ok (.invokevirtual 271, 3) := by decide +kernel
theorem dX9_plan_50 : decode cX9_plan 50 = .ok (.ifCond .ne 5, 3) := by decide +kernel
theorem dX9_plan_53 : decode cX9_plan 53 = .ok (.iconst (-1), 1) := by decide +kernel
theorem dX9_plan_54 : decode cX9_plan 54 = .ok (.ireturn, 1) := by decide +kernel
theorem dX9_plan_55 : decode cX9_plan 55 = .ok (.aload_n 0, 1) := by decide +kernel
theorem dX9_plan_56 : decode cX9_plan 56 = .ok (.getfield 138, 3) := by decide +kernel
theorem dX9_plan_59 : decode cX9_plan 59 = .ok (.bipush 10, 2) := by decide +kernel
theorem dX9_plan_61 : decode cX9_plan 61 = .ok (.if_icmp .ne 6, 3) := by decide +kernel
theorem dX9_plan_64 : decode cX9_plan 64 = .ok (.bipush (-4), 2) := by decide +kernel
theorem dX9_plan_66 : decode cX9_plan 66 = .ok (.ireturn, 1) := by decide +kernel
theorem dX9_plan_67 : decode cX9_plan 67 = .ok (.aload_n 0, 1) := by decide +kernel
theorem dX9_plan_68 : decode cX9_plan 68 = .ok (.getfield 144, 3) := by decide +kernel
theorem dX9_plan_71 : decode cX9_plan 71 = .ok (.aload_n 0, 1) := by decide +kernel
theorem dX9_plan_72 : decode cX9_plan 72 = .ok (.getfield 138, 3) := by decide +kernel
theorem dX9_plan_75 : decode cX9_plan 75 = .ok (.iload_n 1, 1) := by decide +kernel
theorem dX9_plan_76 : decode cX9_plan 76 = .ok (.iastore, 1) := by decide +kernel
theorem dX9_plan_77 : decode cX9_plan 77 = .ok (.aload_n 0, 1) := by decide +kernel
theorem dX9_plan_78 : decode cX9_plan 78 = .ok (.getfield 147, 3) := by decide +kernel
theorem dX9_plan_81 : decode cX9_plan 81 = .ok (.aload_n 0, 1) := by decide +kernel
theorem dX9_plan_82 : decode cX9_plan 82 = .ok (.getfield 138, 3) := by decide +kernel
theorem dX9_plan_85 : decode cX9_plan 85 = .ok (.iload_n 1, 1) := by decide +kernel
theorem dX9_plan_86 : decode cX9_plan 86 = .ok (.ifCond .le 7, 3) := by decide +kernel
theorem dX9_plan_89 : decode cX9_plan 89 = .ok (.iload_n 2, 1) := by decide +kernel
theorem dX9_plan_90 : decode cX9_plan 90 = .ok (.goto 4, 3) := by decide +kernel
theorem dX9_plan_93 : decode cX9_plan 93 = .ok (.iconst 0, 1) := by decide +kernel
theorem dX9_plan_94 : decode cX9_plan 94 = .ok (.iastore, 1) := by decide +kernel
theorem dX9_plan_95 : decode cX9_plan 95 = .ok (.aload_n 0, 1) := by decide +kernel
theorem dX9_plan_96 : decode cX9_plan 96 = .ok (.dup, 1) := by decide +kernel
theorem dX9_plan_97 : decode cX9_plan 97 = .ok (.getfield 138, 3) := by decide +kernel
theorem dX9_plan_100 : decode cX9_plan 100 = .ok (.iconst 1, 1) := by decide +kernel
theorem dX9_plan_101 : decode cX9_plan 101 = .ok (.iadd, 1) := by decide +kernel
theorem dX9_plan_102 : decode cX9_plan 102 = .ok (.putfield 138, 3) := by decide +kernel
theorem dX9_plan_105 : decode cX9_plan 105 = .ok (.aload_n 0, 1) := by decide +kernel
theorem dX9_plan_106 : decode cX9_plan 106 = .ok (.getfield 138, 3) := by decide +kernel
theorem dX9_plan_109 : decode cX9_plan 109 = .ok (.ireturn, 1) := by decide +kernel
theorem dX9_goPlan_0 : decode cX9_goPlan 0 = .ok (.iload_n 1, 1) := by decide +kernel
theorem dX9_goPlan_1 : decode cX9_goPlan 1 = .ok (.ifCond .ne 7, 3) := by decide +kernel
theorem dX9_goPlan_4 : decode cX9_goPlan 4 = .ok (.aload_n 0, 1) := by decide +kernel
theorem dX9_goPlan_5 : decode cX9_goPlan 5 = .ok (.invokevirtual 359, 3) := by decide +kernel
theorem dX9_goPlan_8 : decode cX9_goPlan 8 = .ok (.aload_n 0, 1) := by decide +kernel
theorem dX9_goPlan_9 : decode cX9_goPlan 9 = .ok (.iload_n 1, 1) := by decide +kernel
theorem dX9_goPlan_10 : decode cX9_goPlan 10 = .ok (.iconst 1, 1) := by decide +kernel
theorem dX9_goPlan_11 : decode cX9_goPlan 11 = .ok (.iconst 2, 1) := by decide +kernel
theorem dX9_goPlan_12 : decode cX9_goPlan 12 = .ok (.invokevirtual 252, 3) := by decide +kernel
theorem dX9_goPlan_15 : decode cX9_goPlan 15 = .ok (.ifCond .eq 18, 3) := by decide +kernel
theorem dX9_goPlan_18 : decode cX9_goPlan 18 = .ok (.aload_n 0, 1) := by decide +kernel
theorem dX9_goPlan_19 : decode cX9_goPlan 19 = .ok (.iload_n 2, 1) := by decide +kernel
theorem dX9_goPlan_20 : decode cX9_goPlan 20 = .ok (.iload_n 1, 1) := by decide +kernel
theorem dX9_goPlan_21 : decode cX9_goPlan 21 = .ok (.iconst 1, 1) := by decide +kernel
theorem dX9_goPlan_22 : decode cX9_goPlan 22 = .ok (.if_icmp .ne 7, 3) := by decide +kernel
theorem dX9_goPlan_25 : decode cX9_goPlan 25 = .ok (.iconst 1, 1) := by decide +kernel
theorem dX9_goPlan_26 : decode cX9_goPlan 26 = .ok (.goto 4, 3) := by decide +kernel
theorem dX9_goPlan_29 : decode cX9_goPlan 29 = .ok (.iconst 0, 1) := by decide +kernel
theorem dX9_goPlan_30 : decode cX9_goPlan 30 = .ok (.invokevirtual 267, 3) := by decide +kernel
theorem dX9_goPlan_33 : decode cX9_goPlan 33 = .ok (.iload_n 1, 1) := by decide +kernel
theorem dX9_goPlan_34 : decode cX9_goPlan 34 = .ok (.iconst 3, 1) := by decide +kernel
theorem dX9_goPlan_35 : decode cX9_goPlan 35 = .ok (.if_icmp .ne 8, 3) := by decide +kernel
theorem dX9_goPlan_38 : decode cX9_goPlan 38 = .ok (.aload_n 0, 1) := by decide +kernel
theorem dX9_goPlan_39 : decode cX9_goPlan 39 = .ok (.iload_n 2, 1) := by decide +kernel
theorem dX9_goPlan_40 : decode cX9_goPlan 40 = .ok (.putfield 19, 3) := by decide +kernel
theorem dX9_goPlan_43 : decode cX9_goPlan 43 = .ok (.return_, 1) := by decide +kernel
theorem dX9_ends_0 : decode cX9_ends 0 = .ok (.aload_n 0, 1) := by decide +kernel
theorem dX9_ends_1 : decode cX9_ends 1 = .ok (.iload_n 1, 1) := by decide +kernel
theorem dX9_ends_2 : decode cX9_ends 2 = .ok (.iconst 0, 1) := by decide +kernel
theorem dX9_ends_3 : decode cX9_ends 3 = .ok (.iconst 1, 1) := by decide +kernel
theorem dX9_ends_4 : decode cX9_ends 4 = .ok (.invokevirtual 252, 3) := by decide +kernel
theorem dX9_ends_7 : decode cX9_ends 7 = .ok (.ifCond .ne 5, 3) := by decide +kernel
theorem dX9_ends_10 : decode cX9_ends 10 = .ok (.iconst (-1), 1) := by decide +kernel
theorem dX9_ends_11 : decode cX9_ends 11 = .ok (.ireturn, 1) := by decide +kernel
theorem dX9_ends_12 : decode cX9_ends 12 = .ok (.aload_n 0, 1) := by decide +kernel
theorem dX9_ends_13 : decode cX9_ends 13 = .ok (.invokevirtual 368, 3) := by decide +kernel
theorem dX9_ends_16 : decode cX9_ends 16 = .ok (.iconst 0, 1) := by decide +kernel
theorem dX9_ends_17 : decode cX9_ends 17 = .ok (.istore_n 2, 1) := by decide +kernel
theorem dX9_ends_18 : decode cX9_ends 18 = .ok (.iload_n 2, 1) := by decide +kernel
theorem dX9_ends_19 : decode cX9_ends 19 = .ok (.aload_n 0, 1) := by decide +kernel
theorem dX9_ends_20 : decode cX9_ends 20 = .ok (.getfield 138, 3) := by decide +kernel
theorem dX9_ends_23 : decode cX9_ends 23 = .ok (.if_icmp .ge 25, 3) := by decide +kernel
theorem dX9_ends_26 : decode cX9_ends 26 = .ok (.aload_n 0, 1) := by decide +kernel
theorem dX9_ends_27 : decode cX9_ends 27 = .ok (.aload_n 0, 1) := by decide +kernel
theorem dX9_ends_28 : decode cX9_ends 28 = .ok (.getfield 144, 3) := by decide +kernel
theorem dX9_ends_31 : decode cX9_ends 31 = .ok (.iload_n 2, 1) := by decide +kernel
theorem dX9_ends_32 : decode cX9_ends 32 = .ok (.iaload, 1) := by decide +kernel
theorem dX9_ends_33 : decode cX9_ends 33 = .ok (.aload_n 0, 1) := by decide +kernel
theorem dX9_ends_34 : decode cX9_ends 34 = .ok (.getfield 147, 3) := by decide +kernel
theorem dX9_ends_37 : decode cX9_ends 37 = .ok (.iload_n 2, 1) := by decide +kernel
theorem dX9_ends_38 : decode cX9_ends 38 = .ok (.iaload, 1) := by decide +kernel
theorem dX9_ends_39 : decode cX9_ends 39 = .ok (.invokevirtual 410, 3) := by decide +kernel
theorem dX9_ends_42 : decode cX9_ends 42 = .ok (.iinc 2 1, 3) := by decide +kernel
theorem dX9_ends_45 : decode cX9_ends 45 = .ok (.goto (-27), 3) := by decide +kernel
theorem dX9_ends_48 : decode cX9_ends 48 = .ok (.iload_n 1, 1) := by decide +kernel
theorem dX9_ends_49 : decode cX9_ends 49 = .ok (.ifCond .ne 10, 3) := by decide +kernel
theorem dX9_ends_52 : decode cX9_ends 52 = .ok (.aload_n 0, 1) := by decide +kernel
theorem dX9_ends_53 : decode cX9_ends 53 = .ok (.invokevirtual 353, 3) := by decide +kernel
theorem dX9_ends_56 : decode cX9_ends 56 = .ok (.goto 7, 3) := by decide +kernel
theorem dX9_ends_59 : decode cX9_ends 59 = .ok (.aload_n 0, 1) := by decide +kernel
theorem dX9_ends_60 : decode cX9_ends 60 = .ok (.invokevirtual 347, 3) := by decide +kernel
theorem dX9_ends_63 : decode cX9_ends 63 = .ok (.istore_n 2, 1) := by decide +kernel
theorem dX9_ends_64 : decode cX9_ends 64 = .ok (.aload_n 0, 1) := by decide +kernel
theorem dX9_ends_65 : decode cX9_ends 65 = .ok (.invokevirtual 371, 3) := by decide +kernel
theorem dX9_ends_68 : decode cX9_ends 68 = .ok (.iload_n 2, 1) := by decide +kernel
theorem dX9_ends_69 : decode cX9_ends 69 = .ok (.ireturn, 1) := by decide +kernel
theorem dX9_book_0 : decode cX9_book 0 = .ok (.iload_n 1, 1) := by decide +kernel
theorem dX9_book_1 : decode cX9_book 1 = .ok (.iconst (-1), 1) := by decide +kernel
theorem dX9_book_2 : decode cX9_book 2 = .ok (.if_icmp .ne 10, 3) := by decide +kernel
theorem dX9_book_5 : decode cX9_book 5 = .ok (.aload_n 0, 1) := by decide +kernel
theorem dX9_book_6 : decode cX9_book 6 = .ok (.iconst 0, 1) := by decide +kernel
theorem dX9_book_7 : decode cX9_book 7 = .ok (.putfield 141, 3) := by decide +kernel
theorem dX9_book_10 : decode cX9_book 10 = .ok (.iconst 0, 1) := by decide +kernel
theorem dX9_book_11 : decode cX9_book 11 = .ok (.ireturn, 1) := by decide +kernel
theorem dX9_book_12 : decode cX9_book 12 = .ok (.aload_n 0, 1) := by decide +kernel
theorem dX9_book_13 : decode cX9_book 13 = .ok (.iload_n 1, 1) := by decide +kernel
theorem dX9_book_14 : decode cX9_book 14 = .ok (.invokevirtual 260, 3) := by decide +kernel
theorem dX9_book_17 : decode cX9_book 17 = .ok (.ifCond .ne 5, 3) := by decide +kernel
theorem dX9_book_20 : decode cX9_book 20 = .ok (.iconst (-1), 1) := by decide +kernel
theorem dX9_book_21 : decode cX9_book 21 = .ok (.ireturn, 1) := by decide +kernel
theorem dX9_book_22 : decode cX9_book 22 = .ok (.aload_n 0, 1) := by decide +kernel
theorem dX9_book_23 : decode cX9_book 23 = .ok (.iload_n 2, 1) := by decide +kernel
theorem dX9_book_24 : decode cX9_book 24 = .ok (.invokevirtual 256, 3) := by decide +kernel
theorem dX9_book_27 : decode cX9_book 27 = .ok (.ifCond .ne 6, 3) := by decide +kernel
theorem dX9_book_30 : decode cX9_book 30 = .ok (.bipush (-2), 2) := by decide +kernel
theorem dX9_book_32 : decode cX9_book 32 = .ok (.ireturn, 1) := by decide +kernel
theorem dX9_book_33 : decode cX9_book 33 = .ok (.aload_n 0, 1) := by decide +kernel
theorem dX9_book_34 : decode cX9_book 34 = .ok (.getfield 141, 3) := by decide +kernel
theorem dX9_book_37 : decode cX9_book 37 = .ok (.bipush 8, 2) := by decide +kernel
theorem dX9_book_39 : decode cX9_book 39 = .ok (.if_icmp .ne 6, 3) := by decide +kernel
theorem dX9_book_42 : decode cX9_book 42 = .ok (.bipush (-4), 2) := by decide +kernel
theorem dX9_book_44 : decode cX9_book 44 = .ok (.ireturn, 1) := by decide +kernel
theorem dX9_book_45 : decode cX9_book 45 = .ok (.aload_n 0, 1) := by decide +kernel
theorem dX9_book_46 : decode cX9_book 46 = .ok (.getfield 150, 3) := by decide +kernel
theorem dX9_book_49 : decode cX9_book 49 = .ok (.aload_n 0, 1) := by decide +kernel
theorem dX9_book_50 : decode cX9_book 50 = .ok (.getfield 141, 3) := by decide +kernel
theorem dX9_book_53 : decode cX9_book 53 = .ok (.iload_n 1, 1) := by decide +kernel
theorem dX9_book_54 : decode cX9_book 54 = .ok (.iastore, 1) := by decide +kernel
theorem dX9_book_55 : decode cX9_book 55 = .ok (.aload_n 0, 1) := by decide +kernel
theorem dX9_book_56 : decode cX9_book 56 = .ok (.getfield 153, 3) := by decide +kernel
theorem dX9_book_59 : decode cX9_book 59 = .ok (.aload_n 0, 1) := by decide +kernel
theorem dX9_book_60 : decode cX9_book 60 = .ok (.getfield 141, 3) := by decide +kernel
theorem dX9_book_63 : decode cX9_book 63 = .ok (.iload_n 2, 1) := by decide +kernel
theorem dX9_book_64 : decode cX9_book 64 = .ok (.iastore, 1) := by decide +kernel
theorem dX9_book_65 : decode cX9_book 65 = .ok (.aload_n 0, 1) := by decide +kernel
theorem dX9_book_66 : decode cX9_book 66 = .ok (.dup, 1) := by decide +kernel
theorem dX9_book_67 : decode cX9_book 67 = .ok (.getfield 141, 3) := by decide +kernel
theorem dX9_book_70 : decode cX9_book 70 = .ok (.iconst 1, 1) := by decide +kernel
theorem dX9_book_71 : decode cX9_book 71 = .ok (.iadd, 1) := by decide +kernel
theorem dX9_book_72 : decode cX9_book 72 = .ok (.putfield 141, 3) := by decide +kernel
theorem dX9_book_75 : decode cX9_book 75 = .ok (.aload_n 0, 1) := by decide +kernel
theorem dX9_book_76 : decode cX9_book 76 = .ok (.getfield 141, 3) := by decide +kernel
theorem dX9_book_79 : decode cX9_book 79 = .ok (.ireturn, 1) := by decide +kernel
theorem dX9_looked_0 : decode cX9_looked 0 = .ok (.iconst 0, 1) := by decide +kernel
theorem dX9_looked_1 : decode cX9_looked 1 = .ok (.istore_n 1, 1) := by decide +kernel
theorem dX9_looked_2 : decode cX9_looked 2 = .ok (.iload_n 1, 1) := by decide +kernel
theorem dX9_looked_3 : decode cX9_looked 3 = .ok (.aload_n 0, 1) := by decide +kernel
theorem dX9_looked_4 : decode cX9_looked 4 = .ok (.getfield 141, 3) := by decide +kernel
theorem dX9_looked_7 : decode cX9_looked 7 = .ok (.if_icmp .ge 31, 3) := by decide +kernel
theorem dX9_looked_10 : decode cX9_looked 10 = .ok (.aload_n 0, 1) := by decide +kernel
theorem dX9_looked_11 : decode cX9_looked 11 = .ok (.getfield 32, 3) := by decide +kernel
theorem dX9_looked_14 : decode cX9_looked 14 = .ok (.aload_n 0, 1) := by decide +kernel
theorem dX9_looked_15 : decode cX9_looked 15 = .ok (.getfield 150, 3) := by decide +kernel
theorem dX9_looked_18 : decode cX9_looked 18 = .ok (.iload_n 1, 1) := by decide +kernel
theorem dX9_looked_19 : decode cX9_looked 19 = .ok (.iaload, 1) := by decide +kernel
theorem dX9_looked_20 : decode cX9_looked 20 = .ok (.iaload, 1) := by decide +kernel
theorem dX9_looked_21 : decode cX9_looked 21 = .ok (.aload_n 0, 1) := by decide +kernel
theorem dX9_looked_22 : decode cX9_looked 22 = .ok (.getfield 153, 3) := by decide +kernel
theorem dX9_looked_25 : decode cX9_looked 25 = .ok (.iload_n 1, 1) := by decide +kernel
theorem dX9_looked_26 : decode cX9_looked 26 = .ok (.iaload, 1) := by decide +kernel
theorem dX9_looked_27 : decode cX9_looked 27 = .ok (.if_icmp .eq 5, 3) := by decide +kernel
theorem dX9_looked_30 : decode cX9_looked 30 = .ok (.iload_n 1, 1) := by decide +kernel
theorem dX9_looked_31 : decode cX9_looked 31 = .ok (.ireturn, 1) := by decide +kernel
theorem dX9_looked_32 : decode cX9_looked 32 = .ok (.iinc 1 1, 3) := by decide +kernel
theorem dX9_looked_35 : decode cX9_looked 35 = .ok (.goto (-33), 3) := by decide +kernel
theorem dX9_looked_38 : decode cX9_looked 38 = .ok (.bipush (-5), 2) := by decide +kernel
theorem dX9_looked_40 : decode cX9_looked 40 = .ok (.ireturn, 1) := by decide +kernel
theorem dX9_judge_0 : decode cX9_judge 0 = .ok (.aload_n 0, 1) := by decide +kernel
theorem dX9_judge_1 : decode cX9_judge 1 = .ok (.iload_n 1, 1) := by decide +kernel
theorem dX9_judge_2 : decode cX9_judge 2 = .ok (.invokevirtual 414, 3) := by decide +kernel
theorem dX9_judge_5 : decode cX9_judge 5 = .ok (.ifCond .ne 5, 3) := by decide +kernel
theorem dX9_judge_8 : decode cX9_judge 8 = .ok (.iconst (-1), 1) := by decide +kernel
theorem dX9_judge_9 : decode cX9_judge 9 = .ok (.ireturn, 1) := by decide +kernel
theorem dX9_judge_10 : decode cX9_judge 10 = .ok (.aload_n 0, 1) := by decide +kernel
theorem dX9_judge_11 : decode cX9_judge 11 = .ok (.getfield 235, 3) := by decide +kernel
theorem dX9_judge_14 : decode cX9_judge 14 = .ok (.iload_n 1, 1) := by decide +kernel
theorem dX9_judge_15 : decode cX9_judge 15 = .ok (.iaload, 1) := by decide +kernel
theorem dX9_judge_16 : decode cX9_judge 16 = .ok (.ifCond .le 6, 3) := by decide +kernel
theorem dX9_judge_19 : decode cX9_judge 19 = .ok (.bipush (-12), 2) := by decide +kernel
theorem dX9_judge_21 : decode cX9_judge 21 = .ok (.ireturn, 1) := by decide +kernel
theorem dX9_judge_22 : decode cX9_judge 22 = .ok (.iconst 0, 1) := by decide +kernel
theorem dX9_judge_23 : decode cX9_judge 23 = .ok (.istore_n 3, 1) := by decide +kernel
theorem dX9_judge_24 : decode cX9_judge 24 = .ok (.iload_n 3, 1) := by decide +kernel
theorem dX9_judge_25 : decode cX9_judge 25 = .ok (.aload_n 0, 1) := by decide +kernel
theorem dX9_judge_26 : decode cX9_judge 26 = .ok (.getfield 7, 3) := by decide +kernel
theorem dX9_judge_29 : decode cX9_judge 29 = .ok (.if_icmp .ge 67, 3) := by decide +kernel
theorem dX9_judge_32 : decode cX9_judge 32 = .ok (.aload_n 0, 1) := by decide +kernel
theorem dX9_judge_33 : decode cX9_judge 33 = .ok (.getfield 235, 3) := by decide +kernel
theorem dX9_judge_36 : decode cX9_judge 36 = .ok (.iload_n 1, 1) := by decide +kernel
theorem dX9_judge_37 : decode cX9_judge 37 = .ok (.iaload, 1) := by decide +kernel
theorem dX9_judge_38 : decode cX9_judge 38 = .ok (.ifCond .lt 21, 3) := by decide +kernel
theorem dX9_judge_41 : decode cX9_judge 41 = .ok (.iload_n 2, 1) := by decide +kernel
theorem dX9_judge_42 : decode cX9_judge 42 = .ok (.ifCond .lt 17, 3) := by decide +kernel
theorem dX9_judge_45 : decode cX9_judge 45 = .ok (.iload_n 2, 1) := by decide +kernel
theorem dX9_judge_46 : decode cX9_judge 46 = .ok (.aload_n 0, 1) := by decide +kernel
theorem dX9_judge_47 : decode cX9_judge 47 = .ok (.getfield 238, 3) := by decide +kernel
theorem dX9_judge_50 : decode cX9_judge 50 = .ok (.iload_n 1, 1) := by decide +kernel
theorem dX9_judge_51 : decode cX9_judge 51 = .ok (.iaload, 1) := by decide +kernel
theorem dX9_judge_52 : decode cX9_judge 52 = .ok (.iload_n 3, 1) := by decide +kernel
theorem dX9_judge_53 : decode cX9_judge 53 = .ok (.isub, 1) := by decide +kernel
theorem dX9_judge_54 : decode cX9_judge 54 = .ok (.iconst 1, 1) := by decide +kernel
theorem dX9_judge_55 : decode cX9_judge 55 = .ok (.isub, 1) := by decide +kernel
theorem dX9_judge_56 : decode cX9_judge 56 = .ok (.if_icmp .le 8, 3) := by decide +kernel
theorem dX9_judge_59 : decode cX9_judge 59 = .ok (.bipush 100, 2) := by decide +kernel
theorem dX9_judge_61 : decode cX9_judge 61 = .ok (.iload_n 3, 1) := by decide +kernel
theorem dX9_judge_62 : decode cX9_judge 62 = .ok (.iadd, 1) := by decide +kernel
theorem dX9_judge_63 : decode cX9_judge 63 = .ok (.ireturn, 1) := by decide +kernel
theorem dX9_judge_64 : decode cX9_judge 64 = .ok (.aload_n 0, 1) := by decide +kernel
theorem dX9_judge_65 : decode cX9_judge 65 = .ok (.getfield 241, 3) := by decide +kernel
theorem dX9_judge_68 : decode cX9_judge 68 = .ok (.bipush 60, 2) := by decide +kernel
theorem dX9_judge_70 : decode cX9_judge 70 = .ok (.iload_n 1, 1) := by decide +kernel
theorem dX9_judge_71 : decode cX9_judge 71 = .ok (.imul, 1) := by decide +kernel
theorem dX9_judge_72 : decode cX9_judge 72 = .ok (.iload_n 2, 1) := by decide +kernel
theorem dX9_judge_73 : decode cX9_judge 73 = .ok (.iadd, 1) := by decide +kernel
theorem dX9_judge_74 : decode cX9_judge 74 = .ok (.iload_n 3, 1) := by decide +kernel
theorem dX9_judge_75 : decode cX9_judge 75 = .ok (.iadd, 1) := by decide +kernel
theorem dX9_judge_76 : decode cX9_judge 76 = .ok (.laload, 1) := by decide +kernel
theorem dX9_judge_77 : decode cX9_judge 77 = .ok (.aload_n 0, 1) := by decide +kernel
theorem dX9_judge_78 : decode cX9_judge 78 = .ok (.getfield 32, 3) := by decide +kernel
theorem dX9_judge_81 : decode cX9_judge 81 = .ok (.iload_n 3, 1) := by decide +kernel
theorem dX9_judge_82 : decode cX9_judge 82 = .ok (.iaload, 1) := by decide +kernel
theorem dX9_judge_83 : decode cX9_judge 83 = .ok (.i2l, 1) := by decide +kernel
theorem dX9_judge_84 : decode cX9_judge 84 = .ok (.lcmp, 1) := by decide +kernel
theorem dX9_judge_85 : decode cX9_judge 85 = .ok (.ifCond .eq 5, 3) := by decide +kernel
theorem dX9_judge_88 : decode cX9_judge 88 = .ok (.iload_n 3, 1) := by decide +kernel
theorem dX9_judge_89 : decode cX9_judge 89 = .ok (.ireturn, 1) := by decide +kernel
theorem dX9_judge_90 : decode cX9_judge 90 = .ok (.iinc 3 1, 3) := by decide +kernel
theorem dX9_judge_93 : decode cX9_judge 93 = .ok (.goto (-69), 3) := by decide +kernel
theorem dX9_judge_96 : decode cX9_judge 96 = .ok (.bipush (-5), 2) := by decide +kernel
theorem dX9_judge_98 : decode cX9_judge 98 = .ok (.ireturn, 1) := by decide +kernel
theorem dX9_image_0 : decode cX9_image 0 = .ok (.aload_n 0, 1) := by decide +kernel
theorem dX9_image_1 : decode cX9_image 1 = .ok (.iconst 1, 1) := by decide +kernel
theorem dX9_image_2 : decode cX9_image 2 = .ok (.putfield 156, 3) := by decide +kernel
theorem dX9_image_5 : decode cX9_image 5 = .ok (.aload_n 0, 1) := by decide +kernel
theorem dX9_image_6 : decode cX9_image 6 = .ok (.aload_n 0, 1) := by decide +kernel
theorem dX9_image_7 : decode cX9_image 7 = .ok (.getfield 50, 3) := by decide +kernel
theorem dX9_image_10 : decode cX9_image 10 = .ok (.putfield 160, 3) := by decide +kernel
theorem dX9_image_13 : decode cX9_image 13 = .ok (.aload_n 0, 1) := by decide +kernel
theorem dX9_image_14 : decode cX9_image 14 = .ok (.aload_n 0, 1) := by decide +kernel
theorem dX9_image_15 : decode cX9_image 15 = .ok (.getfield 7, 3) := by decide +kernel
theorem dX9_image_18 : decode cX9_image 18 = .ok (.putfield 163, 3) := by decide +kernel
theorem dX9_image_21 : decode cX9_image 21 = .ok (.aload_n 0, 1) := by decide +kernel
theorem dX9_image_22 : decode cX9_image 22 = .ok (.aload_n 0, 1) := by decide +kernel
theorem dX9_image_23 : decode cX9_image 23 = .ok (.getfield 13, 3) := by decide +kernel
theorem dX9_image_26 : decode cX9_image 26 = .ok (.putfield 166, 3) := by decide +kernel
theorem dX9_image_29 : decode cX9_image 29 = .ok (.aload_n 0, 1) := by decide +kernel
theorem dX9_image_30 : decode cX9_image 30 = .ok (.aload_n 0, 1) := by decide +kernel
theorem dX9_image_31 : decode cX9_image 31 = .ok (.getfield 16, 3) := by decide +kernel
theorem dX9_image_34 : decode cX9_image 34 = .ok (.putfield 169, 3) := by decide +kernel
theorem dX9_image_37 : decode cX9_image 37 = .ok (.aload_n 0, 1) := by decide +kernel
theorem dX9_image_38 : decode cX9_image 38 = .ok (.aload_n 0, 1) := by decide +kernel
theorem dX9_image_39 : decode cX9_image 39 = .ok (.getfield 19, 3) := by decide +kernel
theorem dX9_image_42 : decode cX9_image 42 = .ok (.putfield 172, 3) := by decide +kernel
theorem dX9_image_45 : decode cX9_image 45 = .ok (.aload_n 0, 1) := by decide +kernel
theorem dX9_image_46 : decode cX9_image 46 = .ok (.aload_n 0, 1) := by decide +kernel
theorem dX9_image_47 : decode cX9_image 47 = .ok (.getfield 22, 3) := by decide +kernel
theorem dX9_image_50 : decode cX9_image 50 = .ok (.putfield 175, 3) := by decide +kernel
theorem dX9_image_53 : decode cX9_image 53 = .ok (.aload_n 0, 1) := by decide +kernel
theorem dX9_image_54 : decode cX9_image 54 = .ok (.aload_n 0, 1) := by decide +kernel
theorem dX9_image_55 : decode cX9_image 55 = .ok (.getfield 126, 3) := by decide +kernel
theorem dX9_image_58 : decode cX9_image 58 = .ok (.putfield 178, 3) := by decide +kernel
theorem dX9_image_61 : decode cX9_image 61 = .ok (.aload_n 0, 1) := by decide +kernel
theorem dX9_image_62 : decode cX9_image 62 = .ok (.aload_n 0, 1) := by decide +kernel
theorem dX9_image_63 : decode cX9_image 63 = .ok (.getfield 138, 3) := by decide +kernel
theorem dX9_image_66 : decode cX9_image 66 = .ok (.putfield 181, 3) := by decide +kernel
theorem dX9_image_69 : decode cX9_image 69 = .ok (.aload_n 0, 1) := by decide +kernel
theorem dX9_image_70 : decode cX9_image 70 = .ok (.aload_n 0, 1) := by decide +kernel
theorem dX9_image_71 : decode cX9_image 71 = .ok (.getfield 141, 3) := by decide +kernel
theorem dX9_image_74 : decode cX9_image 74 = .ok (.putfield 184, 3) := by decide +kernel
theorem dX9_image_77 : decode cX9_image 77 = .ok (.iconst 0, 1) := by decide +kernel
theorem dX9_image_78 : decode cX9_image 78 = .ok (.istore_n 1, 1) := by decide +kernel
theorem dX9_image_79 : decode cX9_image 79 = .ok (.iload_n 1, 1) := by decide +kernel
theorem dX9_image_80 : decode cX9_image 80 = .ok (.bipush 6, 2) := by decide +kernel
theorem dX9_image_82 : decode cX9_image 82 = .ok (.if_icmp .ge 45, 3) := by decide +kernel
theorem dX9_image_85 : decode cX9_image 85 = .ok (.aload_n 0, 1) := by decide +kernel
theorem dX9_image_86 : decode cX9_image 86 = .ok (.getfield 187, 3) := by decide +kernel
theorem dX9_image_89 : decode cX9_image 89 = .ok (.iload_n 1, 1) := by decide +kernel
theorem dX9_image_90 : decode cX9_image 90 = .ok (.aload_n 0, 1) := by decide +kernel
theorem dX9_image_91 : decode cX9_image 91 = .ok (.getfield 25, 3) := by decide +kernel
theorem dX9_image_94 : decode cX9_image 94 = .ok (.iload_n 1, 1) := by decide +kernel
theorem dX9_image_95 : decode cX9_image 95 = .ok (.iaload, 1) := by decide +kernel
theorem dX9_image_96 : decode cX9_image 96 = .ok (.iastore, 1) := by decide +kernel
theorem dX9_image_97 : decode cX9_image 97 = .ok (.aload_n 0, 1) := by decide +kernel
theorem dX9_image_98 : decode cX9_image 98 = .ok (.getfield 190, 3) := by decide +kernel
theorem dX9_image_101 : decode cX9_image 101 = .ok (.iload_n 1, 1) := by decide +kernel
theorem dX9_image_102 : decode cX9_image 102 = .ok (.aload_n 0, 1) := by decide +kernel
theorem dX9_image_103 : decode cX9_image 103 = .ok (.getfield 29, 3) := by decide +kernel
theorem dX9_image_106 : decode cX9_image 106 = .ok (.iload_n 1, 1) := by decide +kernel
theorem dX9_image_107 : decode cX9_image 107 = .ok (.iaload, 1) := by decide +kernel
theorem dX9_image_108 : decode cX9_image 108 = .ok (.iastore, 1) := by decide +kernel
theorem dX9_image_109 : decode cX9_image 109 = .ok (.aload_n 0, 1) := by decide +kernel
theorem dX9_image_110 : decode cX9_image 110 = .ok (.getfield 193, 3) := by decide +kernel
theorem dX9_image_113 : decode cX9_image 113 = .ok (.iload_n 1, 1) := by decide +kernel
theorem dX9_image_114 : decode cX9_image 114 = .ok (.aload_n 0, 1) := by decide +kernel
theorem dX9_image_115 : decode cX9_image 115 = .ok (.getfield 32, 3) := by decide +kernel
theorem dX9_image_118 : decode cX9_image 118 = .ok (.iload_n 1, 1) := by decide +kernel
theorem dX9_image_119 : decode cX9_image 119 = .ok (.iaload, 1) := by decide +kernel
theorem dX9_image_120 : decode cX9_image 120 = .ok (.iastore, 1) := by decide +kernel
theorem dX9_image_121 : decode cX9_image 121 = .ok (.iinc 1 1, 3) := by decide +kernel
theorem dX9_image_124 : decode cX9_image 124 = .ok (.goto (-45), 3) := by decide +kernel
theorem dX9_image_127 : decode cX9_image 127 = .ok (.iconst 0, 1) := by decide +kernel
theorem dX9_image_128 : decode cX9_image 128 = .ok (.istore_n 1, 1) := by decide +kernel
theorem dX9_image_129 : decode cX9_image 129 = .ok (.iload_n 1, 1) := by decide +kernel
theorem dX9_image_130 : decode cX9_image 130 = .ok (.bipush 24, 2) := by decide +kernel
theorem dX9_image_132 : decode cX9_image 132 = .ok (.if_icmp .ge 21, 3) := by decide +kernel
theorem dX9_image_135 : decode cX9_image 135 = .ok (.aload_n 0, 1) := by decide +kernel
theorem dX9_image_136 : decode cX9_image 136 = .ok (.getfield 196, 3) := by decide +kernel
theorem dX9_image_139 : decode cX9_image 139 = .ok (.iload_n 1, 1) := by decide +kernel
theorem dX9_image_140 : decode cX9_image 140 = .ok (.aload_n 0, 1) := by decide +kernel
theorem dX9_image_141 : decode cX9_image 141 = .ok (.getfield 35, 3) := by decide +kernel
theorem dX9_image_144 : decode cX9_image 144 = .ok (.iload_n 1, 1) := by decide +kernel
theorem dX9_image_145 : decode cX9_image 145 = .ok (.iaload, 1) := by decide +kernel
theorem dX9_image_146 : decode cX9_image 146 = .ok (.iastore, 1) := by decide +kernel
theorem dX9_image_147 : decode cX9_image 147 = .ok (.iinc 1 1, 3) := by decide +kernel
theorem dX9_image_150 : decode cX9_image 150 = .ok (.goto (-21), 3) := by decide +kernel
theorem dX9_image_153 : decode cX9_image 153 = .ok (.iconst 0, 1) := by decide +kernel
theorem dX9_image_154 : decode cX9_image 154 = .ok (.istore_n 1, 1) := by decide +kernel
theorem dX9_image_155 : decode cX9_image 155 = .ok (.iload_n 1, 1) := by decide +kernel
theorem dX9_image_156 : decode cX9_image 156 = .ok (.iconst 4, 1) := by decide +kernel
theorem dX9_image_157 : decode cX9_image 157 = .ok (.if_icmp .ge 45, 3) := by decide +kernel
theorem dX9_image_160 : decode cX9_image 160 = .ok (.aload_n 0, 1) := by decide +kernel
theorem dX9_image_161 : decode cX9_image 161 = .ok (.getfield 199, 3) := by decide +kernel
theorem dX9_image_164 : decode cX9_image 164 = .ok (.iload_n 1, 1) := by decide +kernel
theorem dX9_image_165 : decode cX9_image 165 = .ok (.aload_n 0, 1) := by decide +kernel
theorem dX9_image_166 : decode cX9_image 166 = .ok (.getfield 38, 3) := by decide +kernel
theorem dX9_image_169 : decode cX9_image 169 = .ok (.iload_n 1, 1) := by decide +kernel
theorem dX9_image_170 : decode cX9_image 170 = .ok (.iaload, 1) := by decide +kernel
theorem dX9_image_171 : decode cX9_image 171 = .ok (.iastore, 1) := by decide +kernel
theorem dX9_image_172 : decode cX9_image 172 = .ok (.aload_n 0, 1) := by decide +kernel
theorem dX9_image_173 : decode cX9_image 173 = .ok (.getfield 202, 3) := by decide +kernel
theorem dX9_image_176 : decode cX9_image 176 = .ok (.iload_n 1, 1) := by decide +kernel
theorem dX9_image_177 : decode cX9_image 177 = .ok (.aload_n 0, 1) := by decide +kernel
theorem dX9_image_178 : decode cX9_image 178 = .ok (.getfield 41, 3) := by decide +kernel
theorem dX9_image_181 : decode cX9_image 181 = .ok (.iload_n 1, 1) := by decide +kernel
theorem dX9_image_182 : decode cX9_image 182 = .ok (.iaload, 1) := by decide +kernel
theorem dX9_image_183 : decode cX9_image 183 = .ok (.iastore, 1) := by decide +kernel
theorem dX9_image_184 : decode cX9_image 184 = .ok (.aload_n 0, 1) := by decide +kernel
theorem dX9_image_185 : decode cX9_image 185 = .ok (.getfield 205, 3) := by decide +kernel
theorem dX9_image_188 : decode cX9_image 188 = .ok (.iload_n 1, 1) := by decide +kernel
theorem dX9_image_189 : decode cX9_image 189 = .ok (.aload_n 0, 1) := by decide +kernel
theorem dX9_image_190 : decode cX9_image 190 = .ok (.getfield 44, 3) := by decide +kernel
theorem dX9_image_193 : decode cX9_image 193 = .ok (.iload_n 1, 1) := by decide +kernel
theorem dX9_image_194 : decode cX9_image 194 = .ok (.iaload, 1) := by decide +kernel
theorem dX9_image_195 : decode cX9_image 195 = .ok (.iastore, 1) := by decide +kernel
theorem dX9_image_196 : decode cX9_image 196 = .ok (.iinc 1 1, 3) := by decide +kernel
theorem dX9_image_199 : decode cX9_image 199 = .ok (.goto (-44), 3) := by decide +kernel
theorem dX9_image_202 : decode cX9_image 202 = .ok (.iconst 0, 1) := by decide +kernel
theorem dX9_image_203 : decode cX9_image 203 = .ok (.istore_n 1, 1) := by decide +kernel
theorem dX9_image_204 : decode cX9_image 204 = .ok (.iload_n 1, 1) := by decide +kernel
theorem dX9_image_205 : decode cX9_image 205 = .ok (.iconst 5, 1) := by decide +kernel
theorem dX9_image_206 : decode cX9_image 206 = .ok (.if_icmp .ge 45, 3) := by decide +kernel
theorem dX9_image_209 : decode cX9_image 209 = .ok (.aload_n 0, 1) := by decide +kernel
theorem dX9_image_210 : decode cX9_image 210 = .ok (.getfield 208, 3) := by decide +kernel
theorem dX9_image_213 : decode cX9_image 213 = .ok (.iload_n 1, 1) := by decide +kernel
theorem dX9_image_214 : decode cX9_image 214 = .ok (.aload_n 0, 1) := by decide +kernel
theorem dX9_image_215 : decode cX9_image 215 = .ok (.getfield 129, 3) := by decide +kernel
theorem dX9_image_218 : decode cX9_image 218 = .ok (.iload_n 1, 1) := by decide +kernel
theorem dX9_image_219 : decode cX9_image 219 = .ok (.iaload, 1) := by decide +kernel
theorem dX9_image_220 : decode cX9_image 220 = .ok (.iastore, 1) := by decide +kernel
theorem dX9_image_221 : decode cX9_image 221 = .ok (.aload_n 0, 1) := by decide +kernel
theorem dX9_image_222 : decode cX9_image 222 = .ok (.getfield 211, 3) := by decide +kernel
theorem dX9_image_225 : decode cX9_image 225 = .ok (.iload_n 1, 1) := by decide +kernel
theorem dX9_image_226 : decode cX9_image 226 = .ok (.aload_n 0, 1) := by decide +kernel
theorem dX9_image_227 : decode cX9_image 227 = .ok (.getfield 132, 3) := by decide +kernel
theorem dX9_image_230 : decode cX9_image 230 = .ok (.iload_n 1, 1) := by decide +kernel
theorem dX9_image_231 : decode cX9_image 231 = .ok (.iaload, 1) := by decide +kernel
theorem dX9_image_232 : decode cX9_image 232 = .ok (.iastore, 1) := by decide +kernel
theorem dX9_image_233 : decode cX9_image 233 = .ok (.aload_n 0, 1) := by decide +kernel
theorem dX9_image_234 : decode cX9_image 234 = .ok (.getfield 226, 3) := by decide +kernel
theorem dX9_image_237 : decode cX9_image 237 = .ok (.iload_n 1, 1) := by decide +kernel
theorem dX9_image_238 : decode cX9_image 238 = .ok (.aload_n 0, 1) := by decide +kernel
theorem dX9_image_239 : decode cX9_image 239 = .ok (.getfield 135, 3) := by decide +kernel
theorem dX9_image_242 : decode cX9_image 242 = .ok (.iload_n 1, 1) := by decide +kernel
theorem dX9_image_243 : decode cX9_image 243 = .ok (.baload, 1) := by decide +kernel
theorem dX9_image_244 : decode cX9_image 244 = .ok (.bastore, 1) := by decide +kernel
theorem dX9_image_245 : decode cX9_image 245 = .ok (.iinc 1 1, 3) := by decide +kernel
theorem dX9_image_248 : decode cX9_image 248 = .ok (.goto (-44), 3) := by decide +kernel
theorem dX9_image_251 : decode cX9_image 251 = .ok (.iconst 0, 1) := by decide +kernel
theorem dX9_image_252 : decode cX9_image 252 = .ok (.istore_n 1, 1) := by decide +kernel
theorem dX9_image_253 : decode cX9_image 253 = .ok (.iload_n 1, 1) := by decide +kernel
theorem dX9_image_254 : decode cX9_image 254 = .ok (.bipush 10, 2) := by decide +kernel
theorem dX9_image_256 : decode cX9_image 256 = .ok (.if_icmp .ge 33, 3) := by decide +kernel
theorem dX9_image_259 : decode cX9_image 259 = .ok (.aload_n 0, 1) := by decide +kernel
theorem dX9_image_260 : decode cX9_image 260 = .ok (.getfield 214, 3) := by decide +kernel
theorem dX9_image_263 : decode cX9_image 263 = .ok (.iload_n 1, 1) := by decide +kernel
theorem dX9_image_264 : decode cX9_image 264 = .ok (.aload_n 0, 1) := by decide +kernel
theorem dX9_image_265 : decode cX9_image 265 = .ok (.getfield 144, 3) := by decide +kernel
theorem dX9_image_268 : decode cX9_image 268 = .ok (.iload_n 1, 1) := by decide +kernel
theorem dX9_image_269 : decode cX9_image 269 = .ok (.iaload, 1) := by decide +kernel
theorem dX9_image_270 : decode cX9_image 270 = .ok (.iastore, 1) := by decide +kernel
theorem dX9_image_271 : decode cX9_image 271 = .ok (.aload_n 0, 1) := by decide +kernel
theorem dX9_image_272 : decode cX9_image 272 = .ok (.getfield 217, 3) := by decide +kernel
theorem dX9_image_275 : decode cX9_image 275 = .ok (.iload_n 1, 1) := by decide +kernel
theorem dX9_image_276 : decode cX9_image 276 = .ok (.aload_n 0, 1) := by decide +kernel
theorem dX9_image_277 : decode cX9_image 277 = .ok (.getfield 147, 3) := by decide +kernel
theorem dX9_image_280 : decode cX9_image 280 = .ok (.iload_n 1, 1) := by decide +kernel
theorem dX9_image_281 : decode cX9_image 281 = .ok (.iaload, 1) := by decide +kernel
theorem dX9_image_282 : decode cX9_image 282 = .ok (.iastore, 1) := by decide +kernel
theorem dX9_image_283 : decode cX9_image 283 = .ok (.iinc 1 1, 3) := by decide +kernel
theorem dX9_image_286 : decode cX9_image 286 = .ok (.goto (-33), 3) := by decide +kernel
theorem dX9_image_289 : decode cX9_image 289 = .ok (.iconst 0, 1) := by decide +kernel
theorem dX9_image_290 : decode cX9_image 290 = .ok (.istore_n 1, 1) := by decide +kernel
theorem dX9_image_291 : decode cX9_image 291 = .ok (.iload_n 1, 1) := by decide +kernel
theorem dX9_image_292 : decode cX9_image 292 = .ok (.bipush 8, 2) := by decide +kernel
theorem dX9_image_294 : decode cX9_image 294 = .ok (.if_icmp .ge 33, 3) := by decide +kernel
theorem dX9_image_297 : decode cX9_image 297 = .ok (.aload_n 0, 1) := by decide +kernel
theorem dX9_image_298 : decode cX9_image 298 = .ok (.getfield 220, 3) := by decide +kernel
theorem dX9_image_301 : decode cX9_image 301 = .ok (.iload_n 1, 1) := by decide +kernel
theorem dX9_image_302 : decode cX9_image 302 = .ok (.aload_n 0, 1) := by decide +kernel
theorem dX9_image_303 : decode cX9_image 303 = .ok (.getfield 150, 3) := by decide +kernel
theorem dX9_image_306 : decode cX9_image 306 = .ok (.iload_n 1, 1) := by decide +kernel
theorem dX9_image_307 : decode cX9_image 307 = .ok (.iaload, 1) := by decide +kernel
theorem dX9_image_308 : decode cX9_image 308 = .ok (.iastore, 1) := by decide +kernel
theorem dX9_image_309 : decode cX9_image 309 = .ok (.aload_n 0, 1) := by decide +kernel
theorem dX9_image_310 : decode cX9_image 310 = .ok (.getfield 223, 3) := by decide +kernel
theorem dX9_image_313 : decode cX9_image 313 = .ok (.iload_n 1, 1) := by decide +kernel
theorem dX9_image_314 : decode cX9_image 314 = .ok (.aload_n 0, 1) := by decide +kernel
theorem dX9_image_315 : decode cX9_image 315 = .ok (.getfield 153, 3) := by decide +kernel
theorem dX9_image_318 : decode cX9_image 318 = .ok (.iload_n 1, 1) := by decide +kernel
theorem dX9_image_319 : decode cX9_image 319 = .ok (.iaload, 1) := by decide +kernel
theorem dX9_image_320 : decode cX9_image 320 = .ok (.iastore, 1) := by decide +kernel
theorem dX9_image_321 : decode cX9_image 321 = .ok (.iinc 1 1, 3) := by decide +kernel
theorem dX9_image_324 : decode cX9_image 324 = .ok (.goto (-33), 3) := by decide +kernel
theorem dX9_image_327 : decode cX9_image 327 = .ok (.aload_n 0, 1) := by decide +kernel
theorem dX9_image_328 : decode cX9_image 328 = .ok (.getfield 7, 3) := by decide +kernel
theorem dX9_image_331 : decode cX9_image 331 = .ok (.ireturn, 1) := by decide +kernel
theorem dX9_undo_0 : decode cX9_undo 0 = .ok (.aload_n 0, 1) := by decide +kernel
theorem dX9_undo_1 : decode cX9_undo 1 = .ok (.getfield 156, 3) := by decide +kernel
theorem dX9_undo_4 : decode cX9_undo 4 = .ok (.ifCond .ne 6, 3) := by decide +kernel
theorem dX9_undo_7 : decode cX9_undo 7 = .ok (.bipush (-3), 2) := by decide +kernel
theorem dX9_undo_9 : decode cX9_undo 9 = .ok (.ireturn, 1) := by decide +kernel
theorem dX9_undo_10 : decode cX9_undo 10 = .ok (.aload_n 0, 1) := by decide +kernel
theorem dX9_undo_11 : decode cX9_undo 11 = .ok (.aload_n 0, 1) := by decide +kernel
theorem dX9_undo_12 : decode cX9_undo 12 = .ok (.getfield 160, 3) := by decide +kernel
theorem dX9_undo_15 : decode cX9_undo 15 = .ok (.putfield 50, 3) := by decide +kernel
theorem dX9_undo_18 : decode cX9_undo 18 = .ok (.aload_n 0, 1) := by decide +kernel
theorem dX9_undo_19 : decode cX9_undo 19 = .ok (.aload_n 0, 1) := by decide +kernel
theorem dX9_undo_20 : decode cX9_undo 20 = .ok (.getfield 163, 3) := by decide +kernel
theorem dX9_undo_23 : decode cX9_undo 23 = .ok (.putfield 7, 3) := by decide +kernel
theorem dX9_undo_26 : decode cX9_undo 26 = .ok (.aload_n 0, 1) := by decide +kernel
theorem dX9_undo_27 : decode cX9_undo 27 = .ok (.aload_n 0, 1) := by decide +kernel
theorem dX9_undo_28 : decode cX9_undo 28 = .ok (.getfield 166, 3) := by decide +kernel
theorem dX9_undo_31 : decode cX9_undo 31 = .ok (.putfield 13, 3) := by decide +kernel
theorem dX9_undo_34 : decode cX9_undo 34 = .ok (.aload_n 0, 1) := by decide +kernel
theorem dX9_undo_35 : decode cX9_undo 35 = .ok (.aload_n 0, 1) := by decide +kernel
theorem dX9_undo_36 : decode cX9_undo 36 = .ok (.getfield 169, 3) := by decide +kernel
theorem dX9_undo_39 : decode cX9_undo 39 = .ok (.putfield 16, 3) := by decide +kernel
theorem dX9_undo_42 : decode cX9_undo 42 = .ok (.aload_n 0, 1) := by decide +kernel
theorem dX9_undo_43 : decode cX9_undo 43 = .ok (.aload_n 0, 1) := by decide +kernel
theorem dX9_undo_44 : decode cX9_undo 44 = .ok (.getfield 172, 3) := by decide +kernel
theorem dX9_undo_47 : decode cX9_undo 47 = .ok (.putfield 19, 3) := by decide +kernel
theorem dX9_undo_50 : decode cX9_undo 50 = .ok (.aload_n 0, 1) := by decide +kernel
theorem dX9_undo_51 : decode cX9_undo 51 = .ok (.aload_n 0, 1) := by decide +kernel
theorem dX9_undo_52 : decode cX9_undo 52 = .ok (.getfield 175, 3) := by decide +kernel
theorem dX9_undo_55 : decode cX9_undo 55 = .ok (.putfield 22, 3) := by decide +kernel
theorem dX9_undo_58 : decode cX9_undo 58 = .ok (.aload_n 0, 1) := by decide +kernel
theorem dX9_undo_59 : decode cX9_undo 59 = .ok (.aload_n 0, 1) := by decide +kernel
theorem dX9_undo_60 : decode cX9_undo 60 = .ok (.getfield 178, 3) := by decide +kernel
theorem dX9_undo_63 : decode cX9_undo 63 = .ok (.putfield 126, 3) := by decide +kernel
theorem dX9_undo_66 : decode cX9_undo 66 = .ok (.aload_n 0, 1) := by decide +kernel
theorem dX9_undo_67 : decode cX9_undo 67 = .ok (.aload_n 0, 1) := by decide +kernel
theorem dX9_undo_68 : decode cX9_undo 68 = .ok (.getfield 181, 3) := by decide +kernel
theorem dX9_undo_71 : decode cX9_undo 71 = .ok (.putfield 138, 3) := by decide +kernel
theorem dX9_undo_74 : decode cX9_undo 74 = .ok (.aload_n 0, 1) := by decide +kernel
theorem dX9_undo_75 : decode cX9_undo 75 = .ok (.aload_n 0, 1) := by decide +kernel
theorem dX9_undo_76 : decode cX9_undo 76 = .ok (.getfield 184, 3) := by decide +kernel
theorem dX9_undo_79 : decode cX9_undo 79 = .ok (.putfield 141, 3) := by decide +kernel
theorem dX9_undo_82 : decode cX9_undo 82 = .ok (.iconst 0, 1) := by decide +kernel
theorem dX9_undo_83 : decode cX9_undo 83 = .ok (.istore_n 1, 1) := by decide +kernel
theorem dX9_undo_84 : decode cX9_undo 84 = .ok (.iload_n 1, 1) := by decide +kernel
theorem dX9_undo_85 : decode cX9_undo 85 = .ok (.bipush 6, 2) := by decide +kernel
theorem dX9_undo_87 : decode cX9_undo 87 = .ok (.if_icmp .ge 45, 3) := by decide +kernel
theorem dX9_undo_90 : decode cX9_undo 90 = .ok (.aload_n 0, 1) := by decide +kernel
theorem dX9_undo_91 : decode cX9_undo 91 = .ok (.getfield 25, 3) := by decide +kernel
theorem dX9_undo_94 : decode cX9_undo 94 = .ok (.iload_n 1, 1) := by decide +kernel
theorem dX9_undo_95 : decode cX9_undo 95 = .ok (.aload_n 0, 1) := by decide +kernel
theorem dX9_undo_96 : decode cX9_undo 96 = .ok (.getfield 187, 3) := by decide +kernel
theorem dX9_undo_99 : decode cX9_undo 99 = .ok (.iload_n 1, 1) := by decide +kernel
theorem dX9_undo_100 : decode cX9_undo 100 = .ok (.iaload, 1) := by decide +kernel
theorem dX9_undo_101 : decode cX9_undo 101 = .ok (.iastore, 1) := by decide +kernel
theorem dX9_undo_102 : decode cX9_undo 102 = .ok (.aload_n 0, 1) := by decide +kernel
theorem dX9_undo_103 : decode cX9_undo 103 = .ok (.getfield 29, 3) := by decide +kernel
theorem dX9_undo_106 : decode cX9_undo 106 = .ok (.iload_n 1, 1) := by decide +kernel
theorem dX9_undo_107 : decode cX9_undo 107 = .ok (.aload_n 0, 1) := by decide +kernel
theorem dX9_undo_108 : decode cX9_undo 108 = .ok (.getfield 190, 3) := by decide +kernel
theorem dX9_undo_111 : decode cX9_undo 111 = .ok (.iload_n 1, 1) := by decide +kernel
theorem dX9_undo_112 : decode cX9_undo 112 = .ok (.iaload, 1) := by decide +kernel
theorem dX9_undo_113 : decode cX9_undo 113 = .ok (.iastore, 1) := by decide +kernel
theorem dX9_undo_114 : decode cX9_undo 114 = .ok (.aload_n 0, 1) := by decide +kernel
theorem dX9_undo_115 : decode cX9_undo 115 = .ok (.getfield 32, 3) := by decide +kernel
theorem dX9_undo_118 : decode cX9_undo 118 = .ok (.iload_n 1, 1) := by decide +kernel
theorem dX9_undo_119 : decode cX9_undo 119 = .ok (.aload_n 0, 1) := by decide +kernel
theorem dX9_undo_120 : decode cX9_undo 120 = .ok (.getfield 193, 3) := by decide +kernel
theorem dX9_undo_123 : decode cX9_undo 123 = .ok (.iload_n 1, 1) := by decide +kernel
theorem dX9_undo_124 : decode cX9_undo 124 = .ok (.iaload, 1) := by decide +kernel
theorem dX9_undo_125 : decode cX9_undo 125 = .ok (.iastore, 1) := by decide +kernel
theorem dX9_undo_126 : decode cX9_undo 126 = .ok (.iinc 1 1, 3) := by decide +kernel
theorem dX9_undo_129 : decode cX9_undo 129 = .ok (.goto (-45), 3) := by decide +kernel
theorem dX9_undo_132 : decode cX9_undo 132 = .ok (.iconst 0, 1) := by decide +kernel
theorem dX9_undo_133 : decode cX9_undo 133 = .ok (.istore_n 1, 1) := by decide +kernel
theorem dX9_undo_134 : decode cX9_undo 134 = .ok (.iload_n 1, 1) := by decide +kernel
theorem dX9_undo_135 : decode cX9_undo 135 = .ok (.bipush 24, 2) := by decide +kernel
theorem dX9_undo_137 : decode cX9_undo 137 = .ok (.if_icmp .ge 21, 3) := by decide +kernel
theorem dX9_undo_140 : decode cX9_undo 140 = .ok (.aload_n 0, 1) := by decide +kernel
theorem dX9_undo_141 : decode cX9_undo 141 = .ok (.getfield 35, 3) := by decide +kernel
theorem dX9_undo_144 : decode cX9_undo 144 = .ok (.iload_n 1, 1) := by decide +kernel
theorem dX9_undo_145 : decode cX9_undo 145 = .ok (.aload_n 0, 1) := by decide +kernel
theorem dX9_undo_146 : decode cX9_undo 146 = .ok (.getfield 196, 3) := by decide +kernel
theorem dX9_undo_149 : decode cX9_undo 149 = .ok (.iload_n 1, 1) := by decide +kernel
theorem dX9_undo_150 : decode cX9_undo 150 = .ok (.iaload, 1) := by decide +kernel
theorem dX9_undo_151 : decode cX9_undo 151 = .ok (.iastore, 1) := by decide +kernel
theorem dX9_undo_152 : decode cX9_undo 152 = .ok (.iinc 1 1, 3) := by decide +kernel
theorem dX9_undo_155 : decode cX9_undo 155 = .ok (.goto (-21), 3) := by decide +kernel
theorem dX9_undo_158 : decode cX9_undo 158 = .ok (.iconst 0, 1) := by decide +kernel
theorem dX9_undo_159 : decode cX9_undo 159 = .ok (.istore_n 1, 1) := by decide +kernel
theorem dX9_undo_160 : decode cX9_undo 160 = .ok (.iload_n 1, 1) := by decide +kernel
theorem dX9_undo_161 : decode cX9_undo 161 = .ok (.iconst 4, 1) := by decide +kernel
theorem dX9_undo_162 : decode cX9_undo 162 = .ok (.if_icmp .ge 45, 3) := by decide +kernel
theorem dX9_undo_165 : decode cX9_undo 165 = .ok (.aload_n 0, 1) := by decide +kernel
theorem dX9_undo_166 : decode cX9_undo 166 = .ok (.getfield 38, 3) := by decide +kernel
theorem dX9_undo_169 : decode cX9_undo 169 = .ok (.iload_n 1, 1) := by decide +kernel
theorem dX9_undo_170 : decode cX9_undo 170 = .ok (.aload_n 0, 1) := by decide +kernel
theorem dX9_undo_171 : decode cX9_undo 171 = .ok (.getfield 199, 3) := by decide +kernel
theorem dX9_undo_174 : decode cX9_undo 174 = .ok (.iload_n 1, 1) := by decide +kernel
theorem dX9_undo_175 : decode cX9_undo 175 = .ok (.iaload, 1) := by decide +kernel
theorem dX9_undo_176 : decode cX9_undo 176 = .ok (.iastore, 1) := by decide +kernel
theorem dX9_undo_177 : decode cX9_undo 177 = .ok (.aload_n 0, 1) := by decide +kernel
theorem dX9_undo_178 : decode cX9_undo 178 = .ok (.getfield 41, 3) := by decide +kernel
theorem dX9_undo_181 : decode cX9_undo 181 = .ok (.iload_n 1, 1) := by decide +kernel
theorem dX9_undo_182 : decode cX9_undo 182 = .ok (.aload_n 0, 1) := by decide +kernel
theorem dX9_undo_183 : decode cX9_undo 183 = .ok (.getfield 202, 3) := by decide +kernel
theorem dX9_undo_186 : decode cX9_undo 186 = .ok (.iload_n 1, 1) := by decide +kernel
theorem dX9_undo_187 : decode cX9_undo 187 = .ok (.iaload, 1) := by decide +kernel
theorem dX9_undo_188 : decode cX9_undo 188 = .ok (.iastore, 1) := by decide +kernel
theorem dX9_undo_189 : decode cX9_undo 189 = .ok (.aload_n 0, 1) := by decide +kernel
theorem dX9_undo_190 : decode cX9_undo 190 = .ok (.getfield 44, 3) := by decide +kernel
theorem dX9_undo_193 : decode cX9_undo 193 = .ok (.iload_n 1, 1) := by decide +kernel
theorem dX9_undo_194 : decode cX9_undo 194 = .ok (.aload_n 0, 1) := by decide +kernel
theorem dX9_undo_195 : decode cX9_undo 195 = .ok (.getfield 205, 3) := by decide +kernel
theorem dX9_undo_198 : decode cX9_undo 198 = .ok (.iload_n 1, 1) := by decide +kernel
theorem dX9_undo_199 : decode cX9_undo 199 = .ok (.iaload, 1) := by decide +kernel
theorem dX9_undo_200 : decode cX9_undo 200 = .ok (.iastore, 1) := by decide +kernel
theorem dX9_undo_201 : decode cX9_undo 201 = .ok (.iinc 1 1, 3) := by decide +kernel
theorem dX9_undo_204 : decode cX9_undo 204 = .ok (.goto (-44), 3) := by decide +kernel
theorem dX9_undo_207 : decode cX9_undo 207 = .ok (.iconst 0, 1) := by decide +kernel
theorem dX9_undo_208 : decode cX9_undo 208 = .ok (.istore_n 1, 1) := by decide +kernel
theorem dX9_undo_209 : decode cX9_undo 209 = .ok (.iload_n 1, 1) := by decide +kernel
theorem dX9_undo_210 : decode cX9_undo 210 = .ok (.iconst 5, 1) := by decide +kernel
theorem dX9_undo_211 : decode cX9_undo 211 = .ok (.if_icmp .ge 45, 3) := by decide +kernel
theorem dX9_undo_214 : decode cX9_undo 214 = .ok (.aload_n 0, 1) := by decide +kernel
theorem dX9_undo_215 : decode cX9_undo 215 = .ok (.getfield 129, 3) := by decide +kernel
theorem dX9_undo_218 : decode cX9_undo 218 = .ok (.iload_n 1, 1) := by decide +kernel
theorem dX9_undo_219 : decode cX9_undo 219 = .ok (.aload_n 0, 1) := by decide +kernel
theorem dX9_undo_220 : decode cX9_undo 220 = .ok (.getfield 208, 3) := by decide +kernel
theorem dX9_undo_223 : decode cX9_undo 223 = .ok (.iload_n 1, 1) := by decide +kernel
theorem dX9_undo_224 : decode cX9_undo 224 = .ok (.iaload, 1) := by decide +kernel
theorem dX9_undo_225 : decode cX9_undo 225 = .ok (.iastore, 1) := by decide +kernel
theorem dX9_undo_226 : decode cX9_undo 226 = .ok (.aload_n 0, 1) := by decide +kernel
theorem dX9_undo_227 : decode cX9_undo 227 = .ok (.getfield 132, 3) := by decide +kernel
theorem dX9_undo_230 : decode cX9_undo 230 = .ok (.iload_n 1, 1) := by decide +kernel
theorem dX9_undo_231 : decode cX9_undo 231 = .ok (.aload_n 0, 1) := by decide +kernel
theorem dX9_undo_232 : decode cX9_undo 232 = .ok (.getfield 211, 3) := by decide +kernel
theorem dX9_undo_235 : decode cX9_undo 235 = .ok (.iload_n 1, 1) := by decide +kernel
theorem dX9_undo_236 : decode cX9_undo 236 = .ok (.iaload, 1) := by decide +kernel
theorem dX9_undo_237 : decode cX9_undo 237 = .ok (.iastore, 1) := by decide +kernel
theorem dX9_undo_238 : decode cX9_undo 238 = .ok (.aload_n 0, 1) := by decide +kernel
theorem dX9_undo_239 : decode cX9_undo 239 = .ok (.getfield 135, 3) := by decide +kernel
theorem dX9_undo_242 : decode cX9_undo 242 = .ok (.iload_n 1, 1) := by decide +kernel
theorem dX9_undo_243 : decode cX9_undo 243 = .ok (.aload_n 0, 1) := by decide +kernel
theorem dX9_undo_244 : decode cX9_undo 244 = .ok (.getfield 226, 3) := by decide +kernel
theorem dX9_undo_247 : decode cX9_undo 247 = .ok (.iload_n 1, 1) := by decide +kernel
theorem dX9_undo_248 : decode cX9_undo 248 = .ok (.baload, 1) := by decide +kernel
theorem dX9_undo_249 : decode cX9_undo 249 = .ok (.bastore, 1) := by decide +kernel
theorem dX9_undo_250 : decode cX9_undo 250 = .ok (.iinc 1 1, 3) := by decide +kernel
theorem dX9_undo_253 : decode cX9_undo 253 = .ok (.goto (-44), 3) := by decide +kernel
theorem dX9_undo_256 : decode cX9_undo 256 = .ok (.iconst 0, 1) := by decide +kernel
theorem dX9_undo_257 : decode cX9_undo 257 = .ok (.istore_n 1, 1) := by decide +kernel
theorem dX9_undo_258 : decode cX9_undo 258 = .ok (.iload_n 1, 1) := by decide +kernel
theorem dX9_undo_259 : decode cX9_undo 259 = .ok (.bipush 10, 2) := by decide +kernel
theorem dX9_undo_261 : decode cX9_undo 261 = .ok (.if_icmp .ge 33, 3) := by decide +kernel
theorem dX9_undo_264 : decode cX9_undo 264 = .ok (.aload_n 0, 1) := by decide +kernel
theorem dX9_undo_265 : decode cX9_undo 265 = .ok (.getfield 144, 3) := by decide +kernel
theorem dX9_undo_268 : decode cX9_undo 268 = .ok (.iload_n 1, 1) := by decide +kernel
theorem dX9_undo_269 : decode cX9_undo 269 = .ok (.aload_n 0, 1) := by decide +kernel
theorem dX9_undo_270 : decode cX9_undo 270 = .ok (.getfield 214, 3) := by decide +kernel
theorem dX9_undo_273 : decode cX9_undo 273 = .ok (.iload_n 1, 1) := by decide +kernel
theorem dX9_undo_274 : decode cX9_undo 274 = .ok (.iaload, 1) := by decide +kernel
theorem dX9_undo_275 : decode cX9_undo 275 = .ok (.iastore, 1) := by decide +kernel
theorem dX9_undo_276 : decode cX9_undo 276 = .ok (.aload_n 0, 1) := by decide +kernel
theorem dX9_undo_277 : decode cX9_undo 277 = .ok (.getfield 147, 3) := by decide +kernel
theorem dX9_undo_280 : decode cX9_undo 280 = .ok (.iload_n 1, 1) := by decide +kernel
theorem dX9_undo_281 : decode cX9_undo 281 = .ok (.aload_n 0, 1) := by decide +kernel
theorem dX9_undo_282 : decode cX9_undo 282 = .ok (.getfield 217, 3) := by decide +kernel
theorem dX9_undo_285 : decode cX9_undo 285 = .ok (.iload_n 1, 1) := by decide +kernel
theorem dX9_undo_286 : decode cX9_undo 286 = .ok (.iaload, 1) := by decide +kernel
theorem dX9_undo_287 : decode cX9_undo 287 = .ok (.iastore, 1) := by decide +kernel
theorem dX9_undo_288 : decode cX9_undo 288 = .ok (.iinc 1 1, 3) := by decide +kernel
theorem dX9_undo_291 : decode cX9_undo 291 = .ok (.goto (-33), 3) := by decide +kernel
theorem dX9_undo_294 : decode cX9_undo 294 = .ok (.iconst 0, 1) := by decide +kernel
theorem dX9_undo_295 : decode cX9_undo 295 = .ok (.istore_n 1, 1) := by decide +kernel
theorem dX9_undo_296 : decode cX9_undo 296 = .ok (.iload_n 1, 1) := by decide +kernel
theorem dX9_undo_297 : decode cX9_undo 297 = .ok (.bipush 8, 2) := by decide +kernel
theorem dX9_undo_299 : decode cX9_undo 299 = .ok (.if_icmp .ge 33, 3) := by decide +kernel
theorem dX9_undo_302 : decode cX9_undo 302 = .ok (.aload_n 0, 1) := by decide +kernel
theorem dX9_undo_303 : decode cX9_undo 303 = .ok (.getfield 150, 3) := by decide +kernel
theorem dX9_undo_306 : decode cX9_undo 306 = .ok (.iload_n 1, 1) := by decide +kernel
theorem dX9_undo_307 : decode cX9_undo 307 = .ok (.aload_n 0, 1) := by decide +kernel
theorem dX9_undo_308 : decode cX9_undo 308 = .ok (.getfield 220, 3) := by decide +kernel
theorem dX9_undo_311 : decode cX9_undo 311 = .ok (.iload_n 1, 1) := by decide +kernel
theorem dX9_undo_312 : decode cX9_undo 312 = .ok (.iaload, 1) := by decide +kernel
theorem dX9_undo_313 : decode cX9_undo 313 = .ok (.iastore, 1) := by decide +kernel
theorem dX9_undo_314 : decode cX9_undo 314 = .ok (.aload_n 0, 1) := by decide +kernel
theorem dX9_undo_315 : decode cX9_undo 315 = .ok (.getfield 153, 3) := by decide +kernel
theorem dX9_undo_318 : decode cX9_undo 318 = .ok (.iload_n 1, 1) := by decide +kernel
theorem dX9_undo_319 : decode cX9_undo 319 = .ok (.aload_n 0, 1) := by decide +kernel
theorem dX9_undo_320 : decode cX9_undo 320 = .ok (.getfield 223, 3) := by decide +kernel
theorem dX9_undo_323 : decode cX9_undo 323 = .ok (.iload_n 1, 1) := by decide +kernel
theorem dX9_undo_324 : decode cX9_undo 324 = .ok (.iaload, 1) := by decide +kernel
theorem dX9_undo_325 : decode cX9_undo 325 = .ok (.iastore, 1) := by decide +kernel
theorem dX9_undo_326 : decode cX9_undo 326 = .ok (.iinc 1 1, 3) := by decide +kernel
theorem dX9_undo_329 : decode cX9_undo 329 = .ok (.goto (-33), 3) := by decide +kernel
theorem dX9_undo_332 : decode cX9_undo 332 = .ok (.aload_n 0, 1) := by decide +kernel
theorem dX9_undo_333 : decode cX9_undo 333 = .ok (.getfield 7, 3) := by decide +kernel
theorem dX9_undo_336 : decode cX9_undo 336 = .ok (.ireturn, 1) := by decide +kernel
theorem dX9_body_0 : decode cX9_body 0 = .ok (.aload_n 0, 1) := by decide +kernel
theorem dX9_body_1 : decode cX9_body 1 = .ok (.getfield 229, 3) := by decide +kernel
theorem dX9_body_4 : decode cX9_body 4 = .ok (.bipush 20, 2) := by decide +kernel
theorem dX9_body_6 : decode cX9_body 6 = .ok (.if_icmp .ge 13, 3) := by decide +kernel
theorem dX9_body_9 : decode cX9_body 9 = .ok (.aload_n 0, 1) := by decide +kernel
theorem dX9_body_10 : decode cX9_body 10 = .ok (.getfield 232, 3) := by decide +kernel
theorem dX9_body_13 : decode cX9_body 13 = .ok (.aload_n 0, 1) := by decide +kernel
theorem dX9_body_14 : decode cX9_body 14 = .ok (.getfield 229, 3) := by decide +kernel
theorem dX9_body_17 : decode cX9_body 17 = .ok (.iload_n 1, 1) := by decide +kernel
theorem dX9_body_18 : decode cX9_body 18 = .ok (.iastore, 1) := by decide +kernel
theorem dX9_body_19 : decode cX9_body 19 = .ok (.aload_n 0, 1) := by decide +kernel
theorem dX9_body_20 : decode cX9_body 20 = .ok (.dup, 1) := by decide +kernel
theorem dX9_body_21 : decode cX9_body 21 = .ok (.getfield 229, 3) := by decide +kernel
theorem dX9_body_24 : decode cX9_body 24 = .ok (.iconst 1, 1) := by decide +kernel
theorem dX9_body_25 : decode cX9_body 25 = .ok (.iadd, 1) := by decide +kernel
theorem dX9_body_26 : decode cX9_body 26 = .ok (.putfield 229, 3) := by decide +kernel
theorem dX9_body_29 : decode cX9_body 29 = .ok (.return_, 1) := by decide +kernel
theorem dX9_oneGlows_0 : decode cX9_oneGlows 0 = .ok (.aload_n 0, 1) := by decide +kernel
theorem dX9_oneGlows_1 : decode cX9_oneGlows 1 = .ok (.bipush 10, 2) := by decide +kernel
theorem dX9_oneGlows_3 : decode cX9_oneGlows 3 = .ok (.invokevirtual 417, 3) := by decide +kernel
theorem dX9_oneGlows_6 : decode cX9_oneGlows 6 = .ok (.iload_n 2, 1) := by decide +kernel
theorem dX9_oneGlows_7 : decode cX9_oneGlows 7 = .ok (.iload_n 1, 1) := by decide +kernel
theorem dX9_oneGlows_8 : decode cX9_oneGlows 8 = .ok (.iadd, 1) := by decide +kernel
theorem dX9_oneGlows_9 : decode cX9_oneGlows 9 = .ok (.ireturn, 1) := by decide +kernel
theorem dX9_glowsAct_0 : decode cX9_glowsAct 0 = .ok (.aload_n 0, 1) := by decide +kernel
theorem dX9_glowsAct_1 : decode cX9_glowsAct 1 = .ok (.getfield 25, 3) := by decide +kernel
theorem dX9_glowsAct_4 : decode cX9_glowsAct 4 = .ok (.iload_n 1, 1) := by decide +kernel
theorem dX9_glowsAct_5 : decode cX9_glowsAct 5 = .ok (.iaload, 1) := by decide +kernel
theorem dX9_glowsAct_6 : decode cX9_glowsAct 6 = .ok (.tableswitch 83 2 6 #[34, 83, 49, 34, 63], 34) := by decide +kernel
theorem dX9_glowsAct_40 : decode cX9_glowsAct 40 = .ok (.aload_n 0, 1) := by decide +kernel
theorem dX9_glowsAct_41 : decode cX9_glowsAct 41 = .ok (.bipush 30, 2) := by decide +kernel
theorem dX9_glowsAct_43 : decode cX9_glowsAct 43 = .ok (.invokevirtual 417, 3) := by decide +kernel
theorem dX9_glowsAct_46 : decode cX9_glowsAct 46 = .ok (.aload_n 0, 1) := by decide +kernel
theorem dX9_glowsAct_47 : decode cX9_glowsAct 47 = .ok (.iload_n 1, 1) := by decide +kernel
theorem dX9_glowsAct_48 : decode cX9_glowsAct 48 = .ok (.iload_n 2, 1) := by decide +kernel
theorem dX9_glowsAct_49 : decode cX9_glowsAct 49 = .ok (.iconst 3, 1) := by decide +kernel
theorem dX9_glowsAct_50 : decode cX9_glowsAct 50 = .ok (.imul, 1) := by decide +kernel
theorem dX9_glowsAct_51 : decode cX9_glowsAct 51 = .ok (.invokevirtual 420, 3) := by decide +kernel
theorem dX9_glowsAct_54 : decode cX9_glowsAct 54 = .ok (.ireturn, 1) := by decide +kernel
theorem dX9_glowsAct_55 : decode cX9_glowsAct 55 = .ok (.aload_n 0, 1) := by decide +kernel
theorem dX9_glowsAct_56 : decode cX9_glowsAct 56 = .ok (.bipush 50, 2) := by decide +kernel
theorem dX9_glowsAct_58 : decode cX9_glowsAct 58 = .ok (.invokevirtual 417, 3) := by decide +kernel
theorem dX9_glowsAct_61 : decode cX9_glowsAct 61 = .ok (.aload_n 0, 1) := by decide +kernel
theorem dX9_glowsAct_62 : decode cX9_glowsAct 62 = .ok (.iload_n 1, 1) := by decide +kernel
theorem dX9_glowsAct_63 : decode cX9_glowsAct 63 = .ok (.iload_n 2, 1) := by decide +kernel
theorem dX9_glowsAct_64 : decode cX9_glowsAct 64 = .ok (.invokevirtual 420, 3) := by decide +kernel
theorem dX9_glowsAct_67 : decode cX9_glowsAct 67 = .ok (.ineg, 1) := by decide +kernel
theorem dX9_glowsAct_68 : decode cX9_glowsAct 68 = .ok (.ireturn, 1) := by decide +kernel
theorem dX9_glowsAct_69 : decode cX9_glowsAct 69 = .ok (.aload_n 0, 1) := by decide +kernel
theorem dX9_glowsAct_70 : decode cX9_glowsAct 70 = .ok (.bipush 71, 2) := by decide +kernel
theorem dX9_glowsAct_72 : decode cX9_glowsAct 72 = .ok (.invokevirtual 417, 3) := by decide +kernel
theorem dX9_glowsAct_75 : decode cX9_glowsAct 75 = .ok (.aload_n 0, 1) := by decide +kernel
theorem dX9_glowsAct_76 : decode cX9_glowsAct 76 = .ok (.iload_n 1, 1) := by decide +kernel
theorem dX9_glowsAct_77 : decode cX9_glowsAct 77 = .ok (.iload_n 2, 1) := by decide +kernel
theorem dX9_glowsAct_78 : decode cX9_glowsAct 78 = .ok (.invokevirtual 420, 3) := by decide +kernel
theorem dX9_glowsAct_81 : decode cX9_glowsAct 81 = .ok (.aload_n 0, 1) := by decide +kernel
theorem dX9_glowsAct_82 : decode cX9_glowsAct 82 = .ok (.getfield 29, 3) := by decide +kernel
theorem dX9_glowsAct_85 : decode cX9_glowsAct 85 = .ok (.iload_n 1, 1) := by decide +kernel
theorem dX9_glowsAct_86 : decode cX9_glowsAct 86 = .ok (.iaload, 1) := by decide +kernel
theorem dX9_glowsAct_87 : decode cX9_glowsAct 87 = .ok (.ixor, 1) := by decide +kernel
theorem dX9_glowsAct_88 : decode cX9_glowsAct 88 = .ok (.ireturn, 1) := by decide +kernel
theorem dX9_glowsAct_89 : decode cX9_glowsAct 89 = .ok (.aload_n 0, 1) := by decide +kernel
theorem dX9_glowsAct_90 : decode cX9_glowsAct 90 = .ok (.iload_n 1, 1) := by decide +kernel
theorem dX9_glowsAct_91 : decode cX9_glowsAct 91 = .ok (.iload_n 2, 1) := by decide +kernel
theorem dX9_glowsAct_92 : decode cX9_glowsAct 92 = .ok (.invokevirtual 420, 3) := by decide +kernel
theorem dX9_glowsAct_95 : decode cX9_glowsAct 95 = .ok (.ireturn, 1) := by decide +kernel
theorem dX9_oneRings_0 : decode cX9_oneRings 0 = .ok (.aload_n 0, 1) := by decide +kernel
theorem dX9_oneRings_1 : decode cX9_oneRings 1 = .ok (.bipush 11, 2) := by decide +kernel
theorem dX9_oneRings_3 : decode cX9_oneRings 3 = .ok (.invokevirtual 417, 3) := by decide +kernel
theorem dX9_oneRings_6 : decode cX9_oneRings 6 = .ok (.aload_n 0, 1) := by decide +kernel
theorem dX9_oneRings_7 : decode cX9_oneRings 7 = .ok (.iload_n 1, 1) := by decide +kernel
theorem dX9_oneRings_8 : decode cX9_oneRings 8 = .ok (.iload_n 2, 1) := by decide +kernel
theorem dX9_oneRings_9 : decode cX9_oneRings 9 = .ok (.invokevirtual 423, 3) := by decide +kernel
theorem dX9_oneRings_12 : decode cX9_oneRings 12 = .ok (.aload_n 0, 1) := by decide +kernel
theorem dX9_oneRings_13 : decode cX9_oneRings 13 = .ok (.getfield 29, 3) := by decide +kernel
theorem dX9_oneRings_16 : decode cX9_oneRings 16 = .ok (.iload_n 1, 1) := by decide +kernel
theorem dX9_oneRings_17 : decode cX9_oneRings 17 = .ok (.iaload, 1) := by decide +kernel
theorem dX9_oneRings_18 : decode cX9_oneRings 18 = .ok (.isub, 1) := by decide +kernel
theorem dX9_oneRings_19 : decode cX9_oneRings 19 = .ok (.ireturn, 1) := by decide +kernel
theorem dX9_bankerRings_0 : decode cX9_bankerRings 0 = .ok (.aload_n 0, 1) := by decide +kernel
theorem dX9_bankerRings_1 : decode cX9_bankerRings 1 = .ok (.bipush 20, 2) := by decide +kernel
theorem dX9_bankerRings_3 : decode cX9_bankerRings 3 = .ok (.invokevirtual 417, 3) := by decide +kernel
theorem dX9_bankerRings_6 : decode cX9_bankerRings 6 = .ok (.aload_n 0, 1) := by decide +kernel
theorem dX9_bankerRings_7 : decode cX9_bankerRings 7 = .ok (.iload_n 1, 1) := by decide +kernel
theorem dX9_bankerRings_8 : decode cX9_bankerRings 8 = .ok (.iload_n 2, 1) := by decide +kernel
theorem dX9_bankerRings_9 : decode cX9_bankerRings 9 = .ok (.invokevirtual 426, 3) := by decide +kernel
theorem dX9_bankerRings_12 : decode cX9_bankerRings 12 = .ok (.bipush 6, 2) := by decide +kernel
theorem dX9_bankerRings_14 : decode cX9_bankerRings 14 = .ok (.ixor, 1) := by decide +kernel
theorem dX9_bankerRings_15 : decode cX9_bankerRings 15 = .ok (.ireturn, 1) := by decide +kernel
theorem dX9_ringsAct_0 : decode cX9_ringsAct 0 = .ok (.aload_n 0, 1) := by decide +kernel
theorem dX9_ringsAct_1 : decode cX9_ringsAct 1 = .ok (.getfield 25, 3) := by decide +kernel
theorem dX9_ringsAct_4 : decode cX9_ringsAct 4 = .ok (.iload_n 1, 1) := by decide +kernel
theorem dX9_ringsAct_5 : decode cX9_ringsAct 5 = .ok (.iaload, 1) := by decide +kernel
theorem dX9_ringsAct_6 : decode cX9_ringsAct 6 = .ok (.lookupswitch 78 #[(1, 34), (4, 41), (6, 56)], 34) := by decide +kernel
theorem dX9_ringsAct_40 : decode cX9_ringsAct 40 = .ok (.aload_n 0, 1) := by decide +kernel
theorem dX9_ringsAct_41 : decode cX9_ringsAct 41 = .ok (.iload_n 1, 1) := by decide +kernel
theorem dX9_ringsAct_42 : decode cX9_ringsAct 42 = .ok (.iload_n 2, 1) := by decide +kernel
theorem dX9_ringsAct_43 : decode cX9_ringsAct 43 = .ok (.invokevirtual 429, 3) := by decide +kernel
theorem dX9_ringsAct_46 : decode cX9_ringsAct 46 = .ok (.ireturn, 1) := by decide +kernel
theorem dX9_ringsAct_47 : decode cX9_ringsAct 47 = .ok (.aload_n 0, 1) := by decide +kernel
theorem dX9_ringsAct_48 : decode cX9_ringsAct 48 = .ok (.bipush 51, 2) := by decide +kernel
theorem dX9_ringsAct_50 : decode cX9_ringsAct 50 = .ok (.invokevirtual 417, 3) := by decide +kernel
theorem dX9_ringsAct_53 : decode cX9_ringsAct 53 = .ok (.aload_n 0, 1) := by decide +kernel
theorem dX9_ringsAct_54 : decode cX9_ringsAct 54 = .ok (.iload_n 1, 1) := by decide +kernel
theorem dX9_ringsAct_55 : decode cX9_ringsAct 55 = .ok (.iload_n 2, 1) := by decide +kernel
theorem dX9_ringsAct_56 : decode cX9_ringsAct 56 = .ok (.iconst 1, 1) := by decide +kernel
theorem dX9_ringsAct_57 : decode cX9_ringsAct 57 = .ok (.iadd, 1) := by decide +kernel
theorem dX9_ringsAct_58 : decode cX9_ringsAct 58 = .ok (.invokevirtual 429, 3) := by decide +kernel
theorem dX9_ringsAct_61 : decode cX9_ringsAct 61 = .ok (.ireturn, 1) := by decide +kernel
theorem dX9_ringsAct_62 : decode cX9_ringsAct 62 = .ok (.aload_n 0, 1) := by decide +kernel
theorem dX9_ringsAct_63 : decode cX9_ringsAct 63 = .ok (.bipush 70, 2) := by decide +kernel
theorem dX9_ringsAct_65 : decode cX9_ringsAct 65 = .ok (.invokevirtual 417, 3) := by decide +kernel
theorem dX9_ringsAct_68 : decode cX9_ringsAct 68 = .ok (.aload_n 0, 1) := by decide +kernel
theorem dX9_ringsAct_69 : decode cX9_ringsAct 69 = .ok (.iload_n 1, 1) := by decide +kernel
theorem dX9_ringsAct_70 : decode cX9_ringsAct 70 = .ok (.iload_n 2, 1) := by decide +kernel
theorem dX9_ringsAct_71 : decode cX9_ringsAct 71 = .ok (.invokevirtual 426, 3) := by decide +kernel
theorem dX9_ringsAct_74 : decode cX9_ringsAct 74 = .ok (.istore_n 3, 1) := by decide +kernel
theorem dX9_ringsAct_75 : decode cX9_ringsAct 75 = .ok (.iload_n 3, 1) := by decide +kernel
theorem dX9_ringsAct_76 : decode cX9_ringsAct 76 = .ok (.aload_n 0, 1) := by decide +kernel
theorem dX9_ringsAct_77 : decode cX9_ringsAct 77 = .ok (.iload_n 1, 1) := by decide +kernel
theorem dX9_ringsAct_78 : decode cX9_ringsAct 78 = .ok (.iconst 2, 1) := by decide +kernel
theorem dX9_ringsAct_79 : decode cX9_ringsAct 79 = .ok (.invokevirtual 420, 3) := by decide +kernel
theorem dX9_ringsAct_82 : decode cX9_ringsAct 82 = .ok (.iadd, 1) := by decide +kernel
theorem dX9_ringsAct_83 : decode cX9_ringsAct 83 = .ok (.ireturn, 1) := by decide +kernel
theorem dX9_ringsAct_84 : decode cX9_ringsAct 84 = .ok (.aload_n 0, 1) := by decide +kernel
theorem dX9_ringsAct_85 : decode cX9_ringsAct 85 = .ok (.iload_n 1, 1) := by decide +kernel
theorem dX9_ringsAct_86 : decode cX9_ringsAct 86 = .ok (.iload_n 2, 1) := by decide +kernel
theorem dX9_ringsAct_87 : decode cX9_ringsAct 87 = .ok (.invokevirtual 426, 3) := by decide +kernel
theorem dX9_ringsAct_90 : decode cX9_ringsAct 90 = .ok (.ireturn, 1) := by decide +kernel
theorem dX9_oneTells_0 : decode cX9_oneTells 0 = .ok (.aload_n 0, 1) := by decide +kernel
theorem dX9_oneTells_1 : decode cX9_oneTells 1 = .ok (.bipush 12, 2) := by decide +kernel
theorem dX9_oneTells_3 : decode cX9_oneTells 3 = .ok (.invokevirtual 417, 3) := by decide +kernel
theorem dX9_oneTells_6 : decode cX9_oneTells 6 = .ok (.aload_n 0, 1) := by decide +kernel
theorem dX9_oneTells_7 : decode cX9_oneTells 7 = .ok (.iload_n 1, 1) := by decide +kernel
theorem dX9_oneTells_8 : decode cX9_oneTells 8 = .ok (.iload_n 2, 1) := by decide +kernel
theorem dX9_oneTells_9 : decode cX9_oneTells 9 = .ok (.invokevirtual 432, 3) := by decide +kernel
theorem dX9_oneTells_12 : decode cX9_oneTells 12 = .ok (.iconst 2, 1) := by decide +kernel
theorem dX9_oneTells_13 : decode cX9_oneTells 13 = .ok (.imul, 1) := by decide +kernel
theorem dX9_oneTells_14 : decode cX9_oneTells 14 = .ok (.ireturn, 1) := by decide +kernel
theorem dX9_tellsAct_0 : decode cX9_tellsAct 0 = .ok (.aload_n 0, 1) := by decide +kernel
theorem dX9_tellsAct_1 : decode cX9_tellsAct 1 = .ok (.getfield 25, 3) := by decide +kernel
theorem dX9_tellsAct_4 : decode cX9_tellsAct 4 = .ok (.iload_n 1, 1) := by decide +kernel
theorem dX9_tellsAct_5 : decode cX9_tellsAct 5 = .ok (.iaload, 1) := by decide +kernel
theorem dX9_tellsAct_6 : decode cX9_tellsAct 6 = .ok (.tableswitch 67 3 6 #[30, 67, 52, 30], 30) := by decide +kernel
theorem dX9_tellsAct_36 : decode cX9_tellsAct 36 = .ok (.aload_n 0, 1) := by decide +kernel
theorem dX9_tellsAct_37 : decode cX9_tellsAct 37 = .ok (.bipush 40, 2) := by decide +kernel
theorem dX9_tellsAct_39 : decode cX9_tellsAct 39 = .ok (.invokevirtual 417, 3) := by decide +kernel
theorem dX9_tellsAct_42 : decode cX9_tellsAct 42 = .ok (.aload_n 0, 1) := by decide +kernel
theorem dX9_tellsAct_43 : decode cX9_tellsAct 43 = .ok (.iload_n 1, 1) := by decide +kernel
theorem dX9_tellsAct_44 : decode cX9_tellsAct 44 = .ok (.iload_n 2, 1) := by decide +kernel
theorem dX9_tellsAct_45 : decode cX9_tellsAct 45 = .ok (.invokevirtual 435, 3) := by decide +kernel
theorem dX9_tellsAct_48 : decode cX9_tellsAct 48 = .ok (.istore_n 3, 1) := by decide +kernel
theorem dX9_tellsAct_49 : decode cX9_tellsAct 49 = .ok (.iload_n 3, 1) := by decide +kernel
theorem dX9_tellsAct_50 : decode cX9_tellsAct 50 = .ok (.aload_n 0, 1) := by decide +kernel
theorem dX9_tellsAct_51 : decode cX9_tellsAct 51 = .ok (.iload_n 1, 1) := by decide +kernel
theorem dX9_tellsAct_52 : decode cX9_tellsAct 52 = .ok (.iconst 1, 1) := by decide +kernel
theorem dX9_tellsAct_53 : decode cX9_tellsAct 53 = .ok (.invokevirtual 432, 3) := by decide +kernel
theorem dX9_tellsAct_56 : decode cX9_tellsAct 56 = .ok (.iadd, 1) := by decide +kernel
theorem dX9_tellsAct_57 : decode cX9_tellsAct 57 = .ok (.ireturn, 1) := by decide +kernel
theorem dX9_tellsAct_58 : decode cX9_tellsAct 58 = .ok (.aload_n 0, 1) := by decide +kernel
theorem dX9_tellsAct_59 : decode cX9_tellsAct 59 = .ok (.bipush 60, 2) := by decide +kernel
theorem dX9_tellsAct_61 : decode cX9_tellsAct 61 = .ok (.invokevirtual 417, 3) := by decide +kernel
theorem dX9_tellsAct_64 : decode cX9_tellsAct 64 = .ok (.aload_n 0, 1) := by decide +kernel
theorem dX9_tellsAct_65 : decode cX9_tellsAct 65 = .ok (.iload_n 1, 1) := by decide +kernel
theorem dX9_tellsAct_66 : decode cX9_tellsAct 66 = .ok (.iload_n 2, 1) := by decide +kernel
theorem dX9_tellsAct_67 : decode cX9_tellsAct 67 = .ok (.iload_n 1, 1) := by decide +kernel
theorem dX9_tellsAct_68 : decode cX9_tellsAct 68 = .ok (.isub, 1) := by decide +kernel
theorem dX9_tellsAct_69 : decode cX9_tellsAct 69 = .ok (.invokevirtual 435, 3) := by decide +kernel
theorem dX9_tellsAct_72 : decode cX9_tellsAct 72 = .ok (.ireturn, 1) := by decide +kernel
theorem dX9_tellsAct_73 : decode cX9_tellsAct 73 = .ok (.aload_n 0, 1) := by decide +kernel
theorem dX9_tellsAct_74 : decode cX9_tellsAct 74 = .ok (.iload_n 1, 1) := by decide +kernel
theorem dX9_tellsAct_75 : decode cX9_tellsAct 75 = .ok (.iload_n 2, 1) := by decide +kernel
theorem dX9_tellsAct_76 : decode cX9_tellsAct 76 = .ok (.invokevirtual 435, 3) := by decide +kernel
theorem dX9_tellsAct_79 : decode cX9_tellsAct 79 = .ok (.ireturn, 1) := by decide +kernel
theorem dX9_act_0 : decode cX9_act 0 = .ok (.aload_n 0, 1) := by decide +kernel
theorem dX9_act_1 : decode cX9_act 1 = .ok (.iconst 0, 1) := by decide +kernel
theorem dX9_act_2 : decode cX9_act 2 = .ok (.putfield 229, 3) := by decide +kernel
theorem dX9_act_5 : decode cX9_act 5 = .ok (.aload_n 0, 1) := by decide +kernel
theorem dX9_act_6 : decode cX9_act 6 = .ok (.iload_n 1, 1) := by decide +kernel
theorem dX9_act_7 : decode cX9_act 7 = .ok (.invokevirtual 260, 3) := by decide +kernel
theorem dX9_act_10 : decode cX9_act 10 = .ok (.ifCond .eq 13, 3) := by decide +kernel
theorem dX9_act_13 : decode cX9_act 13 = .ok (.aload_n 0, 1) := by decide +kernel
theorem dX9_act_14 : decode cX9_act 14 = .ok (.iload_n 2, 1) := by decide +kernel
theorem dX9_act_15 : decode cX9_act 15 = .ok (.iconst 0, 1) := by decide +kernel
theorem dX9_act_16 : decode cX9_act 16 = .ok (.iconst 2, 1) := by decide +kernel
theorem dX9_act_17 : decode cX9_act 17 = .ok (.invokevirtual 252, 3) := by decide +kernel
theorem dX9_act_20 : decode cX9_act 20 = .ok (.ifCond .ne 5, 3) := by decide +kernel
theorem dX9_act_23 : decode cX9_act 23 = .ok (.iconst 0, 1) := by decide +kernel
theorem dX9_act_24 : decode cX9_act 24 = .ok (.ireturn, 1) := by decide +kernel
theorem dX9_act_25 : decode cX9_act 25 = .ok (.iload_n 2, 1) := by decide +kernel
theorem dX9_act_26 : decode cX9_act 26 = .ok (.ifCond .ne 12, 3) := by decide +kernel
theorem dX9_act_29 : decode cX9_act 29 = .ok (.aload_n 0, 1) := by decide +kernel
theorem dX9_act_30 : decode cX9_act 30 = .ok (.iload_n 1, 1) := by decide +kernel
theorem dX9_act_31 : decode cX9_act 31 = .ok (.iload_n 3, 1) := by decide +kernel
theorem dX9_act_32 : decode cX9_act 32 = .ok (.invokevirtual 423, 3) := by decide +kernel
theorem dX9_act_35 : decode cX9_act 35 = .ok (.goto 23, 3) := by decide +kernel
theorem dX9_act_38 : decode cX9_act 38 = .ok (.iload_n 2, 1) := by decide +kernel
theorem dX9_act_39 : decode cX9_act 39 = .ok (.iconst 1, 1) := by decide +kernel
theorem dX9_act_40 : decode cX9_act 40 = .ok (.if_icmp .ne 12, 3) := by decide +kernel
theorem dX9_act_43 : decode cX9_act 43 = .ok (.aload_n 0, 1) := by decide +kernel
theorem dX9_act_44 : decode cX9_act 44 = .ok (.iload_n 1, 1) := by decide +kernel
theorem dX9_act_45 : decode cX9_act 45 = .ok (.iload_n 3, 1) := by decide +kernel
theorem dX9_act_46 : decode cX9_act 46 = .ok (.invokevirtual 432, 3) := by decide +kernel
theorem dX9_act_49 : decode cX9_act 49 = .ok (.goto 9, 3) := by decide +kernel
theorem dX9_act_52 : decode cX9_act 52 = .ok (.aload_n 0, 1) := by decide +kernel
theorem dX9_act_53 : decode cX9_act 53 = .ok (.iload_n 1, 1) := by decide +kernel
theorem dX9_act_54 : decode cX9_act 54 = .ok (.iload_n 3, 1) := by decide +kernel
theorem dX9_act_55 : decode cX9_act 55 = .ok (.invokevirtual 438, 3) := by decide +kernel
theorem dX9_act_58 : decode cX9_act 58 = .ok (.ireturn, 1) := by decide +kernel
theorem dX9_trace_0 : decode cX9_trace 0 = .ok (.aload_n 0, 1) := by decide +kernel
theorem dX9_trace_1 : decode cX9_trace 1 = .ok (.iload_n 1, 1) := by decide +kernel
theorem dX9_trace_2 : decode cX9_trace 2 = .ok (.iconst 0, 1) := by decide +kernel
theorem dX9_trace_3 : decode cX9_trace 3 = .ok (.bipush 19, 2) := by decide +kernel
theorem dX9_trace_5 : decode cX9_trace 5 = .ok (.invokevirtual 252, 3) := by decide +kernel
theorem dX9_trace_8 : decode cX9_trace 8 = .ok (.ifCond .eq 20, 3) := by decide +kernel
theorem dX9_trace_11 : decode cX9_trace 11 = .ok (.iload_n 1, 1) := by decide +kernel
theorem dX9_trace_12 : decode cX9_trace 12 = .ok (.aload_n 0, 1) := by decide +kernel
theorem dX9_trace_13 : decode cX9_trace 13 = .ok (.getfield 229, 3) := by decide +kernel
theorem dX9_trace_16 : decode cX9_trace 16 = .ok (.if_icmp .ge 12, 3) := by decide +kernel
theorem dX9_trace_19 : decode cX9_trace 19 = .ok (.aload_n 0, 1) := by decide +kernel
theorem dX9_trace_20 : decode cX9_trace 20 = .ok (.getfield 232, 3) := by decide +kernel
theorem dX9_trace_23 : decode cX9_trace 23 = .ok (.iload_n 1, 1) := by decide +kernel
theorem dX9_trace_24 : decode cX9_trace 24 = .ok (.iaload, 1) := by decide +kernel
theorem dX9_trace_25 : decode cX9_trace 25 = .ok (.goto 4, 3) := by decide +kernel
theorem dX9_trace_28 : decode cX9_trace 28 = .ok (.iconst (-1), 1) := by decide +kernel
theorem dX9_trace_29 : decode cX9_trace 29 = .ok (.ireturn, 1) := by decide +kernel
theorem dX9_taken_0 : decode cX9_taken 0 = .ok (.aload_n 0, 1) := by decide +kernel
theorem dX9_taken_1 : decode cX9_taken 1 = .ok (.iload_n 2, 1) := by decide +kernel
theorem dX9_taken_2 : decode cX9_taken 2 = .ok (.iconst 0, 1) := by decide +kernel
theorem dX9_taken_3 : decode cX9_taken 3 = .ok (.bipush 6, 2) := by decide +kernel
theorem dX9_taken_5 : decode cX9_taken 5 = .ok (.invokevirtual 252, 3) := by decide +kernel
theorem dX9_taken_8 : decode cX9_taken 8 = .ok (.ifCond .ne 6, 3) := by decide +kernel
theorem dX9_taken_11 : decode cX9_taken 11 = .ok (.bipush (-2), 2) := by decide +kernel
theorem dX9_taken_13 : decode cX9_taken 13 = .ok (.ireturn, 1) := by decide +kernel
theorem dX9_taken_14 : decode cX9_taken 14 = .ok (.aload_n 0, 1) := by decide +kernel
theorem dX9_taken_15 : decode cX9_taken 15 = .ok (.iload_n 1, 1) := by decide +kernel
theorem dX9_taken_16 : decode cX9_taken 16 = .ok (.invokevirtual 260, 3) := by decide +kernel
theorem dX9_taken_19 : decode cX9_taken 19 = .ok (.ifCond .ne 6, 3) := by decide +kernel
theorem dX9_taken_22 : decode cX9_taken 22 = .ok (.bipush (-11), 2) := by decide +kernel
theorem dX9_taken_24 : decode cX9_taken 24 = .ok (.ireturn, 1) := by decide +kernel
theorem dX9_taken_25 : decode cX9_taken 25 = .ok (.aload_n 0, 1) := by decide +kernel
theorem dX9_taken_26 : decode cX9_taken 26 = .ok (.getfield 25, 3) := by decide +kernel
theorem dX9_taken_29 : decode cX9_taken 29 = .ok (.iload_n 1, 1) := by decide +kernel
theorem dX9_taken_30 : decode cX9_taken 30 = .ok (.iaload, 1) := by decide +kernel
theorem dX9_taken_31 : decode cX9_taken 31 = .ok (.istore_n 3, 1) := by decide +kernel
theorem dX9_taken_32 : decode cX9_taken 32 = .ok (.iload_n 2, 1) := by decide +kernel
theorem dX9_taken_33 : decode cX9_taken 33 = .ok (.ifCond .eq 39, 3) := by decide +kernel
theorem dX9_taken_36 : decode cX9_taken 36 = .ok (.iload_n 3, 1) := by decide +kernel
theorem dX9_taken_37 : decode cX9_taken 37 = .ok (.iload_n 2, 1) := by decide +kernel
theorem dX9_taken_38 : decode cX9_taken 38 = .ok (.if_icmp .eq 34, 3) := by decide +kernel
theorem dX9_taken_41 : decode cX9_taken 41 = .ok (.iload_n 2, 1) := by decide +kernel
theorem dX9_taken_42 : decode cX9_taken 42 = .ok (.iconst 1, 1) := by decide +kernel
theorem dX9_taken_43 : decode cX9_taken 43 = .ok (.if_icmp .ne 8, 3) := by decide +kernel
theorem dX9_taken_46 : decode cX9_taken 46 = .ok (.iload_n 3, 1) := by decide +kernel
theorem dX9_taken_47 : decode cX9_taken 47 = .ok (.iconst 4, 1) := by decide +kernel
theorem dX9_taken_48 : decode cX9_taken 48 = .ok (.if_icmp .eq 24, 3) := by decide +kernel
theorem dX9_taken_51 : decode cX9_taken 51 = .ok (.iload_n 2, 1) := by decide +kernel
theorem dX9_taken_52 : decode cX9_taken 52 = .ok (.iconst 2, 1) := by decide +kernel
theorem dX9_taken_53 : decode cX9_taken 53 = .ok (.if_icmp .ne 8, 3) := by decide +kernel
theorem dX9_taken_56 : decode cX9_taken 56 = .ok (.iload_n 3, 1) := by decide +kernel
theorem dX9_taken_57 : decode cX9_taken 57 = .ok (.iconst 5, 1) := by decide +kernel
theorem dX9_taken_58 : decode cX9_taken 58 = .ok (.if_icmp .eq 14, 3) := by decide +kernel
theorem dX9_taken_61 : decode cX9_taken 61 = .ok (.iload_n 2, 1) := by decide +kernel
theorem dX9_taken_62 : decode cX9_taken 62 = .ok (.iconst 3, 1) := by decide +kernel
theorem dX9_taken_63 : decode cX9_taken 63 = .ok (.if_icmp .ne 13, 3) := by decide +kernel
theorem dX9_taken_66 : decode cX9_taken 66 = .ok (.iload_n 3, 1) := by decide +kernel
theorem dX9_taken_67 : decode cX9_taken 67 = .ok (.bipush 6, 2) := by decide +kernel
theorem dX9_taken_69 : decode cX9_taken 69 = .ok (.if_icmp .ne 7, 3) := by decide +kernel
theorem dX9_taken_72 : decode cX9_taken 72 = .ok (.iload_n 3, 1) := by decide +kernel
theorem dX9_taken_73 : decode cX9_taken 73 = .ok (.goto 5, 3) := by decide +kernel
theorem dX9_taken_76 : decode cX9_taken 76 = .ok (.bipush (-12), 2) := by decide +kernel
theorem dX9_taken_78 : decode cX9_taken 78 = .ok (.ireturn, 1) := by decide +kernel
theorem dX9_count_0 : decode cX9_count 0 = .ok (.iload_n 1, 1) := by decide +kernel
theorem dX9_count_1 : decode cX9_count 1 = .ok (.tableswitch 87 0 7 #[47, 52, 57, 62, 67, 72, 77, 82], 47) := by decide +kernel
theorem dX9_count_48 : decode cX9_count 48 = .ok (.aload_n 0, 1) := by decide +kernel
theorem dX9_count_49 : decode cX9_count 49 = .ok (.getfield 7, 3) := by decide +kernel
theorem dX9_count_52 : decode cX9_count 52 = .ok (.ireturn, 1) := by decide +kernel
theorem dX9_count_53 : decode cX9_count 53 = .ok (.aload_n 0, 1) := by decide +kernel
theorem dX9_count_54 : decode cX9_count 54 = .ok (.getfield 16, 3) := by decide +kernel
theorem dX9_count_57 : decode cX9_count 57 = .ok (.ireturn, 1) := by decide +kernel
theorem dX9_count_58 : decode cX9_count 58 = .ok (.aload_n 0, 1) := by decide +kernel
theorem dX9_count_59 : decode cX9_count 59 = .ok (.getfield 47, 3) := by decide +kernel
theorem dX9_count_62 : decode cX9_count 62 = .ok (.ireturn, 1) := by decide +kernel
theorem dX9_count_63 : decode cX9_count 63 = .ok (.aload_n 0, 1) := by decide +kernel
theorem dX9_count_64 : decode cX9_count 64 = .ok (.getfield 126, 3) := by decide +kernel
theorem dX9_count_67 : decode cX9_count 67 = .ok (.ireturn, 1) := by decide +kernel
theorem dX9_count_68 : decode cX9_count 68 = .ok (.aload_n 0, 1) := by decide +kernel
theorem dX9_count_69 : decode cX9_count 69 = .ok (.getfield 138, 3) := by decide +kernel
theorem dX9_count_72 : decode cX9_count 72 = .ok (.ireturn, 1) := by decide +kernel
theorem dX9_count_73 : decode cX9_count 73 = .ok (.aload_n 0, 1) := by decide +kernel
theorem dX9_count_74 : decode cX9_count 74 = .ok (.getfield 141, 3) := by decide +kernel
theorem dX9_count_77 : decode cX9_count 77 = .ok (.ireturn, 1) := by decide +kernel
theorem dX9_count_78 : decode cX9_count 78 = .ok (.aload_n 0, 1) := by decide +kernel
theorem dX9_count_79 : decode cX9_count 79 = .ok (.getfield 53, 3) := by decide +kernel
theorem dX9_count_82 : decode cX9_count 82 = .ok (.ireturn, 1) := by decide +kernel
theorem dX9_count_83 : decode cX9_count 83 = .ok (.aload_n 0, 1) := by decide +kernel
theorem dX9_count_84 : decode cX9_count 84 = .ok (.getfield 229, 3) := by decide +kernel
theorem dX9_count_87 : decode cX9_count 87 = .ok (.ireturn, 1) := by decide +kernel
theorem dX9_count_88 : decode cX9_count 88 = .ok (.bipush (-2), 2) := by decide +kernel
theorem dX9_count_90 : decode cX9_count 90 = .ok (.ireturn, 1) := by decide +kernel
theorem dX9_isTape_0 : decode cX9_isTape 0 = .ok (.aload_n 0, 1) := by decide +kernel
theorem dX9_isTape_1 : decode cX9_isTape 1 = .ok (.iload_n 1, 1) := by decide +kernel
theorem dX9_isTape_2 : decode cX9_isTape 2 = .ok (.iconst 0, 1) := by decide +kernel
theorem dX9_isTape_3 : decode cX9_isTape 3 = .ok (.iconst 5, 1) := by decide +kernel
theorem dX9_isTape_4 : decode cX9_isTape 4 = .ok (.invokevirtual 252, 3) := by decide +kernel
theorem dX9_isTape_7 : decode cX9_isTape 7 = .ok (.ireturn, 1) := by decide +kernel
theorem dX9_tape_0 : decode cX9_tape 0 = .ok (.aload_n 0, 1) := by decide +kernel
theorem dX9_tape_1 : decode cX9_tape 1 = .ok (.iload_n 1, 1) := by decide +kernel
theorem dX9_tape_2 : decode cX9_tape 2 = .ok (.invokevirtual 414, 3) := by decide +kernel
theorem dX9_tape_5 : decode cX9_tape 5 = .ok (.ifCond .ne 5, 3) := by decide +kernel
theorem dX9_tape_8 : decode cX9_tape 8 = .ok (.iconst (-1), 1) := by decide +kernel
theorem dX9_tape_9 : decode cX9_tape 9 = .ok (.ireturn, 1) := by decide +kernel
theorem dX9_tape_10 : decode cX9_tape 10 = .ok (.aload_n 0, 1) := by decide +kernel
theorem dX9_tape_11 : decode cX9_tape 11 = .ok (.iload_n 2, 1) := by decide +kernel
theorem dX9_tape_12 : decode cX9_tape 12 = .ok (.iconst (-1), 1) := by decide +kernel
theorem dX9_tape_13 : decode cX9_tape 13 = .ok (.iconst 4, 1) := by decide +kernel
theorem dX9_tape_14 : decode cX9_tape 14 = .ok (.invokevirtual 252, 3) := by decide +kernel
theorem dX9_tape_17 : decode cX9_tape 17 = .ok (.ifCond .eq 13, 3) := by decide +kernel
theorem dX9_tape_20 : decode cX9_tape 20 = .ok (.iload_n 2, 1) := by decide +kernel
theorem dX9_tape_21 : decode cX9_tape 21 = .ok (.ifCond .lt 12, 3) := by decide +kernel
theorem dX9_tape_24 : decode cX9_tape 24 = .ok (.iload_n 3, 1) := by decide +kernel
theorem dX9_tape_25 : decode cX9_tape 25 = .ok (.bipush 60, 2) := by decide +kernel
theorem dX9_tape_27 : decode cX9_tape 27 = .ok (.if_icmp .le 6, 3) := by decide +kernel
theorem dX9_tape_30 : decode cX9_tape 30 = .ok (.bipush (-2), 2) := by decide +kernel
theorem dX9_tape_32 : decode cX9_tape 32 = .ok (.ireturn, 1) := by decide +kernel
theorem dX9_tape_33 : decode cX9_tape 33 = .ok (.iload_n 2, 1) := by decide +kernel
theorem dX9_tape_34 : decode cX9_tape 34 = .ok (.ifCond .lt 10, 3) := by decide +kernel
theorem dX9_tape_37 : decode cX9_tape 37 = .ok (.iload_n 3, 1) := by decide +kernel
theorem dX9_tape_38 : decode cX9_tape 38 = .ok (.ifCond .ge 6, 3) := by decide +kernel
theorem dX9_tape_41 : decode cX9_tape 41 = .ok (.bipush (-14), 2) := by decide +kernel
theorem dX9_tape_43 : decode cX9_tape 43 = .ok (.ireturn, 1) := by decide +kernel
theorem dX9_tape_44 : decode cX9_tape 44 = .ok (.aload_n 0, 1) := by decide +kernel
theorem dX9_tape_45 : decode cX9_tape 45 = .ok (.getfield 235, 3) := by decide +kernel
theorem dX9_tape_48 : decode cX9_tape 48 = .ok (.iload_n 1, 1) := by decide +kernel
theorem dX9_tape_49 : decode cX9_tape 49 = .ok (.iload_n 2, 1) := by decide +kernel
theorem dX9_tape_50 : decode cX9_tape 50 = .ok (.iastore, 1) := by decide +kernel
theorem dX9_tape_51 : decode cX9_tape 51 = .ok (.aload_n 0, 1) := by decide +kernel
theorem dX9_tape_52 : decode cX9_tape 52 = .ok (.getfield 238, 3) := by decide +kernel
theorem dX9_tape_55 : decode cX9_tape 55 = .ok (.iload_n 1, 1) := by decide +kernel
theorem dX9_tape_56 : decode cX9_tape 56 = .ok (.iload_n 2, 1) := by decide +kernel
theorem dX9_tape_57 : decode cX9_tape 57 = .ok (.ifCond .ge 7, 3) := by decide +kernel
theorem dX9_tape_60 : decode cX9_tape 60 = .ok (.iconst 0, 1) := by decide +kernel
theorem dX9_tape_61 : decode cX9_tape 61 = .ok (.goto 4, 3) := by decide +kernel
theorem dX9_tape_64 : decode cX9_tape 64 = .ok (.iload_n 3, 1) := by decide +kernel
theorem dX9_tape_65 : decode cX9_tape 65 = .ok (.iastore, 1) := by decide +kernel
theorem dX9_tape_66 : decode cX9_tape 66 = .ok (.iconst 0, 1) := by decide +kernel
theorem dX9_tape_67 : decode cX9_tape 67 = .ok (.istore 4, 2) := by decide +kernel
theorem dX9_tape_69 : decode cX9_tape 69 = .ok (.iload 4, 2) := by decide +kernel
theorem dX9_tape_71 : decode cX9_tape 71 = .ok (.bipush 60, 2) := by decide +kernel
theorem dX9_tape_73 : decode cX9_tape 73 = .ok (.if_icmp .ge 22, 3) := by decide +kernel
theorem dX9_tape_76 : decode cX9_tape 76 = .ok (.aload_n 0, 1) := by decide +kernel
theorem dX9_tape_77 : decode cX9_tape 77 = .ok (.getfield 241, 3) := by decide +kernel
theorem dX9_tape_80 : decode cX9_tape 80 = .ok (.bipush 60, 2) := by decide +kernel
theorem dX9_tape_82 : decode cX9_tape 82 = .ok (.iload_n 1, 1) := by decide +kernel
theorem dX9_tape_83 : decode cX9_tape 83 = .ok (.imul, 1) := by decide +kernel
theorem dX9_tape_84 : decode cX9_tape 84 = .ok (.iload 4, 2) := by decide +kernel
theorem dX9_tape_86 : decode cX9_tape 86 = .ok (.iadd, 1) := by decide +kernel
theorem dX9_tape_87 : decode cX9_tape 87 = .ok (.lconst 0, 1) := by decide +kernel
theorem dX9_tape_88 : decode cX9_tape 88 = .ok (.lastore, 1) := by decide +kernel
theorem dX9_tape_89 : decode cX9_tape 89 = .ok (.iinc 4 1, 3) := by decide +kernel
theorem dX9_tape_92 : decode cX9_tape 92 = .ok (.goto (-23), 3) := by decide +kernel
theorem dX9_tape_95 : decode cX9_tape 95 = .ok (.iconst 1, 1) := by decide +kernel
theorem dX9_tape_96 : decode cX9_tape 96 = .ok (.ireturn, 1) := by decide +kernel
theorem dX9_narrow_0 : decode cX9_narrow 0 = .ok (.iload_n 1, 1) := by decide +kernel
theorem dX9_narrow_1 : decode cX9_narrow 1 = .ok (.ifCond .ne 10, 3) := by decide +kernel
theorem dX9_narrow_4 : decode cX9_narrow 4 = .ok (.lload_n 2, 1) := by decide +kernel
theorem dX9_narrow_5 : decode cX9_narrow 5 = .ok (.l2i, 1) := by decide +kernel
theorem dX9_narrow_6 : decode cX9_narrow 6 = .ok (.i2b, 1) := by decide +kernel
theorem dX9_narrow_7 : decode cX9_narrow 7 = .ok (.i2l, 1) := by decide +kernel
theorem dX9_narrow_8 : decode cX9_narrow 8 = .ok (.goto 46, 3) := by decide +kernel
theorem dX9_narrow_11 : decode cX9_narrow 11 = .ok (.iload_n 1, 1) := by decide +kernel
theorem dX9_narrow_12 : decode cX9_narrow 12 = .ok (.iconst 1, 1) := by decide +kernel
theorem dX9_narrow_13 : decode cX9_narrow 13 = .ok (.if_icmp .ne 10, 3) := by decide +kernel
theorem dX9_narrow_16 : decode cX9_narrow 16 = .ok (.lload_n 2, 1) := by decide +kernel
theorem dX9_narrow_17 : decode cX9_narrow 17 = .ok (.l2i, 1) := by decide +kernel
theorem dX9_narrow_18 : decode cX9_narrow 18 = .ok (.i2s, 1) := by decide +kernel
theorem dX9_narrow_19 : decode cX9_narrow 19 = .ok (.i2l, 1) := by decide +kernel
theorem dX9_narrow_20 : decode cX9_narrow 20 = .ok (.goto 34, 3) := by decide +kernel
theorem dX9_narrow_23 : decode cX9_narrow 23 = .ok (.iload_n 1, 1) := by decide +kernel
theorem dX9_narrow_24 : decode cX9_narrow 24 = .ok (.iconst 2, 1) := by decide +kernel
theorem dX9_narrow_25 : decode cX9_narrow 25 = .ok (.if_icmp .ne 9, 3) := by decide +kernel
theorem dX9_narrow_28 : decode cX9_narrow 28 = .ok (.lload_n 2, 1) := by decide +kernel
theorem dX9_narrow_29 : decode cX9_narrow 29 = .ok (.l2i, 1) := by decide +kernel
theorem dX9_narrow_30 : decode cX9_narrow 30 = .ok (.i2l, 1) := by decide +kernel
theorem dX9_narrow_31 : decode cX9_narrow 31 = .ok (.goto 23, 3) := by decide +kernel
theorem dX9_narrow_34 : decode cX9_narrow 34 = .ok (.iload_n 1, 1) := by decide +kernel
theorem dX9_narrow_35 : decode cX9_narrow 35 = .ok (.iconst 4, 1) := by decide +kernel
theorem dX9_narrow_36 : decode cX9_narrow 36 = .ok (.if_icmp .ne 17, 3) := by decide +kernel
theorem dX9_narrow_39 : decode cX9_narrow 39 = .ok (.lload_n 2, 1) := by decide +kernel
theorem dX9_narrow_40 : decode cX9_narrow 40 = .ok (.lconst 0, 1) := by decide +kernel
theorem dX9_narrow_41 : decode cX9_narrow 41 = .ok (.lcmp, 1) := by decide +kernel
theorem dX9_narrow_42 : decode cX9_narrow 42 = .ok (.ifCond .eq 7, 3) := by decide +kernel
theorem dX9_narrow_45 : decode cX9_narrow 45 = .ok (.lconst 1, 1) := by decide +kernel
theorem dX9_narrow_46 : decode cX9_narrow 46 = .ok (.goto 8, 3) := by decide +kernel
theorem dX9_narrow_49 : decode cX9_narrow 49 = .ok (.lconst 0, 1) := by decide +kernel
theorem dX9_narrow_50 : decode cX9_narrow 50 = .ok (.goto 4, 3) := by decide +kernel
theorem dX9_narrow_53 : decode cX9_narrow 53 = .ok (.lload_n 2, 1) := by decide +kernel
theorem dX9_narrow_54 : decode cX9_narrow 54 = .ok (.lreturn, 1) := by decide +kernel
theorem dX9_item_0 : decode cX9_item 0 = .ok (.aload_n 0, 1) := by decide +kernel
theorem dX9_item_1 : decode cX9_item 1 = .ok (.iload_n 1, 1) := by decide +kernel
theorem dX9_item_2 : decode cX9_item 2 = .ok (.invokevirtual 414, 3) := by decide +kernel
theorem dX9_item_5 : decode cX9_item 5 = .ok (.ifCond .ne 5, 3) := by decide +kernel
theorem dX9_item_8 : decode cX9_item 8 = .ok (.iconst (-1), 1) := by decide +kernel
theorem dX9_item_9 : decode cX9_item 9 = .ok (.ireturn, 1) := by decide +kernel
theorem dX9_item_10 : decode cX9_item 10 = .ok (.aload_n 0, 1) := by decide +kernel
theorem dX9_item_11 : decode cX9_item 11 = .ok (.getfield 235, 3) := by decide +kernel
theorem dX9_item_14 : decode cX9_item 14 = .ok (.iload_n 1, 1) := by decide +kernel
theorem dX9_item_15 : decode cX9_item 15 = .ok (.iaload, 1) := by decide +kernel
theorem dX9_item_16 : decode cX9_item 16 = .ok (.ifCond .ge 6, 3) := by decide +kernel
theorem dX9_item_19 : decode cX9_item 19 = .ok (.bipush (-11), 2) := by decide +kernel
theorem dX9_item_21 : decode cX9_item 21 = .ok (.ireturn, 1) := by decide +kernel
theorem dX9_item_22 : decode cX9_item 22 = .ok (.aload_n 0, 1) := by decide +kernel
theorem dX9_item_23 : decode cX9_item 23 = .ok (.iload_n 2, 1) := by decide +kernel
theorem dX9_item_24 : decode cX9_item 24 = .ok (.iconst 0, 1) := by decide +kernel
theorem dX9_item_25 : decode cX9_item 25 = .ok (.aload_n 0, 1) := by decide +kernel
theorem dX9_item_26 : decode cX9_item 26 = .ok (.getfield 238, 3) := by decide +kernel
theorem dX9_item_29 : decode cX9_item 29 = .ok (.iload_n 1, 1) := by decide +kernel
theorem dX9_item_30 : decode cX9_item 30 = .ok (.iaload, 1) := by decide +kernel
theorem dX9_item_31 : decode cX9_item 31 = .ok (.iconst 1, 1) := by decide +kernel
theorem dX9_item_32 : decode cX9_item 32 = .ok (.isub, 1) := by decide +kernel
theorem dX9_item_33 : decode cX9_item 33 = .ok (.invokevirtual 252, 3) := by decide +kernel
theorem dX9_item_36 : decode cX9_item 36 = .ok (.ifCond .ne 6, 3) := by decide +kernel
theorem dX9_item_39 : decode cX9_item 39 = .ok (.bipush (-13), 2) := by decide +kernel
theorem dX9_item_41 : decode cX9_item 41 = .ok (.ireturn, 1) := by decide +kernel
theorem dX9_item_42 : decode cX9_item 42 = .ok (.aload_n 0, 1) := by decide +kernel
theorem dX9_item_43 : decode cX9_item 43 = .ok (.getfield 241, 3) := by decide +kernel
theorem dX9_item_46 : decode cX9_item 46 = .ok (.bipush 60, 2) := by decide +kernel
theorem dX9_item_48 : decode cX9_item 48 = .ok (.iload_n 1, 1) := by decide +kernel
theorem dX9_item_49 : decode cX9_item 49 = .ok (.imul, 1) := by decide +kernel
theorem dX9_item_50 : decode cX9_item 50 = .ok (.iload_n 2, 1) := by decide +kernel
theorem dX9_item_51 : decode cX9_item 51 = .ok (.iadd, 1) := by decide +kernel
theorem dX9_item_52 : decode cX9_item 52 = .ok (.aload_n 0, 1) := by decide +kernel
theorem dX9_item_53 : decode cX9_item 53 = .ok (.aload_n 0, 1) := by decide +kernel
theorem dX9_item_54 : decode cX9_item 54 = .ok (.getfield 235, 3) := by decide +kernel
theorem dX9_item_57 : decode cX9_item 57 = .ok (.iload_n 1, 1) := by decide +kernel
theorem dX9_item_58 : decode cX9_item 58 = .ok (.iaload, 1) := by decide +kernel
theorem dX9_item_59 : decode cX9_item 59 = .ok (.lload_n 3, 1) := by decide +kernel
theorem dX9_item_60 : decode cX9_item 60 = .ok (.invokevirtual 441, 3) := by decide +kernel
theorem dX9_item_63 : decode cX9_item 63 = .ok (.lastore, 1) := by decide +kernel
theorem dX9_item_64 : decode cX9_item 64 = .ok (.iconst 1, 1) := by decide +kernel
theorem dX9_item_65 : decode cX9_item 65 = .ok (.ireturn, 1) := by decide +kernel
theorem dX9_read_0 : decode cX9_read 0 = .ok (.aload_n 0, 1) := by decide +kernel
theorem dX9_read_1 : decode cX9_read 1 = .ok (.iload_n 1, 1) := by decide +kernel
theorem dX9_read_2 : decode cX9_read 2 = .ok (.invokevirtual 414, 3) := by decide +kernel
theorem dX9_read_5 : decode cX9_read 5 = .ok (.ifCond .eq 29, 3) := by decide +kernel
theorem dX9_read_8 : decode cX9_read 8 = .ok (.aload_n 0, 1) := by decide +kernel
theorem dX9_read_9 : decode cX9_read 9 = .ok (.getfield 235, 3) := by decide +kernel
theorem dX9_read_12 : decode cX9_read 12 = .ok (.iload_n 1, 1) := by decide +kernel
theorem dX9_read_13 : decode cX9_read 13 = .ok (.iaload, 1) := by decide +kernel
theorem dX9_read_14 : decode cX9_read 14 = .ok (.ifCond .lt 20, 3) := by decide +kernel
theorem dX9_read_17 : decode cX9_read 17 = .ok (.aload_n 0, 1) := by decide +kernel
theorem dX9_read_18 : decode cX9_read 18 = .ok (.iload_n 2, 1) := by decide +kernel
theorem dX9_read_19 : decode cX9_read 19 = .ok (.iconst 0, 1) := by decide +kernel
theorem dX9_read_20 : decode cX9_read 20 = .ok (.aload_n 0, 1) := by decide +kernel
theorem dX9_read_21 : decode cX9_read 21 = .ok (.getfield 238, 3) := by decide +kernel
theorem dX9_read_24 : decode cX9_read 24 = .ok (.iload_n 1, 1) := by decide +kernel
theorem dX9_read_25 : decode cX9_read 25 = .ok (.iaload, 1) := by decide +kernel
theorem dX9_read_26 : decode cX9_read 26 = .ok (.iconst 1, 1) := by decide +kernel
theorem dX9_read_27 : decode cX9_read 27 = .ok (.isub, 1) := by decide +kernel
theorem dX9_read_28 : decode cX9_read 28 = .ok (.invokevirtual 252, 3) := by decide +kernel
theorem dX9_read_31 : decode cX9_read 31 = .ok (.ifCond .ne 9, 3) := by decide +kernel
theorem dX9_read_34 : decode cX9_read 34 = .ok (.ldc2_w 401, 3) := by decide +kernel
theorem dX9_read_37 : decode cX9_read 37 = .ok (.goto 14, 3) := by decide +kernel
theorem dX9_read_40 : decode cX9_read 40 = .ok (.aload_n 0, 1) := by decide +kernel
theorem dX9_read_41 : decode cX9_read 41 = .ok (.getfield 241, 3) := by decide +kernel
theorem dX9_read_44 : decode cX9_read 44 = .ok (.bipush 60, 2) := by decide +kernel
theorem dX9_read_46 : decode cX9_read 46 = .ok (.iload_n 1, 1) := by decide +kernel
theorem dX9_read_47 : decode cX9_read 47 = .ok (.imul, 1) := by decide +kernel
theorem dX9_read_48 : decode cX9_read 48 = .ok (.iload_n 2, 1) := by decide +kernel
theorem dX9_read_49 : decode cX9_read 49 = .ok (.iadd, 1) := by decide +kernel
theorem dX9_read_50 : decode cX9_read 50 = .ok (.laload, 1) := by decide +kernel
theorem dX9_read_51 : decode cX9_read 51 = .ok (.lreturn, 1) := by decide +kernel
theorem dX9_shift_0 : decode cX9_shift 0 = .ok (.aload_n 0, 1) := by decide +kernel
theorem dX9_shift_1 : decode cX9_shift 1 = .ok (.iload_n 1, 1) := by decide +kernel
theorem dX9_shift_2 : decode cX9_shift 2 = .ok (.invokevirtual 414, 3) := by decide +kernel
theorem dX9_shift_5 : decode cX9_shift 5 = .ok (.ifCond .eq 11, 3) := by decide +kernel
theorem dX9_shift_8 : decode cX9_shift 8 = .ok (.aload_n 0, 1) := by decide +kernel
theorem dX9_shift_9 : decode cX9_shift 9 = .ok (.iload_n 3, 1) := by decide +kernel
theorem dX9_shift_10 : decode cX9_shift 10 = .ok (.invokevirtual 414, 3) := by decide +kernel
theorem dX9_shift_13 : decode cX9_shift 13 = .ok (.ifCond .ne 5, 3) := by decide +kernel
theorem dX9_shift_16 : decode cX9_shift 16 = .ok (.iconst (-1), 1) := by decide +kernel
theorem dX9_shift_17 : decode cX9_shift 17 = .ok (.ireturn, 1) := by decide +kernel
theorem dX9_shift_18 : decode cX9_shift 18 = .ok (.aload_n 0, 1) := by decide +kernel
theorem dX9_shift_19 : decode cX9_shift 19 = .ok (.getfield 235, 3) := by decide +kernel
theorem dX9_shift_22 : decode cX9_shift 22 = .ok (.iload_n 1, 1) := by decide +kernel
theorem dX9_shift_23 : decode cX9_shift 23 = .ok (.iaload, 1) := by decide +kernel
theorem dX9_shift_24 : decode cX9_shift 24 = .ok (.ifCond .lt 12, 3) := by decide +kernel
theorem dX9_shift_27 : decode cX9_shift 27 = .ok (.aload_n 0, 1) := by decide +kernel
theorem dX9_shift_28 : decode cX9_shift 28 = .ok (.getfield 235, 3) := by decide +kernel
theorem dX9_shift_31 : decode cX9_shift 31 = .ok (.iload_n 3, 1) := by decide +kernel
theorem dX9_shift_32 : decode cX9_shift 32 = .ok (.iaload, 1) := by decide +kernel
theorem dX9_shift_33 : decode cX9_shift 33 = .ok (.ifCond .ge 6, 3) := by decide +kernel
theorem dX9_shift_36 : decode cX9_shift 36 = .ok (.bipush (-11), 2) := by decide +kernel
theorem dX9_shift_38 : decode cX9_shift 38 = .ok (.ireturn, 1) := by decide +kernel
theorem dX9_shift_39 : decode cX9_shift 39 = .ok (.aload_n 0, 1) := by decide +kernel
theorem dX9_shift_40 : decode cX9_shift 40 = .ok (.getfield 235, 3) := by decide +kernel
theorem dX9_shift_43 : decode cX9_shift 43 = .ok (.iload_n 1, 1) := by decide +kernel
theorem dX9_shift_44 : decode cX9_shift 44 = .ok (.iaload, 1) := by decide +kernel
theorem dX9_shift_45 : decode cX9_shift 45 = .ok (.aload_n 0, 1) := by decide +kernel
theorem dX9_shift_46 : decode cX9_shift 46 = .ok (.getfield 235, 3) := by decide +kernel
theorem dX9_shift_49 : decode cX9_shift 49 = .ok (.iload_n 3, 1) := by decide +kernel
theorem dX9_shift_50 : decode cX9_shift 50 = .ok (.iaload, 1) := by decide +kernel
theorem dX9_shift_51 : decode cX9_shift 51 = .ok (.if_icmp .eq 6, 3) := by decide +kernel
theorem dX9_shift_54 : decode cX9_shift 54 = .ok (.bipush (-12), 2) := by decide +kernel
theorem dX9_shift_56 : decode cX9_shift 56 = .ok (.ireturn, 1) := by decide +kernel
theorem dX9_shift_57 : decode cX9_shift 57 = .ok (.iload 5, 2) := by decide +kernel
theorem dX9_shift_59 : decode cX9_shift 59 = .ok (.ifCond .lt 39, 3) := by decide +kernel
theorem dX9_shift_62 : decode cX9_shift 62 = .ok (.iload_n 2, 1) := by decide +kernel
theorem dX9_shift_63 : decode cX9_shift 63 = .ok (.ifCond .lt 35, 3) := by decide +kernel
theorem dX9_shift_66 : decode cX9_shift 66 = .ok (.iload 4, 2) := by decide +kernel
theorem dX9_shift_68 : decode cX9_shift 68 = .ok (.ifCond .lt 30, 3) := by decide +kernel
theorem dX9_shift_71 : decode cX9_shift 71 = .ok (.iload_n 2, 1) := by decide +kernel
theorem dX9_shift_72 : decode cX9_shift 72 = .ok (.aload_n 0, 1) := by decide +kernel
theorem dX9_shift_73 : decode cX9_shift 73 = .ok (.getfield 238, 3) := by decide +kernel
theorem dX9_shift_76 : decode cX9_shift 76 = .ok (.iload_n 1, 1) := by decide +kernel
theorem dX9_shift_77 : decode cX9_shift 77 = .ok (.iaload, 1) := by decide +kernel
theorem dX9_shift_78 : decode cX9_shift 78 = .ok (.iload 5, 2) := by decide +kernel
theorem dX9_shift_80 : decode cX9_shift 80 = .ok (.isub, 1) := by decide +kernel
theorem dX9_shift_81 : decode cX9_shift 81 = .ok (.if_icmp .gt 17, 3) := by decide +kernel
theorem dX9_shift_84 : decode cX9_shift 84 = .ok (.iload 4, 2) := by decide +kernel
theorem dX9_shift_86 : decode cX9_shift 86 = .ok (.aload_n 0, 1) := by decide +kernel
theorem dX9_shift_87 : decode cX9_shift 87 = .ok (.getfield 238, 3) := by decide +kernel
theorem dX9_shift_90 : decode cX9_shift 90 = .ok (.iload_n 3, 1) := by decide +kernel
theorem dX9_shift_91 : decode cX9_shift 91 = .ok (.iaload, 1) := by decide +kernel
theorem dX9_shift_92 : decode cX9_shift 92 = .ok (.iload 5, 2) := by decide +kernel
theorem dX9_shift_94 : decode cX9_shift 94 = .ok (.isub, 1) := by decide +kernel
theorem dX9_shift_95 : decode cX9_shift 95 = .ok (.if_icmp .le 6, 3) := by decide +kernel
theorem dX9_shift_98 : decode cX9_shift 98 = .ok (.bipush (-13), 2) := by decide +kernel
theorem dX9_shift_100 : decode cX9_shift 100 = .ok (.ireturn, 1) := by decide +kernel
theorem dX9_shift_101 : decode cX9_shift 101 = .ok (.iconst 0, 1) := by decide +kernel
theorem dX9_shift_102 : decode cX9_shift 102 = .ok (.istore 6, 2) := by decide +kernel
theorem dX9_shift_104 : decode cX9_shift 104 = .ok (.iload 6, 2) := by decide +kernel
theorem dX9_shift_106 : decode cX9_shift 106 = .ok (.iload 5, 2) := by decide +kernel
theorem dX9_shift_108 : decode cX9_shift 108 = .ok (.if_icmp .ge 30, 3) := by decide +kernel
theorem dX9_shift_111 : decode cX9_shift 111 = .ok (.aload_n 0, 1) := by decide +kernel
theorem dX9_shift_112 : decode cX9_shift 112 = .ok (.getfield 245, 3) := by decide +kernel
theorem dX9_shift_115 : decode cX9_shift 115 = .ok (.iload 6, 2) := by decide +kernel
theorem dX9_shift_117 : decode cX9_shift 117 = .ok (.aload_n 0, 1) := by decide +kernel
theorem dX9_shift_118 : decode cX9_shift 118 = .ok (.getfield 241, 3) := by decide +kernel
theorem dX9_shift_121 : decode cX9_shift 121 = .ok (.bipush 60, 2) := by decide +kernel
theorem dX9_shift_123 : decode cX9_shift 123 = .ok (.iload_n 1, 1) := by decide +kernel
theorem dX9_shift_124 : decode cX9_shift 124 = .ok (.imul, 1) := by decide +kernel
theorem dX9_shift_125 : decode cX9_shift 125 = .ok (.iload_n 2, 1) := by decide +kernel
theorem dX9_shift_126 : decode cX9_shift 126 = .ok (.iadd, 1) := by decide +kernel
theorem dX9_shift_127 : decode cX9_shift 127 = .ok (.iload 6, 2) := by decide +kernel
theorem dX9_shift_129 : decode cX9_shift 129 = .ok (.iadd, 1) := by decide +kernel
theorem dX9_shift_130 : decode cX9_shift 130 = .ok (.laload, 1) := by decide +kernel
theorem dX9_shift_131 : decode cX9_shift 131 = .ok (.lastore, 1) := by decide +kernel
theorem dX9_shift_132 : decode cX9_shift 132 = .ok (.iinc 6 1, 3) := by decide +kernel
theorem dX9_shift_135 : decode cX9_shift 135 = .ok (.goto (-31), 3) := by decide +kernel
theorem dX9_shift_138 : decode cX9_shift 138 = .ok (.iconst 0, 1) := by decide +kernel
theorem dX9_shift_139 : decode cX9_shift 139 = .ok (.istore 6, 2) := by decide +kernel
theorem dX9_shift_141 : decode cX9_shift 141 = .ok (.iload 6, 2) := by decide +kernel
theorem dX9_shift_143 : decode cX9_shift 143 = .ok (.iload 5, 2) := by decide +kernel
theorem dX9_shift_145 : decode cX9_shift 145 = .ok (.if_icmp .ge 31, 3) := by decide +kernel
theorem dX9_shift_148 : decode cX9_shift 148 = .ok (.aload_n 0, 1) := by decide +kernel
theorem dX9_shift_149 : decode cX9_shift 149 = .ok (.getfield 241, 3) := by decide +kernel
theorem dX9_shift_152 : decode cX9_shift 152 = .ok (.bipush 60, 2) := by decide +kernel
theorem dX9_shift_154 : decode cX9_shift 154 = .ok (.iload_n 3, 1) := by decide +kernel
theorem dX9_shift_155 : decode cX9_shift 155 = .ok (.imul, 1) := by decide +kernel
theorem dX9_shift_156 : decode cX9_shift 156 = .ok (.iload 4, 2) := by decide +kernel
theorem dX9_shift_158 : decode cX9_shift 158 = .ok (.iadd, 1) := by decide +kernel
theorem dX9_shift_159 : decode cX9_shift 159 = .ok (.iload 6, 2) := by decide +kernel
theorem dX9_shift_161 : decode cX9_shift 161 = .ok (.iadd, 1) := by decide +kernel
theorem dX9_shift_162 : decode cX9_shift 162 = .ok (.aload_n 0, 1) := by decide +kernel
theorem dX9_shift_163 : decode cX9_shift 163 = .ok (.getfield 245, 3) := by decide +kernel
theorem dX9_shift_166 : decode cX9_shift 166 = .ok (.iload 6, 2) := by decide +kernel
theorem dX9_shift_168 : decode cX9_shift 168 = .ok (.laload, 1) := by decide +kernel
theorem dX9_shift_169 : decode cX9_shift 169 = .ok (.lastore, 1) := by decide +kernel
theorem dX9_shift_170 : decode cX9_shift 170 = .ok (.iinc 6 1, 3) := by decide +kernel
theorem dX9_shift_173 : decode cX9_shift 173 = .ok (.goto (-32), 3) := by decide +kernel
theorem dX9_shift_176 : decode cX9_shift 176 = .ok (.iload 5, 2) := by decide +kernel
theorem dX9_shift_178 : decode cX9_shift 178 = .ok (.ireturn, 1) := by decide +kernel
