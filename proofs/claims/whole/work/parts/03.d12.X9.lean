theorem dX9_undo_70 : decode cX9_undo 70 = .ok (.aload_n 0, 1) := by decide +kernel
theorem dX9_undo_71 : decode cX9_undo 71 = .ok (.getfield 54, 3) := by decide +kernel
theorem dX9_undo_74 : decode cX9_undo 74 = .ok (.getfield 262, 3) := by decide +kernel
theorem dX9_undo_77 : decode cX9_undo 77 = .ok (.aload_n 0, 1) := by decide +kernel
theorem dX9_undo_78 : decode cX9_undo 78 = .ok (.getfield 54, 3) := by decide +kernel
theorem dX9_undo_81 : decode cX9_undo 81 = .ok (.getfield 107, 3) := by decide +kernel
theorem dX9_undo_84 : decode cX9_undo 84 = .ok (.iaload, 1) := by decide +kernel
theorem dX9_undo_85 : decode cX9_undo 85 = .ok (.istore_n 3, 1) := by decide +kernel
theorem dX9_undo_86 : decode cX9_undo 86 = .ok (.iload_n 1, 1) := by decide +kernel
theorem dX9_undo_87 : decode cX9_undo 87 = .ok (.iconst 3, 1) := by decide +kernel
theorem dX9_undo_88 : decode cX9_undo 88 = .ok (.if_icmp .ne 12, 3) := by decide +kernel
theorem dX9_undo_91 : decode cX9_undo 91 = .ok (.aload_n 0, 1) := by decide +kernel
theorem dX9_undo_92 : decode cX9_undo 92 = .ok (.iload_n 2, 1) := by decide +kernel
theorem dX9_undo_93 : decode cX9_undo 93 = .ok (.iload_n 3, 1) := by decide +kernel
theorem dX9_undo_94 : decode cX9_undo 94 = .ok (.invokevirtual 265, 3) := by decide +kernel
theorem dX9_undo_97 : decode cX9_undo 97 = .ok (.goto 18, 3) := by decide +kernel
theorem dX9_undo_100 : decode cX9_undo 100 = .ok (.aload_n 0, 1) := by decide +kernel
theorem dX9_undo_101 : decode cX9_undo 101 = .ok (.iload_n 2, 1) := by decide +kernel
theorem dX9_undo_102 : decode cX9_undo 102 = .ok (.invokevirtual 129, 3) := by decide +kernel
theorem dX9_undo_105 : decode cX9_undo 105 = .ok (.ifCond .eq 10, 3) := by decide +kernel
theorem dX9_undo_108 : decode cX9_undo 108 = .ok (.aload_n 0, 1) := by decide +kernel
theorem dX9_undo_109 : decode cX9_undo 109 = .ok (.iload_n 1, 1) := by decide +kernel
theorem dX9_undo_110 : decode cX9_undo 110 = .ok (.iload_n 2, 1) := by decide +kernel
theorem dX9_undo_111 : decode cX9_undo 111 = .ok (.iload_n 3, 1) := by decide +kernel
theorem dX9_undo_112 : decode cX9_undo 112 = .ok (.invokevirtual 268, 3) := by decide +kernel
theorem dX9_undo_115 : decode cX9_undo 115 = .ok (.aload_n 0, 1) := by decide +kernel
theorem dX9_undo_116 : decode cX9_undo 116 = .ok (.getfield 54, 3) := by decide +kernel
theorem dX9_undo_119 : decode cX9_undo 119 = .ok (.getfield 107, 3) := by decide +kernel
theorem dX9_undo_122 : decode cX9_undo 122 = .ok (.ireturn, 1) := by decide +kernel
theorem dX9_undoWetting_0 : decode cX9_undoWetting 0 = .ok (.aload_n 0, 1) := by decide +kernel
theorem dX9_undoWetting_1 : decode cX9_undoWetting 1 = .ok (.iload_n 1, 1) := by decide +kernel
theorem dX9_undoWetting_2 : decode cX9_undoWetting 2 = .ok (.invokevirtual 174, 3) := by decide +kernel
theorem dX9_undoWetting_5 : decode cX9_undoWetting 5 = .ok (.ifCond .eq 13, 3) := by decide +kernel
theorem dX9_undoWetting_8 : decode cX9_undoWetting 8 = .ok (.aload_n 0, 1) := by decide +kernel
theorem dX9_undoWetting_9 : decode cX9_undoWetting 9 = .ok (.getfield 41, 3) := by decide +kernel
theorem dX9_undoWetting_12 : decode cX9_undoWetting 12 = .ok (.getfield 183, 3) := by decide +kernel
theorem dX9_undoWetting_15 : decode cX9_undoWetting 15 = .ok (.iload_n 1, 1) := by decide +kernel
theorem dX9_undoWetting_16 : decode cX9_undoWetting 16 = .ok (.iload_n 2, 1) := by decide +kernel
theorem dX9_undoWetting_17 : decode cX9_undoWetting 17 = .ok (.iastore, 1) := by decide +kernel
theorem dX9_undoWetting_18 : decode cX9_undoWetting 18 = .ok (.return_, 1) := by decide +kernel
theorem dX9_undoToMan_0 : decode cX9_undoToMan 0 = .ok (.iload_n 1, 1) := by decide +kernel
theorem dX9_undoToMan_1 : decode cX9_undoToMan 1 = .ok (.ifCond .ne 32, 3) := by decide +kernel
theorem dX9_undoToMan_4 : decode cX9_undoToMan 4 = .ok (.aload_n 0, 1) := by decide +kernel
theorem dX9_undoToMan_5 : decode cX9_undoToMan 5 = .ok (.getfield 41, 3) := by decide +kernel
theorem dX9_undoToMan_8 : decode cX9_undoToMan 8 = .ok (.dup, 1) := by decide +kernel
theorem dX9_undoToMan_9 : decode cX9_undoToMan 9 = .ok (.getfield 227, 3) := by decide +kernel
theorem dX9_undoToMan_12 : decode cX9_undoToMan 12 = .ok (.iload_n 3, 1) := by decide +kernel
theorem dX9_undoToMan_13 : decode cX9_undoToMan 13 = .ok (.iadd, 1) := by decide +kernel
theorem dX9_undoToMan_14 : decode cX9_undoToMan 14 = .ok (.putfield 227, 3) := by decide +kernel
theorem dX9_undoToMan_17 : decode cX9_undoToMan 17 = .ok (.aload_n 0, 1) := by decide +kernel
theorem dX9_undoToMan_18 : decode cX9_undoToMan 18 = .ok (.getfield 41, 3) := by decide +kernel
theorem dX9_undoToMan_21 : decode cX9_undoToMan 21 = .ok (.getfield 149, 3) := by decide +kernel
theorem dX9_undoToMan_24 : decode cX9_undoToMan 24 = .ok (.iload_n 2, 1) := by decide +kernel
theorem dX9_undoToMan_25 : decode cX9_undoToMan 25 = .ok (.dup2, 1) := by decide +kernel
theorem dX9_undoToMan_26 : decode cX9_undoToMan 26 = .ok (.iaload, 1) := by decide +kernel
theorem dX9_undoToMan_27 : decode cX9_undoToMan 27 = .ok (.iload_n 3, 1) := by decide +kernel
theorem dX9_undoToMan_28 : decode cX9_undoToMan 28 = .ok (.isub, 1) := by decide +kernel
theorem dX9_undoToMan_29 : decode cX9_undoToMan 29 = .ok (.iastore, 1) := by decide +kernel
theorem dX9_undoToMan_30 : decode cX9_undoToMan 30 = .ok (.goto 46, 3) := by decide +kernel
theorem dX9_undoToMan_33 : decode cX9_undoToMan 33 = .ok (.iload_n 1, 1) := by decide +kernel
theorem dX9_undoToMan_34 : decode cX9_undoToMan 34 = .ok (.iconst 2, 1) := by decide +kernel
theorem dX9_undoToMan_35 : decode cX9_undoToMan 35 = .ok (.if_icmp .ne 32, 3) := by decide +kernel
theorem dX9_undoToMan_38 : decode cX9_undoToMan 38 = .ok (.aload_n 0, 1) := by decide +kernel
theorem dX9_undoToMan_39 : decode cX9_undoToMan 39 = .ok (.getfield 41, 3) := by decide +kernel
theorem dX9_undoToMan_42 : decode cX9_undoToMan 42 = .ok (.getfield 165, 3) := by decide +kernel
theorem dX9_undoToMan_45 : decode cX9_undoToMan 45 = .ok (.iload_n 2, 1) := by decide +kernel
theorem dX9_undoToMan_46 : decode cX9_undoToMan 46 = .ok (.aload_n 0, 1) := by decide +kernel
theorem dX9_undoToMan_47 : decode cX9_undoToMan 47 = .ok (.getfield 41, 3) := by decide +kernel
theorem dX9_undoToMan_50 : decode cX9_undoToMan 50 = .ok (.getfield 165, 3) := by decide +kernel
theorem dX9_undoToMan_53 : decode cX9_undoToMan 53 = .ok (.iload_n 2, 1) := by decide +kernel
theorem dX9_undoToMan_54 : decode cX9_undoToMan 54 = .ok (.baload, 1) := by decide +kernel
theorem dX9_undoToMan_55 : decode cX9_undoToMan 55 = .ok (.ifCond .ne 7, 3) := by decide +kernel
theorem dX9_undoToMan_58 : decode cX9_undoToMan 58 = .ok (.iconst 1, 1) := by decide +kernel
theorem dX9_undoToMan_59 : decode cX9_undoToMan 59 = .ok (.goto 4, 3) := by decide +kernel
theorem dX9_undoToMan_62 : decode cX9_undoToMan 62 = .ok (.iconst 0, 1) := by decide +kernel
theorem dX9_undoToMan_63 : decode cX9_undoToMan 63 = .ok (.bastore, 1) := by decide +kernel
theorem dX9_undoToMan_64 : decode cX9_undoToMan 64 = .ok (.goto 12, 3) := by decide +kernel
theorem dX9_undoToMan_67 : decode cX9_undoToMan 67 = .ok (.aload_n 0, 1) := by decide +kernel
theorem dX9_undoToMan_68 : decode cX9_undoToMan 68 = .ok (.getfield 41, 3) := by decide +kernel
theorem dX9_undoToMan_71 : decode cX9_undoToMan 71 = .ok (.iload_n 2, 1) := by decide +kernel
theorem dX9_undoToMan_72 : decode cX9_undoToMan 72 = .ok (.iload_n 3, 1) := by decide +kernel
theorem dX9_undoToMan_73 : decode cX9_undoToMan 73 = .ok (.invokevirtual 247, 3) := by decide +kernel
theorem dX9_undoToMan_76 : decode cX9_undoToMan 76 = .ok (.return_, 1) := by decide +kernel
theorem dX9_go_0 : decode cX9_go 0 = .ok (.iload_n 1, 1) := by decide +kernel
theorem dX9_go_1 : decode cX9_go 1 = .ok (.ifCond .lt 24, 3) := by decide +kernel
theorem dX9_go_4 : decode cX9_go 4 = .ok (.iload_n 1, 1) := by decide +kernel
theorem dX9_go_5 : decode cX9_go 5 = .ok (.bipush 99, 2) := by decide +kernel
theorem dX9_go_7 : decode cX9_go 7 = .ok (.if_icmp .gt 18, 3) := by decide +kernel
theorem dX9_go_10 : decode cX9_go 10 = .ok (.aload_n 0, 1) := by decide +kernel
theorem dX9_go_11 : decode cX9_go 11 = .ok (.getfield 41, 3) := by decide +kernel
theorem dX9_go_14 : decode cX9_go 14 = .ok (.getfield 215, 3) := by decide +kernel
theorem dX9_go_17 : decode cX9_go 17 = .ok (.iload_n 1, 1) := by decide +kernel
theorem dX9_go_18 : decode cX9_go 18 = .ok (.iadd, 1) := by decide +kernel
theorem dX9_go_19 : decode cX9_go 19 = .ok (.sipush 9900, 3) := by decide +kernel
theorem dX9_go_22 : decode cX9_go 22 = .ok (.if_icmp .le 5, 3) := by decide +kernel
theorem dX9_go_25 : decode cX9_go 25 = .ok (.iconst (-1), 1) := by decide +kernel
theorem dX9_go_26 : decode cX9_go 26 = .ok (.ireturn, 1) := by decide +kernel
theorem dX9_go_27 : decode cX9_go 27 = .ok (.iconst 0, 1) := by decide +kernel
theorem dX9_go_28 : decode cX9_go 28 = .ok (.istore_n 2, 1) := by decide +kernel
theorem dX9_go_29 : decode cX9_go 29 = .ok (.iload_n 2, 1) := by decide +kernel
theorem dX9_go_30 : decode cX9_go 30 = .ok (.iload_n 1, 1) := by decide +kernel
theorem dX9_go_31 : decode cX9_go 31 = .ok (.if_icmp .ge 17, 3) := by decide +kernel
theorem dX9_go_34 : decode cX9_go 34 = .ok (.aload_n 0, 1) := by decide +kernel
theorem dX9_go_35 : decode cX9_go 35 = .ok (.getfield 41, 3) := by decide +kernel
theorem dX9_go_38 : decode cX9_go 38 = .ok (.iconst 1, 1) := by decide +kernel
theorem dX9_go_39 : decode cX9_go 39 = .ok (.invokevirtual 271, 3) := by decide +kernel
theorem dX9_go_42 : decode cX9_go 42 = .ok (.iinc 2 1, 3) := by decide +kernel
theorem dX9_go_45 : decode cX9_go 45 = .ok (.goto (-16), 3) := by decide +kernel
theorem dX9_go_48 : decode cX9_go 48 = .ok (.iload_n 1, 1) := by decide +kernel
theorem dX9_go_49 : decode cX9_go 49 = .ok (.ifCond .le 11, 3) := by decide +kernel
theorem dX9_go_52 : decode cX9_go 52 = .ok (.aload_n 0, 1) := by decide +kernel
theorem dX9_go_53 : decode cX9_go 53 = .ok (.getfield 54, 3) := by decide +kernel
theorem dX9_go_56 : decode cX9_go 56 = .ok (.iconst 0, 1) := by decide +kernel
theorem dX9_go_57 : decode cX9_go 57 = .ok (.putfield 107, 3) := by decide +kernel
theorem dX9_go_60 : decode cX9_go 60 = .ok (.aload_n 0, 1) := by decide +kernel
theorem dX9_go_61 : decode cX9_go 61 = .ok (.getfield 41, 3) := by decide +kernel
theorem dX9_go_64 : decode cX9_go 64 = .ok (.getfield 215, 3) := by decide +kernel
theorem dX9_go_67 : decode cX9_go 67 = .ok (.ireturn, 1) := by decide +kernel
theorem dX9_keep_0 : decode cX9_keep 0 = .ok (.aload_n 0, 1) := by decide +kernel
theorem dX9_keep_1 : decode cX9_keep 1 = .ok (.getfield 48, 3) := by decide +kernel
theorem dX9_keep_4 : decode cX9_keep 4 = .ok (.aload_n 0, 1) := by decide +kernel
theorem dX9_keep_5 : decode cX9_keep 5 = .ok (.getfield 41, 3) := by decide +kernel
theorem dX9_keep_8 : decode cX9_keep 8 = .ok (.invokevirtual 275, 3) := by decide +kernel
theorem dX9_keep_11 : decode cX9_keep 11 = .ok (.aload_n 0, 1) := by decide +kernel
theorem dX9_keep_12 : decode cX9_keep 12 = .ok (.iconst 1, 1) := by decide +kernel
theorem dX9_keep_13 : decode cX9_keep 13 = .ok (.putfield 103, 3) := by decide +kernel
theorem dX9_keep_16 : decode cX9_keep 16 = .ok (.aload_n 0, 1) := by decide +kernel
theorem dX9_keep_17 : decode cX9_keep 17 = .ok (.getfield 41, 3) := by decide +kernel
theorem dX9_keep_20 : decode cX9_keep 20 = .ok (.getfield 215, 3) := by decide +kernel
theorem dX9_keep_23 : decode cX9_keep 23 = .ok (.ireturn, 1) := by decide +kernel
theorem dX9_back_0 : decode cX9_back 0 = .ok (.aload_n 0, 1) := by decide +kernel
theorem dX9_back_1 : decode cX9_back 1 = .ok (.getfield 103, 3) := by decide +kernel
theorem dX9_back_4 : decode cX9_back 4 = .ok (.ifCond .ne 5, 3) := by decide +kernel
theorem dX9_back_7 : decode cX9_back 7 = .ok (.iconst (-1), 1) := by decide +kernel
theorem dX9_back_8 : decode cX9_back 8 = .ok (.ireturn, 1) := by decide +kernel
theorem dX9_back_9 : decode cX9_back 9 = .ok (.aload_n 0, 1) := by decide +kernel
theorem dX9_back_10 : decode cX9_back 10 = .ok (.getfield 41, 3) := by decide +kernel
theorem dX9_back_13 : decode cX9_back 13 = .ok (.aload_n 0, 1) := by decide +kernel
theorem dX9_back_14 : decode cX9_back 14 = .ok (.getfield 48, 3) := by decide +kernel
theorem dX9_back_17 : decode cX9_back 17 = .ok (.invokevirtual 275, 3) := by decide +kernel
theorem dX9_back_20 : decode cX9_back 20 = .ok (.aload_n 0, 1) := by decide +kernel
theorem dX9_back_21 : decode cX9_back 21 = .ok (.getfield 54, 3) := by decide +kernel
theorem dX9_back_24 : decode cX9_back 24 = .ok (.iconst 0, 1) := by decide +kernel
theorem dX9_back_25 : decode cX9_back 25 = .ok (.putfield 107, 3) := by decide +kernel
theorem dX9_back_28 : decode cX9_back 28 = .ok (.aload_n 0, 1) := by decide +kernel
theorem dX9_back_29 : decode cX9_back 29 = .ok (.getfield 41, 3) := by decide +kernel
theorem dX9_back_32 : decode cX9_back 32 = .ok (.getfield 215, 3) := by decide +kernel
theorem dX9_back_35 : decode cX9_back 35 = .ok (.ireturn, 1) := by decide +kernel
theorem dX9_isCount_0 : decode cX9_isCount 0 = .ok (.iload_n 0, 1) := by decide +kernel
theorem dX9_isCount_1 : decode cX9_isCount 1 = .ok (.ifCond .lt 13, 3) := by decide +kernel
theorem dX9_isCount_4 : decode cX9_isCount 4 = .ok (.iload_n 0, 1) := by decide +kernel
theorem dX9_isCount_5 : decode cX9_isCount 5 = .ok (.bipush 99, 2) := by decide +kernel
theorem dX9_isCount_7 : decode cX9_isCount 7 = .ok (.if_icmp .gt 7, 3) := by decide +kernel
theorem dX9_isCount_10 : decode cX9_isCount 10 = .ok (.iconst 1, 1) := by decide +kernel
theorem dX9_isCount_11 : decode cX9_isCount 11 = .ok (.goto 4, 3) := by decide +kernel
theorem dX9_isCount_14 : decode cX9_isCount 14 = .ok (.iconst 0, 1) := by decide +kernel
theorem dX9_isCount_15 : decode cX9_isCount 15 = .ok (.ireturn, 1) := by decide +kernel
theorem dX9_ahead_0 : decode cX9_ahead 0 = .ok (.iload_n 1, 1) := by decide +kernel
theorem dX9_ahead_1 : decode cX9_ahead 1 = .ok (.invokestatic 279, 3) := by decide +kernel
theorem dX9_ahead_4 : decode cX9_ahead 4 = .ok (.ifCond .eq 12, 3) := by decide +kernel
theorem dX9_ahead_7 : decode cX9_ahead 7 = .ok (.iload_n 2, 1) := by decide +kernel
theorem dX9_ahead_8 : decode cX9_ahead 8 = .ok (.ifCond .lt 8, 3) := by decide +kernel
theorem dX9_ahead_11 : decode cX9_ahead 11 = .ok (.iload_n 2, 1) := by decide +kernel
theorem dX9_ahead_12 : decode cX9_ahead 12 = .ok (.iconst 4, 1) := by decide +kernel
theorem dX9_ahead_13 : decode cX9_ahead 13 = .ok (.if_icmp .le 5, 3) := by decide +kernel
theorem dX9_ahead_16 : decode cX9_ahead 16 = .ok (.iconst (-1), 1) := by decide +kernel
theorem dX9_ahead_17 : decode cX9_ahead 17 = .ok (.ireturn, 1) := by decide +kernel
theorem dX9_ahead_18 : decode cX9_ahead 18 = .ok (.aload_n 0, 1) := by decide +kernel
theorem dX9_ahead_19 : decode cX9_ahead 19 = .ok (.getfield 45, 3) := by decide +kernel
theorem dX9_ahead_22 : decode cX9_ahead 22 = .ok (.aload_n 0, 1) := by decide +kernel
theorem dX9_ahead_23 : decode cX9_ahead 23 = .ok (.getfield 41, 3) := by decide +kernel
theorem dX9_ahead_26 : decode cX9_ahead 26 = .ok (.invokevirtual 275, 3) := by decide +kernel
theorem dX9_ahead_29 : decode cX9_ahead 29 = .ok (.iconst 0, 1) := by decide +kernel
theorem dX9_ahead_30 : decode cX9_ahead 30 = .ok (.istore_n 3, 1) := by decide +kernel
theorem dX9_ahead_31 : decode cX9_ahead 31 = .ok (.iload_n 3, 1) := by decide +kernel
theorem dX9_ahead_32 : decode cX9_ahead 32 = .ok (.iload_n 1, 1) := by decide +kernel
theorem dX9_ahead_33 : decode cX9_ahead 33 = .ok (.if_icmp .ge 17, 3) := by decide +kernel
theorem dX9_ahead_36 : decode cX9_ahead 36 = .ok (.aload_n 0, 1) := by decide +kernel
theorem dX9_ahead_37 : decode cX9_ahead 37 = .ok (.getfield 45, 3) := by decide +kernel
theorem dX9_ahead_40 : decode cX9_ahead 40 = .ok (.iconst 0, 1) := by decide +kernel
theorem dX9_ahead_41 : decode cX9_ahead 41 = .ok (.invokevirtual 271, 3) := by decide +kernel
theorem dX9_ahead_44 : decode cX9_ahead 44 = .ok (.iinc 3 1, 3) := by decide +kernel
theorem dX9_ahead_47 : decode cX9_ahead 47 = .ok (.goto (-16), 3) := by decide +kernel
theorem dX9_ahead_50 : decode cX9_ahead 50 = .ok (.iload_n 2, 1) := by decide +kernel
theorem dX9_ahead_51 : decode cX9_ahead 51 = .ok (.tableswitch 91 0 3 #[29, 47, 65, 83], 29) := by decide +kernel
theorem dX9_ahead_80 : decode cX9_ahead 80 = .ok (.aload_n 0, 1) := by decide +kernel
theorem dX9_ahead_81 : decode cX9_ahead 81 = .ok (.getfield 45, 3) := by decide +kernel
theorem dX9_ahead_84 : decode cX9_ahead 84 = .ok (.iconst 2, 1) := by decide +kernel
theorem dX9_ahead_85 : decode cX9_ahead 85 = .ok (.invokevirtual 218, 3) := by decide +kernel
theorem dX9_ahead_88 : decode cX9_ahead 88 = .ok (.aload_n 0, 1) := by decide +kernel
theorem dX9_ahead_89 : decode cX9_ahead 89 = .ok (.getfield 41, 3) := by decide +kernel
theorem dX9_ahead_92 : decode cX9_ahead 92 = .ok (.iconst 2, 1) := by decide +kernel
theorem dX9_ahead_93 : decode cX9_ahead 93 = .ok (.invokevirtual 218, 3) := by decide +kernel
theorem dX9_ahead_96 : decode cX9_ahead 96 = .ok (.isub, 1) := by decide +kernel
theorem dX9_ahead_97 : decode cX9_ahead 97 = .ok (.ireturn, 1) := by decide +kernel
theorem dX9_ahead_98 : decode cX9_ahead 98 = .ok (.aload_n 0, 1) := by decide +kernel
theorem dX9_ahead_99 : decode cX9_ahead 99 = .ok (.getfield 45, 3) := by decide +kernel
theorem dX9_ahead_102 : decode cX9_ahead 102 = .ok (.iconst 3, 1) := by decide +kernel
theorem dX9_ahead_103 : decode cX9_ahead 103 = .ok (.invokevirtual 218, 3) := by decide +kernel
theorem dX9_ahead_106 : decode cX9_ahead 106 = .ok (.aload_n 0, 1) := by decide +kernel
theorem dX9_ahead_107 : decode cX9_ahead 107 = .ok (.getfield 41, 3) := by decide +kernel
theorem dX9_ahead_110 : decode cX9_ahead 110 = .ok (.iconst 3, 1) := by decide +kernel
theorem dX9_ahead_111 : decode cX9_ahead 111 = .ok (.invokevirtual 218, 3) := by decide +kernel
theorem dX9_ahead_114 : decode cX9_ahead 114 = .ok (.isub, 1) := by decide +kernel
theorem dX9_ahead_115 : decode cX9_ahead 115 = .ok (.ireturn, 1) := by decide +kernel
theorem dX9_ahead_116 : decode cX9_ahead 116 = .ok (.aload_n 0, 1) := by decide +kernel
theorem dX9_ahead_117 : decode cX9_ahead 117 = .ok (.getfield 45, 3) := by decide +kernel
theorem dX9_ahead_120 : decode cX9_ahead 120 = .ok (.iconst 2, 1) := by decide +kernel
theorem dX9_ahead_121 : decode cX9_ahead 121 = .ok (.invokevirtual 221, 3) := by decide +kernel
theorem dX9_ahead_124 : decode cX9_ahead 124 = .ok (.aload_n 0, 1) := by decide +kernel
theorem dX9_ahead_125 : decode cX9_ahead 125 = .ok (.getfield 41, 3) := by decide +kernel
theorem dX9_ahead_128 : decode cX9_ahead 128 = .ok (.iconst 2, 1) := by decide +kernel
theorem dX9_ahead_129 : decode cX9_ahead 129 = .ok (.invokevirtual 221, 3) := by decide +kernel
theorem dX9_ahead_132 : decode cX9_ahead 132 = .ok (.isub, 1) := by decide +kernel
theorem dX9_ahead_133 : decode cX9_ahead 133 = .ok (.ireturn, 1) := by decide +kernel
theorem dX9_ahead_134 : decode cX9_ahead 134 = .ok (.aload_n 0, 1) := by decide +kernel
theorem dX9_ahead_135 : decode cX9_ahead 135 = .ok (.getfield 45, 3) := by decide +kernel
theorem dX9_ahead_138 : decode cX9_ahead 138 = .ok (.getfield 224, 3) := by decide +kernel
theorem dX9_ahead_141 : decode cX9_ahead 141 = .ok (.ireturn, 1) := by decide +kernel
theorem dX9_ahead_142 : decode cX9_ahead 142 = .ok (.aload_n 0, 1) := by decide +kernel
theorem dX9_ahead_143 : decode cX9_ahead 143 = .ok (.getfield 45, 3) := by decide +kernel
theorem dX9_ahead_146 : decode cX9_ahead 146 = .ok (.getfield 227, 3) := by decide +kernel
theorem dX9_ahead_149 : decode cX9_ahead 149 = .ok (.ireturn, 1) := by decide +kernel
theorem dX9_goes_0 : decode cX9_goes 0 = .ok (.aload_n 0, 1) := by decide +kernel
theorem dX9_goes_1 : decode cX9_goes 1 = .ok (.iload_n 1, 1) := by decide +kernel
theorem dX9_goes_2 : decode cX9_goes 2 = .ok (.invokevirtual 129, 3) := by decide +kernel
theorem dX9_goes_5 : decode cX9_goes 5 = .ok (.ifCond .ne 5, 3) := by decide +kernel
theorem dX9_goes_8 : decode cX9_goes 8 = .ok (.iconst (-1), 1) := by decide +kernel
theorem dX9_goes_9 : decode cX9_goes 9 = .ok (.ireturn, 1) := by decide +kernel
theorem dX9_goes_10 : decode cX9_goes 10 = .ok (.aload_n 0, 1) := by decide +kernel
theorem dX9_goes_11 : decode cX9_goes 11 = .ok (.getfield 45, 3) := by decide +kernel
theorem dX9_goes_14 : decode cX9_goes 14 = .ok (.aload_n 0, 1) := by decide +kernel
theorem dX9_goes_15 : decode cX9_goes 15 = .ok (.getfield 41, 3) := by decide +kernel
theorem dX9_goes_18 : decode cX9_goes 18 = .ok (.invokevirtual 275, 3) := by decide +kernel
theorem dX9_goes_21 : decode cX9_goes 21 = .ok (.iconst 1, 1) := by decide +kernel
theorem dX9_goes_22 : decode cX9_goes 22 = .ok (.istore_n 2, 1) := by decide +kernel
theorem dX9_goes_23 : decode cX9_goes 23 = .ok (.iload_n 2, 1) := by decide +kernel
theorem dX9_goes_24 : decode cX9_goes 24 = .ok (.bipush 99, 2) := by decide +kernel
theorem dX9_goes_26 : decode cX9_goes 26 = .ok (.if_icmp .gt 33, 3) := by decide +kernel
theorem dX9_goes_29 : decode cX9_goes 29 = .ok (.aload_n 0, 1) := by decide +kernel
theorem dX9_goes_30 : decode cX9_goes 30 = .ok (.getfield 45, 3) := by decide +kernel
theorem dX9_goes_33 : decode cX9_goes 33 = .ok (.iconst 0, 1) := by decide +kernel
theorem dX9_goes_34 : decode cX9_goes 34 = .ok (.invokevirtual 271, 3) := by decide +kernel
theorem dX9_goes_37 : decode cX9_goes 37 = .ok (.aload_n 0, 1) := by decide +kernel
theorem dX9_goes_38 : decode cX9_goes 38 = .ok (.getfield 45, 3) := by decide +kernel
theorem dX9_goes_41 : decode cX9_goes 41 = .ok (.getfield 282, 3) := by decide +kernel
theorem dX9_goes_44 : decode cX9_goes 44 = .ok (.iload_n 1, 1) := by decide +kernel
theorem dX9_goes_45 : decode cX9_goes 45 = .ok (.ishr, 1) := by decide +kernel
theorem dX9_goes_46 : decode cX9_goes 46 = .ok (.iconst 1, 1) := by decide +kernel
theorem dX9_goes_47 : decode cX9_goes 47 = .ok (.iand, 1) := by decide +kernel
theorem dX9_goes_48 : decode cX9_goes 48 = .ok (.ifCond .eq 5, 3) := by decide +kernel
theorem dX9_goes_51 : decode cX9_goes 51 = .ok (.iload_n 2, 1) := by decide +kernel
theorem dX9_goes_52 : decode cX9_goes 52 = .ok (.ireturn, 1) := by decide +kernel
theorem dX9_goes_53 : decode cX9_goes 53 = .ok (.iinc 2 1, 3) := by decide +kernel
theorem dX9_goes_56 : decode cX9_goes 56 = .ok (.goto (-33), 3) := by decide +kernel
theorem dX9_goes_59 : decode cX9_goes 59 = .ok (.bipush (-2), 2) := by decide +kernel
theorem dX9_goes_61 : decode cX9_goes 61 = .ok (.ireturn, 1) := by decide +kernel
theorem dX9_out_0 : decode cX9_out 0 = .ok (.aload_n 0, 1) := by decide +kernel
theorem dX9_out_1 : decode cX9_out 1 = .ok (.iload_n 1, 1) := by decide +kernel
theorem dX9_out_2 : decode cX9_out 2 = .ok (.invokevirtual 174, 3) := by decide +kernel
theorem dX9_out_5 : decode cX9_out 5 = .ok (.ifCond .ne 5, 3) := by decide +kernel
theorem dX9_out_8 : decode cX9_out 8 = .ok (.iconst (-1), 1) := by decide +kernel
theorem dX9_out_9 : decode cX9_out 9 = .ok (.ireturn, 1) := by decide +kernel
theorem dX9_out_10 : decode cX9_out 10 = .ok (.aload_n 0, 1) := by decide +kernel
theorem dX9_out_11 : decode cX9_out 11 = .ok (.getfield 45, 3) := by decide +kernel
theorem dX9_out_14 : decode cX9_out 14 = .ok (.aload_n 0, 1) := by decide +kernel
theorem dX9_out_15 : decode cX9_out 15 = .ok (.getfield 41, 3) := by decide +kernel
theorem dX9_out_18 : decode cX9_out 18 = .ok (.invokevirtual 275, 3) := by decide +kernel
theorem dX9_out_21 : decode cX9_out 21 = .ok (.iconst 0, 1) := by decide +kernel
theorem dX9_out_22 : decode cX9_out 22 = .ok (.istore_n 2, 1) := by decide +kernel
theorem dX9_out_23 : decode cX9_out 23 = .ok (.iload_n 2, 1) := by decide +kernel
theorem dX9_out_24 : decode cX9_out 24 = .ok (.bipush 99, 2) := by decide +kernel
theorem dX9_out_26 : decode cX9_out 26 = .ok (.if_icmp .gt 32, 3) := by decide +kernel
theorem dX9_out_29 : decode cX9_out 29 = .ok (.aload_n 0, 1) := by decide +kernel
theorem dX9_out_30 : decode cX9_out 30 = .ok (.getfield 45, 3) := by decide +kernel
theorem dX9_out_33 : decode cX9_out 33 = .ok (.getfield 186, 3) := by decide +kernel
theorem dX9_out_36 : decode cX9_out 36 = .ok (.iload_n 1, 1) := by decide +kernel
theorem dX9_out_37 : decode cX9_out 37 = .ok (.iaload, 1) := by decide +kernel
theorem dX9_out_38 : decode cX9_out 38 = .ok (.iconst 2, 1) := by decide +kernel
theorem dX9_out_39 : decode cX9_out 39 = .ok (.if_icmp .ne 5, 3) := by decide +kernel
theorem dX9_out_42 : decode cX9_out 42 = .ok (.iload_n 2, 1) := by decide +kernel
theorem dX9_out_43 : decode cX9_out 43 = .ok (.ireturn, 1) := by decide +kernel
theorem dX9_out_44 : decode cX9_out 44 = .ok (.aload_n 0, 1) := by decide +kernel
theorem dX9_out_45 : decode cX9_out 45 = .ok (.getfield 45, 3) := by decide +kernel
theorem dX9_out_48 : decode cX9_out 48 = .ok (.iconst 0, 1) := by decide +kernel
theorem dX9_out_49 : decode cX9_out 49 = .ok (.invokevirtual 271, 3) := by decide +kernel
theorem dX9_out_52 : decode cX9_out 52 = .ok (.iinc 2 1, 3) := by decide +kernel
theorem dX9_out_55 : decode cX9_out 55 = .ok (.goto (-32), 3) := by decide +kernel
theorem dX9_out_58 : decode cX9_out 58 = .ok (.bipush (-2), 2) := by decide +kernel
theorem dX9_out_60 : decode cX9_out 60 = .ok (.ireturn, 1) := by decide +kernel
theorem dX9_tried_0 : decode cX9_tried 0 = .ok (.iload_n 1, 1) := by decide +kernel
theorem dX9_tried_1 : decode cX9_tried 1 = .ok (.ifCond .lt 35, 3) := by decide +kernel
theorem dX9_tried_4 : decode cX9_tried 4 = .ok (.iload_n 1, 1) := by decide +kernel
theorem dX9_tried_5 : decode cX9_tried 5 = .ok (.iconst 5, 1) := by decide +kernel
theorem dX9_tried_6 : decode cX9_tried 6 = .ok (.if_icmp .gt 30, 3) := by decide +kernel
theorem dX9_tried_9 : decode cX9_tried 9 = .ok (.iload_n 3, 1) := by decide +kernel
theorem dX9_tried_10 : decode cX9_tried 10 = .ok (.invokestatic 279, 3) := by decide +kernel
theorem dX9_tried_13 : decode cX9_tried 13 = .ok (.ifCond .eq 23, 3) := by decide +kernel
theorem dX9_tried_16 : decode cX9_tried 16 = .ok (.iload_n 1, 1) := by decide +kernel
theorem dX9_tried_17 : decode cX9_tried 17 = .ok (.iconst 2, 1) := by decide +kernel
theorem dX9_tried_18 : decode cX9_tried 18 = .ok (.if_icmp .ne 14, 3) := by decide +kernel
theorem dX9_tried_21 : decode cX9_tried 21 = .ok (.aload_n 0, 1) := by decide +kernel
theorem dX9_tried_22 : decode cX9_tried 22 = .ok (.iload_n 2, 1) := by decide +kernel
theorem dX9_tried_23 : decode cX9_tried 23 = .ok (.invokevirtual 129, 3) := by decide +kernel
theorem dX9_tried_26 : decode cX9_tried 26 = .ok (.ifCond .ne 12, 3) := by decide +kernel
theorem dX9_tried_29 : decode cX9_tried 29 = .ok (.goto 7, 3) := by decide +kernel
theorem dX9_tried_32 : decode cX9_tried 32 = .ok (.iload_n 2, 1) := by decide +kernel
theorem dX9_tried_33 : decode cX9_tried 33 = .ok (.ifCond .eq 5, 3) := by decide +kernel
theorem dX9_tried_36 : decode cX9_tried 36 = .ok (.iconst (-1), 1) := by decide +kernel
theorem dX9_tried_37 : decode cX9_tried 37 = .ok (.ireturn, 1) := by decide +kernel
theorem dX9_tried_38 : decode cX9_tried 38 = .ok (.aload_n 0, 1) := by decide +kernel
theorem dX9_tried_39 : decode cX9_tried 39 = .ok (.getfield 45, 3) := by decide +kernel
theorem dX9_tried_42 : decode cX9_tried 42 = .ok (.aload_n 0, 1) := by decide +kernel
theorem dX9_tried_43 : decode cX9_tried 43 = .ok (.getfield 41, 3) := by decide +kernel
theorem dX9_tried_46 : decode cX9_tried 46 = .ok (.invokevirtual 275, 3) := by decide +kernel
theorem dX9_tried_49 : decode cX9_tried 49 = .ok (.iload_n 1, 1) := by decide +kernel
theorem dX9_tried_50 : decode cX9_tried 50 = .ok (.iconst 2, 1) := by decide +kernel
theorem dX9_tried_51 : decode cX9_tried 51 = .ok (.if_icmp .ne 13, 3) := by decide +kernel
theorem dX9_tried_54 : decode cX9_tried 54 = .ok (.aload_n 0, 1) := by decide +kernel
theorem dX9_tried_55 : decode cX9_tried 55 = .ok (.getfield 45, 3) := by decide +kernel
theorem dX9_tried_58 : decode cX9_tried 58 = .ok (.getfield 165, 3) := by decide +kernel
theorem dX9_tried_61 : decode cX9_tried 61 = .ok (.iload_n 2, 1) := by decide +kernel
theorem dX9_tried_62 : decode cX9_tried 62 = .ok (.iconst 1, 1) := by decide +kernel
theorem dX9_tried_63 : decode cX9_tried 63 = .ok (.bastore, 1) := by decide +kernel
theorem dX9_tried_64 : decode cX9_tried 64 = .ok (.iload_n 1, 1) := by decide +kernel
theorem dX9_tried_65 : decode cX9_tried 65 = .ok (.invokestatic 285, 3) := by decide +kernel
theorem dX9_tried_68 : decode cX9_tried 68 = .ok (.istore 4, 2) := by decide +kernel
theorem dX9_tried_70 : decode cX9_tried 70 = .ok (.iconst 0, 1) := by decide +kernel
theorem dX9_tried_71 : decode cX9_tried 71 = .ok (.istore 5, 2) := by decide +kernel
theorem dX9_tried_73 : decode cX9_tried 73 = .ok (.iload 5, 2) := by decide +kernel
theorem dX9_tried_75 : decode cX9_tried 75 = .ok (.iload_n 3, 1) := by decide +kernel
theorem dX9_tried_76 : decode cX9_tried 76 = .ok (.if_icmp .ge 18, 3) := by decide +kernel
theorem dX9_tried_79 : decode cX9_tried 79 = .ok (.aload_n 0, 1) := by decide +kernel
theorem dX9_tried_80 : decode cX9_tried 80 = .ok (.getfield 45, 3) := by decide +kernel
theorem dX9_tried_83 : decode cX9_tried 83 = .ok (.iload 4, 2) := by decide +kernel
theorem dX9_tried_85 : decode cX9_tried 85 = .ok (.invokevirtual 271, 3) := by decide +kernel
theorem dX9_tried_88 : decode cX9_tried 88 = .ok (.iinc 5 1, 3) := by decide +kernel
theorem dX9_tried_91 : decode cX9_tried 91 = .ok (.goto (-18), 3) := by decide +kernel
theorem dX9_tried_94 : decode cX9_tried 94 = .ok (.aload_n 0, 1) := by decide +kernel
theorem dX9_tried_95 : decode cX9_tried 95 = .ok (.getfield 45, 3) := by decide +kernel
theorem dX9_tried_98 : decode cX9_tried 98 = .ok (.iconst 2, 1) := by decide +kernel
theorem dX9_tried_99 : decode cX9_tried 99 = .ok (.invokevirtual 218, 3) := by decide +kernel
theorem dX9_tried_102 : decode cX9_tried 102 = .ok (.aload_n 0, 1) := by decide +kernel
theorem dX9_tried_103 : decode cX9_tried 103 = .ok (.getfield 41, 3) := by decide +kernel
theorem dX9_tried_106 : decode cX9_tried 106 = .ok (.iconst 2, 1) := by decide +kernel
theorem dX9_tried_107 : decode cX9_tried 107 = .ok (.invokevirtual 218, 3) := by decide +kernel
theorem dX9_tried_110 : decode cX9_tried 110 = .ok (.isub, 1) := by decide +kernel
theorem dX9_tried_111 : decode cX9_tried 111 = .ok (.ireturn, 1) := by decide +kernel
theorem dX9_wayTried_0 : decode cX9_wayTried 0 = .ok (.iload_n 0, 1) := by decide +kernel
theorem dX9_wayTried_1 : decode cX9_wayTried 1 = .ok (.tableswitch 45 1 5 #[35, 45, 37, 39, 42], 35) := by decide +kernel
theorem dX9_wayTried_36 : decode cX9_wayTried 36 = .ok (.iconst 2, 1) := by decide +kernel
theorem dX9_wayTried_37 : decode cX9_wayTried 37 = .ok (.ireturn, 1) := by decide +kernel
theorem dX9_wayTried_38 : decode cX9_wayTried 38 = .ok (.iconst 4, 1) := by decide +kernel
theorem dX9_wayTried_39 : decode cX9_wayTried 39 = .ok (.ireturn, 1) := by decide +kernel
theorem dX9_wayTried_40 : decode cX9_wayTried 40 = .ok (.bipush 8, 2) := by decide +kernel
theorem dX9_wayTried_42 : decode cX9_wayTried 42 = .ok (.ireturn, 1) := by decide +kernel
theorem dX9_wayTried_43 : decode cX9_wayTried 43 = .ok (.bipush 16, 2) := by decide +kernel
theorem dX9_wayTried_45 : decode cX9_wayTried 45 = .ok (.ireturn, 1) := by decide +kernel
theorem dX9_wayTried_46 : decode cX9_wayTried 46 = .ok (.iconst 0, 1) := by decide +kernel
theorem dX9_wayTried_47 : decode cX9_wayTried 47 = .ok (.ireturn, 1) := by decide +kernel
theorem dX9_chance_0 : decode cX9_chance 0 = .ok (.iload_n 1, 1) := by decide +kernel
theorem dX9_chance_1 : decode cX9_chance 1 = .ok (.ifCond .lt 24, 3) := by decide +kernel
theorem dX9_chance_4 : decode cX9_chance 4 = .ok (.iload_n 2, 1) := by decide +kernel
theorem dX9_chance_5 : decode cX9_chance 5 = .ok (.iconst 1, 1) := by decide +kernel
theorem dX9_chance_6 : decode cX9_chance 6 = .ok (.if_icmp .lt 19, 3) := by decide +kernel
theorem dX9_chance_9 : decode cX9_chance 9 = .ok (.iload_n 2, 1) := by decide +kernel
theorem dX9_chance_10 : decode cX9_chance 10 = .ok (.bipush 99, 2) := by decide +kernel
theorem dX9_chance_12 : decode cX9_chance 12 = .ok (.if_icmp .gt 13, 3) := by decide +kernel
theorem dX9_chance_15 : decode cX9_chance 15 = .ok (.iload_n 3, 1) := by decide +kernel
theorem dX9_chance_16 : decode cX9_chance 16 = .ok (.ifCond .lt 9, 3) := by decide +kernel
theorem dX9_chance_19 : decode cX9_chance 19 = .ok (.iload_n 3, 1) := by decide +kernel
theorem dX9_chance_20 : decode cX9_chance 20 = .ok (.bipush 8, 2) := by decide +kernel
theorem dX9_chance_22 : decode cX9_chance 22 = .ok (.if_icmp .le 5, 3) := by decide +kernel
theorem dX9_chance_25 : decode cX9_chance 25 = .ok (.iconst (-1), 1) := by decide +kernel
theorem dX9_chance_26 : decode cX9_chance 26 = .ok (.ireturn, 1) := by decide +kernel
theorem dX9_chance_27 : decode cX9_chance 27 = .ok (.iload_n 1, 1) := by decide +kernel
theorem dX9_chance_28 : decode cX9_chance 28 = .ok (.istore 4, 2) := by decide +kernel
theorem dX9_chance_30 : decode cX9_chance 30 = .ok (.iconst 0, 1) := by decide +kernel
theorem dX9_chance_31 : decode cX9_chance 31 = .ok (.istore 5, 2) := by decide +kernel
theorem dX9_chance_33 : decode cX9_chance 33 = .ok (.iconst 0, 1) := by decide +kernel
theorem dX9_chance_34 : decode cX9_chance 34 = .ok (.istore 6, 2) := by decide +kernel
theorem dX9_chance_36 : decode cX9_chance 36 = .ok (.iload 6, 2) := by decide +kernel
theorem dX9_chance_38 : decode cX9_chance 38 = .ok (.bipush 10, 2) := by decide +kernel
theorem dX9_chance_40 : decode cX9_chance 40 = .ok (.if_icmp .ge 76, 3) := by decide +kernel
theorem dX9_chance_43 : decode cX9_chance 43 = .ok (.aload_n 0, 1) := by decide +kernel
theorem dX9_chance_44 : decode cX9_chance 44 = .ok (.getfield 45, 3) := by decide +kernel
theorem dX9_chance_47 : decode cX9_chance 47 = .ok (.aload_n 0, 1) := by decide +kernel
theorem dX9_chance_48 : decode cX9_chance 48 = .ok (.getfield 41, 3) := by decide +kernel
theorem dX9_chance_51 : decode cX9_chance 51 = .ok (.invokevirtual 275, 3) := by decide +kernel
theorem dX9_chance_54 : decode cX9_chance 54 = .ok (.aload_n 0, 1) := by decide +kernel
theorem dX9_chance_55 : decode cX9_chance 55 = .ok (.getfield 45, 3) := by decide +kernel
theorem dX9_chance_58 : decode cX9_chance 58 = .ok (.iload 4, 2) := by decide +kernel
theorem dX9_chance_60 : decode cX9_chance 60 = .ok (.putfield 288, 3) := by decide +kernel
theorem dX9_chance_63 : decode cX9_chance 63 = .ok (.iconst 0, 1) := by decide +kernel
theorem dX9_chance_64 : decode cX9_chance 64 = .ok (.istore 7, 2) := by decide +kernel
theorem dX9_chance_66 : decode cX9_chance 66 = .ok (.iload 7, 2) := by decide +kernel
theorem dX9_chance_68 : decode cX9_chance 68 = .ok (.iload_n 2, 1) := by decide +kernel
theorem dX9_chance_69 : decode cX9_chance 69 = .ok (.if_icmp .ge 17, 3) := by decide +kernel
theorem dX9_chance_72 : decode cX9_chance 72 = .ok (.aload_n 0, 1) := by decide +kernel
theorem dX9_chance_73 : decode cX9_chance 73 = .ok (.getfield 45, 3) := by decide +kernel
theorem dX9_chance_76 : decode cX9_chance 76 = .ok (.iconst 1, 1) := by decide +kernel
theorem dX9_chance_77 : decode cX9_chance 77 = .ok (.invokevirtual 271, 3) := by decide +kernel
theorem dX9_chance_80 : decode cX9_chance 80 = .ok (.iinc 7 1, 3) := by decide +kernel
theorem dX9_chance_83 : decode cX9_chance 83 = .ok (.goto (-17), 3) := by decide +kernel
theorem dX9_chance_86 : decode cX9_chance 86 = .ok (.aload_n 0, 1) := by decide +kernel
theorem dX9_chance_87 : decode cX9_chance 87 = .ok (.getfield 45, 3) := by decide +kernel
theorem dX9_chance_90 : decode cX9_chance 90 = .ok (.getfield 288, 3) := by decide +kernel
theorem dX9_chance_93 : decode cX9_chance 93 = .ok (.istore 4, 2) := by decide +kernel
theorem dX9_chance_95 : decode cX9_chance 95 = .ok (.aload_n 0, 1) := by decide +kernel
theorem dX9_chance_96 : decode cX9_chance 96 = .ok (.getfield 45, 3) := by decide +kernel
theorem dX9_chance_99 : decode cX9_chance 99 = .ok (.iconst 2, 1) := by decide +kernel
theorem dX9_chance_100 : decode cX9_chance 100 = .ok (.invokevirtual 218, 3) := by decide +kernel
theorem dX9_chance_103 : decode cX9_chance 103 = .ok (.iload_n 3, 1) := by decide +kernel
theorem dX9_chance_104 : decode cX9_chance 104 = .ok (.if_icmp .lt 6, 3) := by decide +kernel
theorem dX9_chance_107 : decode cX9_chance 107 = .ok (.iinc 5 1, 3) := by decide +kernel
theorem dX9_chance_110 : decode cX9_chance 110 = .ok (.iinc 6 1, 3) := by decide +kernel
theorem dX9_chance_113 : decode cX9_chance 113 = .ok (.goto (-77), 3) := by decide +kernel
theorem dX9_chance_116 : decode cX9_chance 116 = .ok (.iload 5, 2) := by decide +kernel
theorem dX9_chance_118 : decode cX9_chance 118 = .ok (.ireturn, 1) := by decide +kernel
theorem dX9_premium_0 : decode cX9_premium 0 = .ok (.aload_n 0, 1) := by decide +kernel
theorem dX9_premium_1 : decode cX9_premium 1 = .ok (.iload_n 1, 1) := by decide +kernel
theorem dX9_premium_2 : decode cX9_premium 2 = .ok (.invokevirtual 129, 3) := by decide +kernel
theorem dX9_premium_5 : decode cX9_premium 5 = .ok (.ifCond .eq 18, 3) := by decide +kernel
theorem dX9_premium_8 : decode cX9_premium 8 = .ok (.aload_n 0, 1) := by decide +kernel
theorem dX9_premium_9 : decode cX9_premium 9 = .ok (.iload_n 1, 1) := by decide +kernel
theorem dX9_premium_10 : decode cX9_premium 10 = .ok (.aload_n 0, 1) := by decide +kernel
theorem dX9_premium_11 : decode cX9_premium 11 = .ok (.getfield 41, 3) := by decide +kernel
theorem dX9_premium_14 : decode cX9_premium 14 = .ok (.invokevirtual 194, 3) := by decide +kernel
theorem dX9_premium_17 : decode cX9_premium 17 = .ok (.invokevirtual 291, 3) := by decide +kernel
theorem dX9_premium_20 : decode cX9_premium 20 = .ok (.goto 4, 3) := by decide +kernel
theorem dX9_premium_23 : decode cX9_premium 23 = .ok (.iconst (-1), 1) := by decide +kernel
theorem dX9_premium_24 : decode cX9_premium 24 = .ok (.ireturn, 1) := by decide +kernel
theorem dX9_premiumOf_0 : decode cX9_premiumOf 0 = .ok (.iload_n 2, 1) := by decide +kernel
theorem dX9_premiumOf_1 : decode cX9_premiumOf 1 = .ok (.ifCond .lt 15, 3) := by decide +kernel
theorem dX9_premiumOf_4 : decode cX9_premiumOf 4 = .ok (.aload_n 0, 1) := by decide +kernel
theorem dX9_premiumOf_5 : decode cX9_premiumOf 5 = .ok (.getfield 41, 3) := by decide +kernel
theorem dX9_premiumOf_8 : decode cX9_premiumOf 8 = .ok (.getfield 152, 3) := by decide +kernel
theorem dX9_premiumOf_11 : decode cX9_premiumOf 11 = .ok (.iload_n 1, 1) := by decide +kernel
theorem dX9_premiumOf_12 : decode cX9_premiumOf 12 = .ok (.iaload, 1) := by decide +kernel
theorem dX9_premiumOf_13 : decode cX9_premiumOf 13 = .ok (.ifCond .eq 6, 3) := by decide +kernel
theorem dX9_premiumOf_16 : decode cX9_premiumOf 16 = .ok (.bipush (-2), 2) := by decide +kernel
theorem dX9_premiumOf_18 : decode cX9_premiumOf 18 = .ok (.ireturn, 1) := by decide +kernel
theorem dX9_premiumOf_19 : decode cX9_premiumOf 19 = .ok (.iconst 0, 1) := by decide +kernel
theorem dX9_premiumOf_20 : decode cX9_premiumOf 20 = .ok (.istore_n 3, 1) := by decide +kernel
theorem dX9_premiumOf_21 : decode cX9_premiumOf 21 = .ok (.iload_n 3, 1) := by decide +kernel
theorem dX9_premiumOf_22 : decode cX9_premiumOf 22 = .ok (.sipush 200, 3) := by decide +kernel
theorem dX9_premiumOf_25 : decode cX9_premiumOf 25 = .ok (.if_icmp .gt 24, 3) := by decide +kernel
theorem dX9_premiumOf_28 : decode cX9_premiumOf 28 = .ok (.aload_n 0, 1) := by decide +kernel
theorem dX9_premiumOf_29 : decode cX9_premiumOf 29 = .ok (.getfield 41, 3) := by decide +kernel
theorem dX9_premiumOf_32 : decode cX9_premiumOf 32 = .ok (.iload_n 1, 1) := by decide +kernel
theorem dX9_premiumOf_33 : decode cX9_premiumOf 33 = .ok (.iload_n 2, 1) := by decide +kernel
theorem dX9_premiumOf_34 : decode cX9_premiumOf 34 = .ok (.iload_n 3, 1) := by decide +kernel
theorem dX9_premiumOf_35 : decode cX9_premiumOf 35 = .ok (.invokevirtual 294, 3) := by decide +kernel
theorem dX9_premiumOf_38 : decode cX9_premiumOf 38 = .ok (.ifCond .eq 5, 3) := by decide +kernel
theorem dX9_premiumOf_41 : decode cX9_premiumOf 41 = .ok (.iload_n 3, 1) := by decide +kernel
theorem dX9_premiumOf_42 : decode cX9_premiumOf 42 = .ok (.ireturn, 1) := by decide +kernel
theorem dX9_premiumOf_43 : decode cX9_premiumOf 43 = .ok (.iinc 3 1, 3) := by decide +kernel
theorem dX9_premiumOf_46 : decode cX9_premiumOf 46 = .ok (.goto (-25), 3) := by decide +kernel
theorem dX9_premiumOf_49 : decode cX9_premiumOf 49 = .ok (.bipush (-2), 2) := by decide +kernel
theorem dX9_premiumOf_51 : decode cX9_premiumOf 51 = .ok (.ireturn, 1) := by decide +kernel
theorem dX9_cover_0 : decode cX9_cover 0 = .ok (.iload_n 1, 1) := by decide +kernel
theorem dX9_cover_1 : decode cX9_cover 1 = .ok (.ifCond .lt 9, 3) := by decide +kernel
theorem dX9_cover_4 : decode cX9_cover 4 = .ok (.iload_n 1, 1) := by decide +kernel
theorem dX9_cover_5 : decode cX9_cover 5 = .ok (.bipush 6, 2) := by decide +kernel
theorem dX9_cover_7 : decode cX9_cover 7 = .ok (.if_icmp .le 5, 3) := by decide +kernel
theorem dX9_cover_10 : decode cX9_cover 10 = .ok (.iconst (-1), 1) := by decide +kernel
theorem dX9_cover_11 : decode cX9_cover 11 = .ok (.ireturn, 1) := by decide +kernel
theorem dX9_cover_12 : decode cX9_cover 12 = .ok (.aload_n 0, 1) := by decide +kernel
theorem dX9_cover_13 : decode cX9_cover 13 = .ok (.invokevirtual 298, 3) := by decide +kernel
theorem dX9_cover_16 : decode cX9_cover 16 = .ok (.istore_n 2, 1) := by decide +kernel
theorem dX9_cover_17 : decode cX9_cover 17 = .ok (.iload_n 1, 1) := by decide +kernel
theorem dX9_cover_18 : decode cX9_cover 18 = .ok (.iload_n 2, 1) := by decide +kernel
theorem dX9_cover_19 : decode cX9_cover 19 = .ok (.if_icmp .le 6, 3) := by decide +kernel
theorem dX9_cover_22 : decode cX9_cover 22 = .ok (.bipush (-2), 2) := by decide +kernel
theorem dX9_cover_24 : decode cX9_cover 24 = .ok (.ireturn, 1) := by decide +kernel
theorem dX9_cover_25 : decode cX9_cover 25 = .ok (.iconst 0, 1) := by decide +kernel
theorem dX9_cover_26 : decode cX9_cover 26 = .ok (.istore_n 3, 1) := by decide +kernel
theorem dX9_cover_27 : decode cX9_cover 27 = .ok (.iconst 0, 1) := by decide +kernel
theorem dX9_cover_28 : decode cX9_cover 28 = .ok (.istore 4, 2) := by decide +kernel
theorem dX9_cover_30 : decode cX9_cover 30 = .ok (.iload 4, 2) := by decide +kernel
theorem dX9_cover_32 : decode cX9_cover 32 = .ok (.iload_n 1, 1) := by decide +kernel
theorem dX9_cover_33 : decode cX9_cover 33 = .ok (.if_icmp .ge 19, 3) := by decide +kernel
theorem dX9_cover_36 : decode cX9_cover 36 = .ok (.iload_n 3, 1) := by decide +kernel
theorem dX9_cover_37 : decode cX9_cover 37 = .ok (.aload_n 0, 1) := by decide +kernel
theorem dX9_cover_38 : decode cX9_cover 38 = .ok (.getfield 79, 3) := by decide +kernel
theorem dX9_cover_41 : decode cX9_cover 41 = .ok (.iload 4, 2) := by decide +kernel
theorem dX9_cover_43 : decode cX9_cover 43 = .ok (.iaload, 1) := by decide +kernel
theorem dX9_cover_44 : decode cX9_cover 44 = .ok (.iadd, 1) := by decide +kernel
theorem dX9_cover_45 : decode cX9_cover 45 = .ok (.istore_n 3, 1) := by decide +kernel
theorem dX9_cover_46 : decode cX9_cover 46 = .ok (.iinc 4 1, 3) := by decide +kernel
theorem dX9_cover_49 : decode cX9_cover 49 = .ok (.goto (-19), 3) := by decide +kernel
theorem dX9_cover_52 : decode cX9_cover 52 = .ok (.iload_n 3, 1) := by decide +kernel
theorem dX9_cover_53 : decode cX9_cover 53 = .ok (.ireturn, 1) := by decide +kernel
theorem dX9_sortPremiums_0 : decode cX9_sortPremiums 0 = .ok (.aload_n 0, 1) := by decide +kernel
theorem dX9_sortPremiums_1 : decode cX9_sortPremiums 1 = .ok (.getfield 41, 3) := by decide +kernel
theorem dX9_sortPremiums_4 : decode cX9_sortPremiums 4 = .ok (.invokevirtual 194, 3) := by decide +kernel
theorem dX9_sortPremiums_7 : decode cX9_sortPremiums 7 = .ok (.istore_n 1, 1) := by decide +kernel
theorem dX9_sortPremiums_8 : decode cX9_sortPremiums 8 = .ok (.iconst 0, 1) := by decide +kernel
theorem dX9_sortPremiums_9 : decode cX9_sortPremiums 9 = .ok (.istore_n 2, 1) := by decide +kernel
theorem dX9_sortPremiums_10 : decode cX9_sortPremiums 10 = .ok (.iconst 0, 1) := by decide +kernel
theorem dX9_sortPremiums_11 : decode cX9_sortPremiums 11 = .ok (.istore_n 3, 1) := by decide +kernel
theorem dX9_sortPremiums_12 : decode cX9_sortPremiums 12 = .ok (.iload_n 3, 1) := by decide +kernel
theorem dX9_sortPremiums_13 : decode cX9_sortPremiums 13 = .ok (.aload_n 0, 1) := by decide +kernel
theorem dX9_sortPremiums_14 : decode cX9_sortPremiums 14 = .ok (.getfield 18, 3) := by decide +kernel
theorem dX9_sortPremiums_17 : decode cX9_sortPremiums 17 = .ok (.getfield 116, 3) := by decide +kernel
theorem dX9_sortPremiums_20 : decode cX9_sortPremiums 20 = .ok (.if_icmp .ge 58, 3) := by decide +kernel
theorem dX9_sortPremiums_23 : decode cX9_sortPremiums 23 = .ok (.iload_n 3, 1) := by decide +kernel
theorem dX9_sortPremiums_24 : decode cX9_sortPremiums 24 = .ok (.bipush 6, 2) := by decide +kernel
theorem dX9_sortPremiums_26 : decode cX9_sortPremiums 26 = .ok (.if_icmp .ge 52, 3) := by decide +kernel
theorem dX9_sortPremiums_29 : decode cX9_sortPremiums 29 = .ok (.aload_n 0, 1) := by decide +kernel
theorem dX9_sortPremiums_30 : decode cX9_sortPremiums 30 = .ok (.getfield 41, 3) := by decide +kernel
theorem dX9_sortPremiums_33 : decode cX9_sortPremiums 33 = .ok (.getfield 165, 3) := by decide +kernel
theorem dX9_sortPremiums_36 : decode cX9_sortPremiums 36 = .ok (.iload_n 3, 1) := by decide +kernel
theorem dX9_sortPremiums_37 : decode cX9_sortPremiums 37 = .ok (.baload, 1) := by decide +kernel
theorem dX9_sortPremiums_38 : decode cX9_sortPremiums 38 = .ok (.ifCond .eq 8, 3) := by decide +kernel
theorem dX9_sortPremiums_41 : decode cX9_sortPremiums 41 = .ok (.bipush (-2), 2) := by decide +kernel
theorem dX9_sortPremiums_43 : decode cX9_sortPremiums 43 = .ok (.goto 9, 3) := by decide +kernel
theorem dX9_sortPremiums_46 : decode cX9_sortPremiums 46 = .ok (.aload_n 0, 1) := by decide +kernel
theorem dX9_sortPremiums_47 : decode cX9_sortPremiums 47 = .ok (.iload_n 3, 1) := by decide +kernel
theorem dX9_sortPremiums_48 : decode cX9_sortPremiums 48 = .ok (.iload_n 1, 1) := by decide +kernel
theorem dX9_sortPremiums_49 : decode cX9_sortPremiums 49 = .ok (.invokevirtual 291, 3) := by decide +kernel
theorem dX9_sortPremiums_52 : decode cX9_sortPremiums 52 = .ok (.istore 4, 2) := by decide +kernel
theorem dX9_sortPremiums_54 : decode cX9_sortPremiums 54 = .ok (.iload 4, 2) := by decide +kernel
theorem dX9_sortPremiums_56 : decode cX9_sortPremiums 56 = .ok (.ifCond .lt 16, 3) := by decide +kernel
theorem dX9_sortPremiums_59 : decode cX9_sortPremiums 59 = .ok (.aload_n 0, 1) := by decide +kernel
theorem dX9_sortPremiums_60 : decode cX9_sortPremiums 60 = .ok (.getfield 79, 3) := by decide +kernel
theorem dX9_sortPremiums_63 : decode cX9_sortPremiums 63 = .ok (.iload_n 2, 1) := by decide +kernel
theorem dX9_sortPremiums_64 : decode cX9_sortPremiums 64 = .ok (.iload 4, 2) := by decide +kernel
theorem dX9_sortPremiums_66 : decode cX9_sortPremiums 66 = .ok (.invokestatic 301, 3) := by decide +kernel
theorem dX9_sortPremiums_69 : decode cX9_sortPremiums 69 = .ok (.iinc 2 1, 3) := by decide +kernel
theorem dX9_sortPremiums_72 : decode cX9_sortPremiums 72 = .ok (.iinc 3 1, 3) := by decide +kernel
theorem dX9_sortPremiums_75 : decode cX9_sortPremiums 75 = .ok (.goto (-63), 3) := by decide +kernel
theorem dX9_sortPremiums_78 : decode cX9_sortPremiums 78 = .ok (.iload_n 2, 1) := by decide +kernel
theorem dX9_sortPremiums_79 : decode cX9_sortPremiums 79 = .ok (.ireturn, 1) := by decide +kernel
theorem dX9_putInOrder_0 : decode cX9_putInOrder 0 = .ok (.iload_n 1, 1) := by decide +kernel
theorem dX9_putInOrder_1 : decode cX9_putInOrder 1 = .ok (.ifCond .lt 9, 3) := by decide +kernel
theorem dX9_putInOrder_4 : decode cX9_putInOrder 4 = .ok (.iload_n 1, 1) := by decide +kernel
theorem dX9_putInOrder_5 : decode cX9_putInOrder 5 = .ok (.aload_n 0, 1) := by decide +kernel
theorem dX9_putInOrder_6 : decode cX9_putInOrder 6 = .ok (.arraylength, 1) := by decide +kernel
theorem dX9_putInOrder_7 : decode cX9_putInOrder 7 = .ok (.if_icmp .lt 4, 3) := by decide +kernel
theorem dX9_putInOrder_10 : decode cX9_putInOrder 10 = .ok (.return_, 1) := by decide +kernel
theorem dX9_putInOrder_11 : decode cX9_putInOrder 11 = .ok (.iload_n 1, 1) := by decide +kernel
theorem dX9_putInOrder_12 : decode cX9_putInOrder 12 = .ok (.istore_n 3, 1) := by decide +kernel
theorem dX9_putInOrder_13 : decode cX9_putInOrder 13 = .ok (.iload_n 3, 1) := by decide +kernel
theorem dX9_putInOrder_14 : decode cX9_putInOrder 14 = .ok (.ifCond .le 26, 3) := by decide +kernel
theorem dX9_putInOrder_17 : decode cX9_putInOrder 17 = .ok (.aload_n 0, 1) := by decide +kernel
theorem dX9_putInOrder_18 : decode cX9_putInOrder 18 = .ok (.iload_n 3, 1) := by decide +kernel
theorem dX9_putInOrder_19 : decode cX9_putInOrder 19 = .ok (.iconst 1, 1) := by decide +kernel
theorem dX9_putInOrder_20 : decode cX9_putInOrder 20 = .ok (.isub, 1) := by decide +kernel
theorem dX9_putInOrder_21 : decode cX9_putInOrder 21 = .ok (.iaload, 1) := by decide +kernel
theorem dX9_putInOrder_22 : decode cX9_putInOrder 22 = .ok (.iload_n 2, 1) := by decide +kernel
theorem dX9_putInOrder_23 : decode cX9_putInOrder 23 = .ok (.if_icmp .le 17, 3) := by decide +kernel
theorem dX9_putInOrder_26 : decode cX9_putInOrder 26 = .ok (.aload_n 0, 1) := by decide +kernel
theorem dX9_putInOrder_27 : decode cX9_putInOrder 27 = .ok (.iload_n 3, 1) := by decide +kernel
theorem dX9_putInOrder_28 : decode cX9_putInOrder 28 = .ok (.aload_n 0, 1) := by decide +kernel
theorem dX9_putInOrder_29 : decode cX9_putInOrder 29 = .ok (.iload_n 3, 1) := by decide +kernel
theorem dX9_putInOrder_30 : decode cX9_putInOrder 30 = .ok (.iconst 1, 1) := by decide +kernel
theorem dX9_putInOrder_31 : decode cX9_putInOrder 31 = .ok (.isub, 1) := by decide +kernel
theorem dX9_putInOrder_32 : decode cX9_putInOrder 32 = .ok (.iaload, 1) := by decide +kernel
theorem dX9_putInOrder_33 : decode cX9_putInOrder 33 = .ok (.iastore, 1) := by decide +kernel
theorem dX9_putInOrder_34 : decode cX9_putInOrder 34 = .ok (.iinc 3 (-1), 3) := by decide +kernel
theorem dX9_putInOrder_37 : decode cX9_putInOrder 37 = .ok (.goto (-24), 3) := by decide +kernel
theorem dX9_putInOrder_40 : decode cX9_putInOrder 40 = .ok (.aload_n 0, 1) := by decide +kernel
theorem dX9_putInOrder_41 : decode cX9_putInOrder 41 = .ok (.iload_n 3, 1) := by decide +kernel
theorem dX9_putInOrder_42 : decode cX9_putInOrder 42 = .ok (.iload_n 2, 1) := by decide +kernel
theorem dX9_putInOrder_43 : decode cX9_putInOrder 43 = .ok (.iastore, 1) := by decide +kernel
theorem dX9_putInOrder_44 : decode cX9_putInOrder 44 = .ok (.return_, 1) := by decide +kernel
theorem dX9_match_0 : decode cX9_match 0 = .ok (.iload_n 1, 1) := by decide +kernel
theorem dX9_match_1 : decode cX9_match 1 = .ok (.ifCond .lt 9, 3) := by decide +kernel
theorem dX9_match_4 : decode cX9_match 4 = .ok (.iload_n 1, 1) := by decide +kernel
theorem dX9_match_5 : decode cX9_match 5 = .ok (.bipush 6, 2) := by decide +kernel
theorem dX9_match_7 : decode cX9_match 7 = .ok (.if_icmp .le 5, 3) := by decide +kernel
theorem dX9_match_10 : decode cX9_match 10 = .ok (.iconst (-1), 1) := by decide +kernel
theorem dX9_match_11 : decode cX9_match 11 = .ok (.ireturn, 1) := by decide +kernel
theorem dX9_match_12 : decode cX9_match 12 = .ok (.aload_n 0, 1) := by decide +kernel
theorem dX9_match_13 : decode cX9_match 13 = .ok (.getfield 68, 3) := by decide +kernel
theorem dX9_match_16 : decode cX9_match 16 = .ok (.aload_n 0, 1) := by decide +kernel
theorem dX9_match_17 : decode cX9_match 17 = .ok (.getfield 41, 3) := by decide +kernel
theorem dX9_match_20 : decode cX9_match 20 = .ok (.invokevirtual 305, 3) := by decide +kernel
theorem dX9_match_23 : decode cX9_match 23 = .ok (.istore_n 2, 1) := by decide +kernel
theorem dX9_match_24 : decode cX9_match 24 = .ok (.iload_n 1, 1) := by decide +kernel
theorem dX9_match_25 : decode cX9_match 25 = .ok (.bipush 6, 2) := by decide +kernel
theorem dX9_match_27 : decode cX9_match 27 = .ok (.if_icmp .ne 7, 3) := by decide +kernel
theorem dX9_match_30 : decode cX9_match 30 = .ok (.iload_n 2, 1) := by decide +kernel
theorem dX9_match_31 : decode cX9_match 31 = .ok (.goto 12, 3) := by decide +kernel
theorem dX9_match_34 : decode cX9_match 34 = .ok (.aload_n 0, 1) := by decide +kernel
theorem dX9_match_35 : decode cX9_match 35 = .ok (.getfield 68, 3) := by decide +kernel
theorem dX9_match_38 : decode cX9_match 38 = .ok (.getfield 309, 3) := by decide +kernel
theorem dX9_match_41 : decode cX9_match 41 = .ok (.iload_n 1, 1) := by decide +kernel
theorem dX9_match_42 : decode cX9_match 42 = .ok (.iaload, 1) := by decide +kernel
theorem dX9_match_43 : decode cX9_match 43 = .ok (.ireturn, 1) := by decide +kernel
theorem dX9_next_0 : decode cX9_next 0 = .ok (.aload_n 0, 1) := by decide +kernel
theorem dX9_next_1 : decode cX9_next 1 = .ok (.iload_n 1, 1) := by decide +kernel
theorem dX9_next_2 : decode cX9_next 2 = .ok (.invokevirtual 174, 3) := by decide +kernel
theorem dX9_next_5 : decode cX9_next 5 = .ok (.ifCond .ne 5, 3) := by decide +kernel
theorem dX9_next_8 : decode cX9_next 8 = .ok (.iconst (-1), 1) := by decide +kernel
theorem dX9_next_9 : decode cX9_next 9 = .ok (.ireturn, 1) := by decide +kernel
theorem dX9_next_10 : decode cX9_next 10 = .ok (.bipush (-2), 2) := by decide +kernel
theorem dX9_next_12 : decode cX9_next 12 = .ok (.istore_n 2, 1) := by decide +kernel
theorem dX9_next_13 : decode cX9_next 13 = .ok (.aload_n 0, 1) := by decide +kernel
theorem dX9_next_14 : decode cX9_next 14 = .ok (.getfield 18, 3) := by decide +kernel
theorem dX9_next_17 : decode cX9_next 17 = .ok (.getfield 180, 3) := by decide +kernel
theorem dX9_next_20 : decode cX9_next 20 = .ok (.iload_n 1, 1) := by decide +kernel
theorem dX9_next_21 : decode cX9_next 21 = .ok (.iaload, 1) := by decide +kernel
theorem dX9_next_22 : decode cX9_next 22 = .ok (.iconst 1, 1) := by decide +kernel
theorem dX9_next_23 : decode cX9_next 23 = .ok (.isub, 1) := by decide +kernel
theorem dX9_next_24 : decode cX9_next 24 = .ok (.istore_n 3, 1) := by decide +kernel
theorem dX9_next_25 : decode cX9_next 25 = .ok (.iconst 0, 1) := by decide +kernel
theorem dX9_next_26 : decode cX9_next 26 = .ok (.istore 4, 2) := by decide +kernel
theorem dX9_next_28 : decode cX9_next 28 = .ok (.iload 4, 2) := by decide +kernel
theorem dX9_next_30 : decode cX9_next 30 = .ok (.aload_n 0, 1) := by decide +kernel
theorem dX9_next_31 : decode cX9_next 31 = .ok (.getfield 18, 3) := by decide +kernel
theorem dX9_next_34 : decode cX9_next 34 = .ok (.getfield 116, 3) := by decide +kernel
theorem dX9_next_37 : decode cX9_next 37 = .ok (.if_icmp .ge 91, 3) := by decide +kernel
theorem dX9_next_40 : decode cX9_next 40 = .ok (.iload 4, 2) := by decide +kernel
theorem dX9_next_42 : decode cX9_next 42 = .ok (.bipush 6, 2) := by decide +kernel
theorem dX9_next_44 : decode cX9_next 44 = .ok (.if_icmp .ge 84, 3) := by decide +kernel
theorem dX9_next_47 : decode cX9_next 47 = .ok (.aload_n 0, 1) := by decide +kernel
theorem dX9_next_48 : decode cX9_next 48 = .ok (.getfield 41, 3) := by decide +kernel
theorem dX9_next_51 : decode cX9_next 51 = .ok (.getfield 312, 3) := by decide +kernel
theorem dX9_next_54 : decode cX9_next 54 = .ok (.iload 4, 2) := by decide +kernel
theorem dX9_next_56 : decode cX9_next 56 = .ok (.iaload, 1) := by decide +kernel
theorem dX9_next_57 : decode cX9_next 57 = .ok (.istore 5, 2) := by decide +kernel
theorem dX9_next_59 : decode cX9_next 59 = .ok (.aload_n 0, 1) := by decide +kernel
theorem dX9_next_60 : decode cX9_next 60 = .ok (.iload 5, 2) := by decide +kernel
theorem dX9_next_62 : decode cX9_next 62 = .ok (.invokevirtual 129, 3) := by decide +kernel
theorem dX9_next_65 : decode cX9_next 65 = .ok (.ifCond .eq 57, 3) := by decide +kernel
theorem dX9_next_68 : decode cX9_next 68 = .ok (.aload_n 0, 1) := by decide +kernel
theorem dX9_next_69 : decode cX9_next 69 = .ok (.getfield 41, 3) := by decide +kernel
theorem dX9_next_72 : decode cX9_next 72 = .ok (.getfield 152, 3) := by decide +kernel
theorem dX9_next_75 : decode cX9_next 75 = .ok (.iload 5, 2) := by decide +kernel
theorem dX9_next_77 : decode cX9_next 77 = .ok (.iaload, 1) := by decide +kernel
theorem dX9_next_78 : decode cX9_next 78 = .ok (.ifCond .ne 44, 3) := by decide +kernel
theorem dX9_next_81 : decode cX9_next 81 = .ok (.aload_n 0, 1) := by decide +kernel
theorem dX9_next_82 : decode cX9_next 82 = .ok (.getfield 41, 3) := by decide +kernel
theorem dX9_next_85 : decode cX9_next 85 = .ok (.getfield 165, 3) := by decide +kernel
theorem dX9_next_88 : decode cX9_next 88 = .ok (.iload 5, 2) := by decide +kernel
theorem dX9_next_90 : decode cX9_next 90 = .ok (.baload, 1) := by decide +kernel
theorem dX9_next_91 : decode cX9_next 91 = .ok (.ifCond .ne 31, 3) := by decide +kernel
theorem dX9_next_94 : decode cX9_next 94 = .ok (.aload_n 0, 1) := by decide +kernel
theorem dX9_next_95 : decode cX9_next 95 = .ok (.getfield 18, 3) := by decide +kernel
theorem dX9_next_98 : decode cX9_next 98 = .ok (.getfield 146, 3) := by decide +kernel
theorem dX9_next_101 : decode cX9_next 101 = .ok (.iload 5, 2) := by decide +kernel
theorem dX9_next_103 : decode cX9_next 103 = .ok (.iaload, 1) := by decide +kernel
theorem dX9_next_104 : decode cX9_next 104 = .ok (.iload_n 3, 1) := by decide +kernel
theorem dX9_next_105 : decode cX9_next 105 = .ok (.if_icmp .le 17, 3) := by decide +kernel
theorem dX9_next_108 : decode cX9_next 108 = .ok (.iload 5, 2) := by decide +kernel
theorem dX9_next_110 : decode cX9_next 110 = .ok (.istore_n 2, 1) := by decide +kernel
theorem dX9_next_111 : decode cX9_next 111 = .ok (.aload_n 0, 1) := by decide +kernel
theorem dX9_next_112 : decode cX9_next 112 = .ok (.getfield 18, 3) := by decide +kernel
theorem dX9_next_115 : decode cX9_next 115 = .ok (.getfield 146, 3) := by decide +kernel
theorem dX9_next_118 : decode cX9_next 118 = .ok (.iload 5, 2) := by decide +kernel
theorem dX9_next_120 : decode cX9_next 120 = .ok (.iaload, 1) := by decide +kernel
theorem dX9_next_121 : decode cX9_next 121 = .ok (.istore_n 3, 1) := by decide +kernel
theorem dX9_next_122 : decode cX9_next 122 = .ok (.iinc 4 1, 3) := by decide +kernel
theorem dX9_next_125 : decode cX9_next 125 = .ok (.goto (-97), 3) := by decide +kernel
theorem dX9_next_128 : decode cX9_next 128 = .ok (.iload_n 2, 1) := by decide +kernel
theorem dX9_next_129 : decode cX9_next 129 = .ok (.ireturn, 1) := by decide +kernel
theorem dX9_order_0 : decode cX9_order 0 = .ok (.iload_n 1, 1) := by decide +kernel
theorem dX9_order_1 : decode cX9_order 1 = .ok (.ifCond .lt 8, 3) := by decide +kernel
theorem dX9_order_4 : decode cX9_order 4 = .ok (.iload_n 1, 1) := by decide +kernel
theorem dX9_order_5 : decode cX9_order 5 = .ok (.iconst 4, 1) := by decide +kernel
theorem dX9_order_6 : decode cX9_order 6 = .ok (.if_icmp .le 5, 3) := by decide +kernel
theorem dX9_order_9 : decode cX9_order 9 = .ok (.iconst (-1), 1) := by decide +kernel
theorem dX9_order_10 : decode cX9_order 10 = .ok (.ireturn, 1) := by decide +kernel
theorem dX9_order_11 : decode cX9_order 11 = .ok (.iconst 4, 1) := by decide +kernel
theorem dX9_order_12 : decode cX9_order 12 = .ok (.aload_n 0, 1) := by decide +kernel
theorem dX9_order_13 : decode cX9_order 13 = .ok (.getfield 18, 3) := by decide +kernel
theorem dX9_order_16 : decode cX9_order 16 = .ok (.getfield 116, 3) := by decide +kernel
theorem dX9_order_19 : decode cX9_order 19 = .ok (.invokestatic 250, 3) := by decide +kernel
theorem dX9_order_22 : decode cX9_order 22 = .ok (.istore_n 2, 1) := by decide +kernel
theorem dX9_order_23 : decode cX9_order 23 = .ok (.iconst 0, 1) := by decide +kernel
theorem dX9_order_24 : decode cX9_order 24 = .ok (.istore_n 3, 1) := by decide +kernel
theorem dX9_order_25 : decode cX9_order 25 = .ok (.iload_n 3, 1) := by decide +kernel
theorem dX9_order_26 : decode cX9_order 26 = .ok (.iload_n 2, 1) := by decide +kernel
theorem dX9_order_27 : decode cX9_order 27 = .ok (.if_icmp .ge 26, 3) := by decide +kernel
theorem dX9_order_30 : decode cX9_order 30 = .ok (.aload_n 0, 1) := by decide +kernel
theorem dX9_order_31 : decode cX9_order 31 = .ok (.getfield 72, 3) := by decide +kernel
theorem dX9_order_34 : decode cX9_order 34 = .ok (.iload_n 3, 1) := by decide +kernel
theorem dX9_order_35 : decode cX9_order 35 = .ok (.aload_n 0, 1) := by decide +kernel
theorem dX9_order_36 : decode cX9_order 36 = .ok (.getfield 41, 3) := by decide +kernel
theorem dX9_order_39 : decode cX9_order 39 = .ok (.getfield 312, 3) := by decide +kernel
theorem dX9_order_42 : decode cX9_order 42 = .ok (.iload_n 3, 1) := by decide +kernel
theorem dX9_order_43 : decode cX9_order 43 = .ok (.iaload, 1) := by decide +kernel
theorem dX9_order_44 : decode cX9_order 44 = .ok (.invokestatic 301, 3) := by decide +kernel
theorem dX9_order_47 : decode cX9_order 47 = .ok (.iinc 3 1, 3) := by decide +kernel
theorem dX9_order_50 : decode cX9_order 50 = .ok (.goto (-25), 3) := by decide +kernel
theorem dX9_order_53 : decode cX9_order 53 = .ok (.iconst (-1), 1) := by decide +kernel
theorem dX9_order_54 : decode cX9_order 54 = .ok (.istore_n 3, 1) := by decide +kernel
theorem dX9_order_55 : decode cX9_order 55 = .ok (.iconst 0, 1) := by decide +kernel
theorem dX9_order_56 : decode cX9_order 56 = .ok (.istore 4, 2) := by decide +kernel
theorem dX9_order_58 : decode cX9_order 58 = .ok (.iload 4, 2) := by decide +kernel
theorem dX9_order_60 : decode cX9_order 60 = .ok (.bipush 24, 2) := by decide +kernel
theorem dX9_order_62 : decode cX9_order 62 = .ok (.if_icmp .ge 50, 3) := by decide +kernel
theorem dX9_order_65 : decode cX9_order 65 = .ok (.aload_n 0, 1) := by decide +kernel
theorem dX9_order_66 : decode cX9_order 66 = .ok (.iload_n 2, 1) := by decide +kernel
theorem dX9_order_67 : decode cX9_order 67 = .ok (.invokevirtual 315, 3) := by decide +kernel
theorem dX9_order_70 : decode cX9_order 70 = .ok (.istore 5, 2) := by decide +kernel
theorem dX9_order_72 : decode cX9_order 72 = .ok (.iload 5, 2) := by decide +kernel
theorem dX9_order_74 : decode cX9_order 74 = .ok (.iload_n 3, 1) := by decide +kernel
