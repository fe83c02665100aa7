theorem dX7_init_0 : decode cX7_init 0 = .ok (.aload_n 0, 1) := by decide +kernel
theorem dX7_init_1 : decode cX7_init 1 = .ok (.invokespecial 3, 3) := by decide +kernel
theorem dX7_init_4 : decode cX7_init 4 = .ok (.aload_n 0, 1) := by decide +kernel
theorem dX7_init_5 : decode cX7_init 5 = .ok (.iconst 0, 1) := by decide +kernel
theorem dX7_init_6 : decode cX7_init 6 = .ok (.newarray .byte, 2) := by decide +kernel
theorem dX7_init_8 : decode cX7_init 8 = .ok (.putfield 9, 3) := by decide +kernel
theorem dX7_init_11 : decode cX7_init 11 = .ok (.aload_n 0, 1) := by decide +kernel
theorem dX7_init_12 : decode cX7_init 12 = .ok (.sipush 701, 3) := by decide +kernel
theorem dX7_init_15 : decode cX7_init 15 = .ok (.newarray .int, 2) := by decide +kernel
theorem dX7_init_17 : decode cX7_init 17 = .ok (.putfield 15, 3) := by decide +kernel
theorem dX7_init_20 : decode cX7_init 20 = .ok (.aload_n 0, 1) := by decide +kernel
theorem dX7_init_21 : decode cX7_init 21 = .ok (.sipush 701, 3) := by decide +kernel
theorem dX7_init_24 : decode cX7_init 24 = .ok (.newarray .int, 2) := by decide +kernel
theorem dX7_init_26 : decode cX7_init 26 = .ok (.putfield 19, 3) := by decide +kernel
theorem dX7_init_29 : decode cX7_init 29 = .ok (.aload_n 0, 1) := by decide +kernel
theorem dX7_init_30 : decode cX7_init 30 = .ok (.sipush 701, 3) := by decide +kernel
theorem dX7_init_33 : decode cX7_init 33 = .ok (.newarray .int, 2) := by decide +kernel
theorem dX7_init_35 : decode cX7_init 35 = .ok (.putfield 22, 3) := by decide +kernel
theorem dX7_init_38 : decode cX7_init 38 = .ok (.return_, 1) := by decide +kernel
theorem dX7_scan_0 : decode cX7_scan 0 = .ok (.aload_n 0, 1) := by decide +kernel
theorem dX7_scan_1 : decode cX7_scan 1 = .ok (.aload_n 1, 1) := by decide +kernel
theorem dX7_scan_2 : decode cX7_scan 2 = .ok (.putfield 9, 3) := by decide +kernel
theorem dX7_scan_5 : decode cX7_scan 5 = .ok (.aload_n 0, 1) := by decide +kernel
theorem dX7_scan_6 : decode cX7_scan 6 = .ok (.iload_n 2, 1) := by decide +kernel
theorem dX7_scan_7 : decode cX7_scan 7 = .ok (.aload_n 1, 1) := by decide +kernel
theorem dX7_scan_8 : decode cX7_scan 8 = .ok (.arraylength, 1) := by decide +kernel
theorem dX7_scan_9 : decode cX7_scan 9 = .ok (.invokestatic 25, 3) := by decide +kernel
theorem dX7_scan_12 : decode cX7_scan 12 = .ok (.putfield 31, 3) := by decide +kernel
theorem dX7_scan_15 : decode cX7_scan 15 = .ok (.aload_n 0, 1) := by decide +kernel
theorem dX7_scan_16 : decode cX7_scan 16 = .ok (.iconst 0, 1) := by decide +kernel
theorem dX7_scan_17 : decode cX7_scan 17 = .ok (.putfield 35, 3) := by decide +kernel
theorem dX7_scan_20 : decode cX7_scan 20 = .ok (.aload_n 0, 1) := by decide +kernel
theorem dX7_scan_21 : decode cX7_scan 21 = .ok (.iconst 0, 1) := by decide +kernel
theorem dX7_scan_22 : decode cX7_scan 22 = .ok (.putfield 38, 3) := by decide +kernel
theorem dX7_scan_25 : decode cX7_scan 25 = .ok (.iconst 0, 1) := by decide +kernel
theorem dX7_scan_26 : decode cX7_scan 26 = .ok (.istore_n 3, 1) := by decide +kernel
theorem dX7_scan_27 : decode cX7_scan 27 = .ok (.iconst 0, 1) := by decide +kernel
theorem dX7_scan_28 : decode cX7_scan 28 = .ok (.istore 4, 2) := by decide +kernel
theorem dX7_scan_30 : decode cX7_scan 30 = .ok (.iload 4, 2) := by decide +kernel
theorem dX7_scan_32 : decode cX7_scan 32 = .ok (.sipush 700, 3) := by decide +kernel
theorem dX7_scan_35 : decode cX7_scan 35 = .ok (.if_icmp .gt 73, 3) := by decide +kernel
theorem dX7_scan_38 : decode cX7_scan 38 = .ok (.iload_n 3, 1) := by decide +kernel
theorem dX7_scan_39 : decode cX7_scan 39 = .ok (.ifCond .ne 69, 3) := by decide +kernel
theorem dX7_scan_42 : decode cX7_scan 42 = .ok (.aload_n 0, 1) := by decide +kernel
theorem dX7_scan_43 : decode cX7_scan 43 = .ok (.invokevirtual 41, 3) := by decide +kernel
theorem dX7_scan_46 : decode cX7_scan 46 = .ok (.aload_n 0, 1) := by decide +kernel
theorem dX7_scan_47 : decode cX7_scan 47 = .ok (.getfield 19, 3) := by decide +kernel
theorem dX7_scan_50 : decode cX7_scan 50 = .ok (.iload 4, 2) := by decide +kernel
theorem dX7_scan_52 : decode cX7_scan 52 = .ok (.aload_n 0, 1) := by decide +kernel
theorem dX7_scan_53 : decode cX7_scan 53 = .ok (.getfield 35, 3) := by decide +kernel
theorem dX7_scan_56 : decode cX7_scan 56 = .ok (.iastore, 1) := by decide +kernel
theorem dX7_scan_57 : decode cX7_scan 57 = .ok (.aload_n 0, 1) := by decide +kernel
theorem dX7_scan_58 : decode cX7_scan 58 = .ok (.getfield 22, 3) := by decide +kernel
theorem dX7_scan_61 : decode cX7_scan 61 = .ok (.iload 4, 2) := by decide +kernel
theorem dX7_scan_63 : decode cX7_scan 63 = .ok (.iconst 0, 1) := by decide +kernel
theorem dX7_scan_64 : decode cX7_scan 64 = .ok (.iastore, 1) := by decide +kernel
theorem dX7_scan_65 : decode cX7_scan 65 = .ok (.aload_n 0, 1) := by decide +kernel
theorem dX7_scan_66 : decode cX7_scan 66 = .ok (.getfield 15, 3) := by decide +kernel
theorem dX7_scan_69 : decode cX7_scan 69 = .ok (.iload 4, 2) := by decide +kernel
theorem dX7_scan_71 : decode cX7_scan 71 = .ok (.aload_n 0, 1) := by decide +kernel
theorem dX7_scan_72 : decode cX7_scan 72 = .ok (.iload 4, 2) := by decide +kernel
theorem dX7_scan_74 : decode cX7_scan 74 = .ok (.invokevirtual 44, 3) := by decide +kernel
theorem dX7_scan_77 : decode cX7_scan 77 = .ok (.iastore, 1) := by decide +kernel
theorem dX7_scan_78 : decode cX7_scan 78 = .ok (.aload_n 0, 1) := by decide +kernel
theorem dX7_scan_79 : decode cX7_scan 79 = .ok (.getfield 15, 3) := by decide +kernel
theorem dX7_scan_82 : decode cX7_scan 82 = .ok (.iload 4, 2) := by decide +kernel
theorem dX7_scan_84 : decode cX7_scan 84 = .ok (.iaload, 1) := by decide +kernel
theorem dX7_scan_85 : decode cX7_scan 85 = .ok (.ifCond .ne 7, 3) := by decide +kernel
theorem dX7_scan_88 : decode cX7_scan 88 = .ok (.iconst 1, 1) := by decide +kernel
theorem dX7_scan_89 : decode cX7_scan 89 = .ok (.goto 4, 3) := by decide +kernel
theorem dX7_scan_92 : decode cX7_scan 92 = .ok (.iconst 0, 1) := by decide +kernel
theorem dX7_scan_93 : decode cX7_scan 93 = .ok (.istore_n 3, 1) := by decide +kernel
theorem dX7_scan_94 : decode cX7_scan 94 = .ok (.aload_n 0, 1) := by decide +kernel
theorem dX7_scan_95 : decode cX7_scan 95 = .ok (.iload 4, 2) := by decide +kernel
theorem dX7_scan_97 : decode cX7_scan 97 = .ok (.iconst 1, 1) := by decide +kernel
theorem dX7_scan_98 : decode cX7_scan 98 = .ok (.iadd, 1) := by decide +kernel
theorem dX7_scan_99 : decode cX7_scan 99 = .ok (.putfield 38, 3) := by decide +kernel
theorem dX7_scan_102 : decode cX7_scan 102 = .ok (.iinc 4 1, 3) := by decide +kernel
theorem dX7_scan_105 : decode cX7_scan 105 = .ok (.goto (-75), 3) := by decide +kernel
theorem dX7_scan_108 : decode cX7_scan 108 = .ok (.return_, 1) := by decide +kernel
theorem dX7_skipBlanks_0 : decode cX7_skipBlanks 0 = .ok (.aload_n 0, 1) := by decide +kernel
theorem dX7_skipBlanks_1 : decode cX7_skipBlanks 1 = .ok (.getfield 35, 3) := by decide +kernel
theorem dX7_skipBlanks_4 : decode cX7_skipBlanks 4 = .ok (.aload_n 0, 1) := by decide +kernel
theorem dX7_skipBlanks_5 : decode cX7_skipBlanks 5 = .ok (.getfield 31, 3) := by decide +kernel
theorem dX7_skipBlanks_8 : decode cX7_skipBlanks 8 = .ok (.if_icmp .ge 44, 3) := by decide +kernel
theorem dX7_skipBlanks_11 : decode cX7_skipBlanks 11 = .ok (.aload_n 0, 1) := by decide +kernel
theorem dX7_skipBlanks_12 : decode cX7_skipBlanks 12 = .ok (.getfield 9, 3) := by decide +kernel
theorem dX7_skipBlanks_15 : decode cX7_skipBlanks 15 = .ok (.aload_n 0, 1) := by decide +kernel
theorem dX7_skipBlanks_16 : decode cX7_skipBlanks 16 = .ok (.getfield 35, 3) := by decide +kernel
theorem dX7_skipBlanks_19 : decode cX7_skipBlanks 19 = .ok (.baload, 1) := by decide +kernel
theorem dX7_skipBlanks_20 : decode cX7_skipBlanks 20 = .ok (.bipush 32, 2) := by decide +kernel
theorem dX7_skipBlanks_22 : decode cX7_skipBlanks 22 = .ok (.if_icmp .eq 17, 3) := by decide +kernel
theorem dX7_skipBlanks_25 : decode cX7_skipBlanks 25 = .ok (.aload_n 0, 1) := by decide +kernel
theorem dX7_skipBlanks_26 : decode cX7_skipBlanks 26 = .ok (.getfield 9, 3) := by decide +kernel
theorem dX7_skipBlanks_29 : decode cX7_skipBlanks 29 = .ok (.aload_n 0, 1) := by decide +kernel
theorem dX7_skipBlanks_30 : decode cX7_skipBlanks 30 = .ok (.getfield 35, 3) := by decide +kernel
theorem dX7_skipBlanks_33 : decode cX7_skipBlanks 33 = .ok (.baload, 1) := by decide +kernel
theorem dX7_skipBlanks_34 : decode cX7_skipBlanks 34 = .ok (.bipush 10, 2) := by decide +kernel
theorem dX7_skipBlanks_36 : decode cX7_skipBlanks 36 = .ok (.if_icmp .ne 16, 3) := by decide +kernel
theorem dX7_skipBlanks_39 : decode cX7_skipBlanks 39 = .ok (.aload_n 0, 1) := by decide +kernel
theorem dX7_skipBlanks_40 : decode cX7_skipBlanks 40 = .ok (.dup, 1) := by decide +kernel
theorem dX7_skipBlanks_41 : decode cX7_skipBlanks 41 = .ok (.getfield 35, 3) := by decide +kernel
theorem dX7_skipBlanks_44 : decode cX7_skipBlanks 44 = .ok (.iconst 1, 1) := by decide +kernel
theorem dX7_skipBlanks_45 : decode cX7_skipBlanks 45 = .ok (.iadd, 1) := by decide +kernel
theorem dX7_skipBlanks_46 : decode cX7_skipBlanks 46 = .ok (.putfield 35, 3) := by decide +kernel
theorem dX7_skipBlanks_49 : decode cX7_skipBlanks 49 = .ok (.goto (-49), 3) := by decide +kernel
theorem dX7_skipBlanks_52 : decode cX7_skipBlanks 52 = .ok (.return_, 1) := by decide +kernel
theorem dX7_takeToken_0 : decode cX7_takeToken 0 = .ok (.aload_n 0, 1) := by decide +kernel
theorem dX7_takeToken_1 : decode cX7_takeToken 1 = .ok (.invokevirtual 48, 3) := by decide +kernel
theorem dX7_takeToken_4 : decode cX7_takeToken 4 = .ok (.istore_n 2, 1) := by decide +kernel
theorem dX7_takeToken_5 : decode cX7_takeToken 5 = .ok (.iload_n 2, 1) := by decide +kernel
theorem dX7_takeToken_6 : decode cX7_takeToken 6 = .ok (.iconst (-1), 1) := by decide +kernel
theorem dX7_takeToken_7 : decode cX7_takeToken 7 = .ok (.if_icmp .ne 5, 3) := by decide +kernel
theorem dX7_takeToken_10 : decode cX7_takeToken 10 = .ok (.iconst 0, 1) := by decide +kernel
theorem dX7_takeToken_11 : decode cX7_takeToken 11 = .ok (.ireturn, 1) := by decide +kernel
theorem dX7_takeToken_12 : decode cX7_takeToken 12 = .ok (.iload_n 2, 1) := by decide +kernel
theorem dX7_takeToken_13 : decode cX7_takeToken 13 = .ok (.invokestatic 54, 3) := by decide +kernel
theorem dX7_takeToken_16 : decode cX7_takeToken 16 = .ok (.ifCond .eq 9, 3) := by decide +kernel
theorem dX7_takeToken_19 : decode cX7_takeToken 19 = .ok (.aload_n 0, 1) := by decide +kernel
theorem dX7_takeToken_20 : decode cX7_takeToken 20 = .ok (.iload_n 1, 1) := by decide +kernel
theorem dX7_takeToken_21 : decode cX7_takeToken 21 = .ok (.invokevirtual 58, 3) := by decide +kernel
theorem dX7_takeToken_24 : decode cX7_takeToken 24 = .ok (.ireturn, 1) := by decide +kernel
theorem dX7_takeToken_25 : decode cX7_takeToken 25 = .ok (.iload_n 2, 1) := by decide +kernel
theorem dX7_takeToken_26 : decode cX7_takeToken 26 = .ok (.invokestatic 61, 3) := by decide +kernel
theorem dX7_takeToken_29 : decode cX7_takeToken 29 = .ok (.ifCond .eq 9, 3) := by decide +kernel
theorem dX7_takeToken_32 : decode cX7_takeToken 32 = .ok (.aload_n 0, 1) := by decide +kernel
theorem dX7_takeToken_33 : decode cX7_takeToken 33 = .ok (.iload_n 1, 1) := by decide +kernel
theorem dX7_takeToken_34 : decode cX7_takeToken 34 = .ok (.invokevirtual 64, 3) := by decide +kernel
theorem dX7_takeToken_37 : decode cX7_takeToken 37 = .ok (.ireturn, 1) := by decide +kernel
theorem dX7_takeToken_38 : decode cX7_takeToken 38 = .ok (.aload_n 0, 1) := by decide +kernel
theorem dX7_takeToken_39 : decode cX7_takeToken 39 = .ok (.dup, 1) := by decide +kernel
theorem dX7_takeToken_40 : decode cX7_takeToken 40 = .ok (.getfield 35, 3) := by decide +kernel
theorem dX7_takeToken_43 : decode cX7_takeToken 43 = .ok (.iconst 1, 1) := by decide +kernel
theorem dX7_takeToken_44 : decode cX7_takeToken 44 = .ok (.iadd, 1) := by decide +kernel
theorem dX7_takeToken_45 : decode cX7_takeToken 45 = .ok (.putfield 35, 3) := by decide +kernel
theorem dX7_takeToken_48 : decode cX7_takeToken 48 = .ok (.aload_n 0, 1) := by decide +kernel
theorem dX7_takeToken_49 : decode cX7_takeToken 49 = .ok (.iload_n 2, 1) := by decide +kernel
theorem dX7_takeToken_50 : decode cX7_takeToken 50 = .ok (.invokevirtual 67, 3) := by decide +kernel
theorem dX7_takeToken_53 : decode cX7_takeToken 53 = .ok (.ireturn, 1) := by decide +kernel
theorem dX7_peek_0 : decode cX7_peek 0 = .ok (.aload_n 0, 1) := by decide +kernel
theorem dX7_peek_1 : decode cX7_peek 1 = .ok (.getfield 35, 3) := by decide +kernel
theorem dX7_peek_4 : decode cX7_peek 4 = .ok (.ifCond .lt 30, 3) := by decide +kernel
theorem dX7_peek_7 : decode cX7_peek 7 = .ok (.aload_n 0, 1) := by decide +kernel
theorem dX7_peek_8 : decode cX7_peek 8 = .ok (.getfield 35, 3) := by decide +kernel
theorem dX7_peek_11 : decode cX7_peek 11 = .ok (.aload_n 0, 1) := by decide +kernel
theorem dX7_peek_12 : decode cX7_peek 12 = .ok (.getfield 31, 3) := by decide +kernel
theorem dX7_peek_15 : decode cX7_peek 15 = .ok (.if_icmp .ge 19, 3) := by decide +kernel
theorem dX7_peek_18 : decode cX7_peek 18 = .ok (.aload_n 0, 1) := by decide +kernel
theorem dX7_peek_19 : decode cX7_peek 19 = .ok (.getfield 9, 3) := by decide +kernel
theorem dX7_peek_22 : decode cX7_peek 22 = .ok (.aload_n 0, 1) := by decide +kernel
theorem dX7_peek_23 : decode cX7_peek 23 = .ok (.getfield 35, 3) := by decide +kernel
theorem dX7_peek_26 : decode cX7_peek 26 = .ok (.baload, 1) := by decide +kernel
theorem dX7_peek_27 : decode cX7_peek 27 = .ok (.sipush 255, 3) := by decide +kernel
theorem dX7_peek_30 : decode cX7_peek 30 = .ok (.iand, 1) := by decide +kernel
theorem dX7_peek_31 : decode cX7_peek 31 = .ok (.goto 4, 3) := by decide +kernel
theorem dX7_peek_34 : decode cX7_peek 34 = .ok (.iconst (-1), 1) := by decide +kernel
theorem dX7_peek_35 : decode cX7_peek 35 = .ok (.ireturn, 1) := by decide +kernel
theorem dX7_isLetter_0 : decode cX7_isLetter 0 = .ok (.iload_n 0, 1) := by decide +kernel
theorem dX7_isLetter_1 : decode cX7_isLetter 1 = .ok (.bipush 97, 2) := by decide +kernel
theorem dX7_isLetter_3 : decode cX7_isLetter 3 = .ok (.if_icmp .lt 13, 3) := by decide +kernel
theorem dX7_isLetter_6 : decode cX7_isLetter 6 = .ok (.iload_n 0, 1) := by decide +kernel
theorem dX7_isLetter_7 : decode cX7_isLetter 7 = .ok (.bipush 122, 2) := by decide +kernel
theorem dX7_isLetter_9 : decode cX7_isLetter 9 = .ok (.if_icmp .gt 7, 3) := by decide +kernel
theorem dX7_isLetter_12 : decode cX7_isLetter 12 = .ok (.iconst 1, 1) := by decide +kernel
theorem dX7_isLetter_13 : decode cX7_isLetter 13 = .ok (.goto 4, 3) := by decide +kernel
theorem dX7_isLetter_16 : decode cX7_isLetter 16 = .ok (.iconst 0, 1) := by decide +kernel
theorem dX7_isLetter_17 : decode cX7_isLetter 17 = .ok (.ireturn, 1) := by decide +kernel
theorem dX7_isDigit_0 : decode cX7_isDigit 0 = .ok (.iload_n 0, 1) := by decide +kernel
theorem dX7_isDigit_1 : decode cX7_isDigit 1 = .ok (.bipush 48, 2) := by decide +kernel
theorem dX7_isDigit_3 : decode cX7_isDigit 3 = .ok (.if_icmp .lt 13, 3) := by decide +kernel
theorem dX7_isDigit_6 : decode cX7_isDigit 6 = .ok (.iload_n 0, 1) := by decide +kernel
theorem dX7_isDigit_7 : decode cX7_isDigit 7 = .ok (.bipush 57, 2) := by decide +kernel
theorem dX7_isDigit_9 : decode cX7_isDigit 9 = .ok (.if_icmp .gt 7, 3) := by decide +kernel
theorem dX7_isDigit_12 : decode cX7_isDigit 12 = .ok (.iconst 1, 1) := by decide +kernel
theorem dX7_isDigit_13 : decode cX7_isDigit 13 = .ok (.goto 4, 3) := by decide +kernel
theorem dX7_isDigit_16 : decode cX7_isDigit 16 = .ok (.iconst 0, 1) := by decide +kernel
theorem dX7_isDigit_17 : decode cX7_isDigit 17 = .ok (.ireturn, 1) := by decide +kernel
theorem dX7_takeWord_0 : decode cX7_takeWord 0 = .ok (.aload_n 0, 1) := by decide +kernel
theorem dX7_takeWord_1 : decode cX7_takeWord 1 = .ok (.getfield 35, 3) := by decide +kernel
theorem dX7_takeWord_4 : decode cX7_takeWord 4 = .ok (.istore_n 2, 1) := by decide +kernel
theorem dX7_takeWord_5 : decode cX7_takeWord 5 = .ok (.iconst 0, 1) := by decide +kernel
theorem dX7_takeWord_6 : decode cX7_takeWord 6 = .ok (.istore_n 3, 1) := by decide +kernel
theorem dX7_takeWord_7 : decode cX7_takeWord 7 = .ok (.aload_n 0, 1) := by decide +kernel
theorem dX7_takeWord_8 : decode cX7_takeWord 8 = .ok (.getfield 35, 3) := by decide +kernel
theorem dX7_takeWord_11 : decode cX7_takeWord 11 = .ok (.aload_n 0, 1) := by decide +kernel
theorem dX7_takeWord_12 : decode cX7_takeWord 12 = .ok (.getfield 31, 3) := by decide +kernel
theorem dX7_takeWord_15 : decode cX7_takeWord 15 = .ok (.if_icmp .ge 61, 3) := by decide +kernel
theorem dX7_takeWord_18 : decode cX7_takeWord 18 = .ok (.aload_n 0, 1) := by decide +kernel
theorem dX7_takeWord_19 : decode cX7_takeWord 19 = .ok (.invokevirtual 48, 3) := by decide +kernel
theorem dX7_takeWord_22 : decode cX7_takeWord 22 = .ok (.invokestatic 54, 3) := by decide +kernel
theorem dX7_takeWord_25 : decode cX7_takeWord 25 = .ok (.ifCond .eq 51, 3) := by decide +kernel
theorem dX7_takeWord_28 : decode cX7_takeWord 28 = .ok (.aload_n 0, 1) := by decide +kernel
theorem dX7_takeWord_29 : decode cX7_takeWord 29 = .ok (.getfield 35, 3) := by decide +kernel
theorem dX7_takeWord_32 : decode cX7_takeWord 32 = .ok (.iload_n 2, 1) := by decide +kernel
theorem dX7_takeWord_33 : decode cX7_takeWord 33 = .ok (.isub, 1) := by decide +kernel
theorem dX7_takeWord_34 : decode cX7_takeWord 34 = .ok (.bipush 6, 2) := by decide +kernel
theorem dX7_takeWord_36 : decode cX7_takeWord 36 = .ok (.if_icmp .ge 27, 3) := by decide +kernel
theorem dX7_takeWord_39 : decode cX7_takeWord 39 = .ok (.iload_n 3, 1) := by decide +kernel
theorem dX7_takeWord_40 : decode cX7_takeWord 40 = .ok (.aload_n 0, 1) := by decide +kernel
theorem dX7_takeWord_41 : decode cX7_takeWord 41 = .ok (.invokevirtual 48, 3) := by decide +kernel
theorem dX7_takeWord_44 : decode cX7_takeWord 44 = .ok (.bipush 97, 2) := by decide +kernel
theorem dX7_takeWord_46 : decode cX7_takeWord 46 = .ok (.isub, 1) := by decide +kernel
theorem dX7_takeWord_47 : decode cX7_takeWord 47 = .ok (.iconst 1, 1) := by decide +kernel
theorem dX7_takeWord_48 : decode cX7_takeWord 48 = .ok (.iadd, 1) := by decide +kernel
theorem dX7_takeWord_49 : decode cX7_takeWord 49 = .ok (.bipush 25, 2) := by decide +kernel
theorem dX7_takeWord_51 : decode cX7_takeWord 51 = .ok (.iconst 5, 1) := by decide +kernel
theorem dX7_takeWord_52 : decode cX7_takeWord 52 = .ok (.aload_n 0, 1) := by decide +kernel
theorem dX7_takeWord_53 : decode cX7_takeWord 53 = .ok (.getfield 35, 3) := by decide +kernel
theorem dX7_takeWord_56 : decode cX7_takeWord 56 = .ok (.iload_n 2, 1) := by decide +kernel
theorem dX7_takeWord_57 : decode cX7_takeWord 57 = .ok (.isub, 1) := by decide +kernel
theorem dX7_takeWord_58 : decode cX7_takeWord 58 = .ok (.imul, 1) := by decide +kernel
theorem dX7_takeWord_59 : decode cX7_takeWord 59 = .ok (.isub, 1) := by decide +kernel
theorem dX7_takeWord_60 : decode cX7_takeWord 60 = .ok (.ishl, 1) := by decide +kernel
theorem dX7_takeWord_61 : decode cX7_takeWord 61 = .ok (.ior, 1) := by decide +kernel
theorem dX7_takeWord_62 : decode cX7_takeWord 62 = .ok (.istore_n 3, 1) := by decide +kernel
theorem dX7_takeWord_63 : decode cX7_takeWord 63 = .ok (.aload_n 0, 1) := by decide +kernel
theorem dX7_takeWord_64 : decode cX7_takeWord 64 = .ok (.dup, 1) := by decide +kernel
theorem dX7_takeWord_65 : decode cX7_takeWord 65 = .ok (.getfield 35, 3) := by decide +kernel
theorem dX7_takeWord_68 : decode cX7_takeWord 68 = .ok (.iconst 1, 1) := by decide +kernel
theorem dX7_takeWord_69 : decode cX7_takeWord 69 = .ok (.iadd, 1) := by decide +kernel
theorem dX7_takeWord_70 : decode cX7_takeWord 70 = .ok (.putfield 35, 3) := by decide +kernel
theorem dX7_takeWord_73 : decode cX7_takeWord 73 = .ok (.goto (-66), 3) := by decide +kernel
theorem dX7_takeWord_76 : decode cX7_takeWord 76 = .ok (.aload_n 0, 1) := by decide +kernel
theorem dX7_takeWord_77 : decode cX7_takeWord 77 = .ok (.getfield 35, 3) := by decide +kernel
theorem dX7_takeWord_80 : decode cX7_takeWord 80 = .ok (.iload_n 2, 1) := by decide +kernel
theorem dX7_takeWord_81 : decode cX7_takeWord 81 = .ok (.isub, 1) := by decide +kernel
theorem dX7_takeWord_82 : decode cX7_takeWord 82 = .ok (.bipush 6, 2) := by decide +kernel
theorem dX7_takeWord_84 : decode cX7_takeWord 84 = .ok (.if_icmp .le 5, 3) := by decide +kernel
theorem dX7_takeWord_87 : decode cX7_takeWord 87 = .ok (.iconst 1, 1) := by decide +kernel
theorem dX7_takeWord_88 : decode cX7_takeWord 88 = .ok (.ireturn, 1) := by decide +kernel
theorem dX7_takeWord_89 : decode cX7_takeWord 89 = .ok (.aload_n 0, 1) := by decide +kernel
theorem dX7_takeWord_90 : decode cX7_takeWord 90 = .ok (.getfield 22, 3) := by decide +kernel
theorem dX7_takeWord_93 : decode cX7_takeWord 93 = .ok (.iload_n 1, 1) := by decide +kernel
theorem dX7_takeWord_94 : decode cX7_takeWord 94 = .ok (.iload_n 3, 1) := by decide +kernel
theorem dX7_takeWord_95 : decode cX7_takeWord 95 = .ok (.iastore, 1) := by decide +kernel
theorem dX7_takeWord_96 : decode cX7_takeWord 96 = .ok (.getstatic 70, 3) := by decide +kernel
theorem dX7_takeWord_99 : decode cX7_takeWord 99 = .ok (.getstatic 70, 3) := by decide +kernel
theorem dX7_takeWord_102 : decode cX7_takeWord 102 = .ok (.arraylength, 1) := by decide +kernel
theorem dX7_takeWord_103 : decode cX7_takeWord 103 = .ok (.iload_n 3, 1) := by decide +kernel
theorem dX7_takeWord_104 : decode cX7_takeWord 104 = .ok (.invokestatic 73, 3) := by decide +kernel
theorem dX7_takeWord_107 : decode cX7_takeWord 107 = .ok (.istore 4, 2) := by decide +kernel
theorem dX7_takeWord_109 : decode cX7_takeWord 109 = .ok (.iload 4, 2) := by decide +kernel
theorem dX7_takeWord_111 : decode cX7_takeWord 111 = .ok (.ifCond .ge 7, 3) := by decide +kernel
theorem dX7_takeWord_114 : decode cX7_takeWord 114 = .ok (.iconst 2, 1) := by decide +kernel
theorem dX7_takeWord_115 : decode cX7_takeWord 115 = .ok (.goto 8, 3) := by decide +kernel
theorem dX7_takeWord_118 : decode cX7_takeWord 118 = .ok (.bipush 7, 2) := by decide +kernel
theorem dX7_takeWord_120 : decode cX7_takeWord 120 = .ok (.iload 4, 2) := by decide +kernel
theorem dX7_takeWord_122 : decode cX7_takeWord 122 = .ok (.iadd, 1) := by decide +kernel
theorem dX7_takeWord_123 : decode cX7_takeWord 123 = .ok (.ireturn, 1) := by decide +kernel
theorem dX7_takeNumber_0 : decode cX7_takeNumber 0 = .ok (.iconst 0, 1) := by decide +kernel
theorem dX7_takeNumber_1 : decode cX7_takeNumber 1 = .ok (.istore_n 2, 1) := by decide +kernel
theorem dX7_takeNumber_2 : decode cX7_takeNumber 2 = .ok (.aload_n 0, 1) := by decide +kernel
theorem dX7_takeNumber_3 : decode cX7_takeNumber 3 = .ok (.getfield 35, 3) := by decide +kernel
theorem dX7_takeNumber_6 : decode cX7_takeNumber 6 = .ok (.aload_n 0, 1) := by decide +kernel
theorem dX7_takeNumber_7 : decode cX7_takeNumber 7 = .ok (.getfield 31, 3) := by decide +kernel
theorem dX7_takeNumber_10 : decode cX7_takeNumber 10 = .ok (.if_icmp .ge 44, 3) := by decide +kernel
theorem dX7_takeNumber_13 : decode cX7_takeNumber 13 = .ok (.aload_n 0, 1) := by decide +kernel
theorem dX7_takeNumber_14 : decode cX7_takeNumber 14 = .ok (.invokevirtual 48, 3) := by decide +kernel
theorem dX7_takeNumber_17 : decode cX7_takeNumber 17 = .ok (.invokestatic 61, 3) := by decide +kernel
theorem dX7_takeNumber_20 : decode cX7_takeNumber 20 = .ok (.ifCond .eq 34, 3) := by decide +kernel
theorem dX7_takeNumber_23 : decode cX7_takeNumber 23 = .ok (.ldc 77, 2) := by decide +kernel
theorem dX7_takeNumber_25 : decode cX7_takeNumber 25 = .ok (.iload_n 2, 1) := by decide +kernel
theorem dX7_takeNumber_26 : decode cX7_takeNumber 26 = .ok (.bipush 10, 2) := by decide +kernel
theorem dX7_takeNumber_28 : decode cX7_takeNumber 28 = .ok (.imul, 1) := by decide +kernel
theorem dX7_takeNumber_29 : decode cX7_takeNumber 29 = .ok (.aload_n 0, 1) := by decide +kernel
theorem dX7_takeNumber_30 : decode cX7_takeNumber 30 = .ok (.invokevirtual 48, 3) := by decide +kernel
theorem dX7_takeNumber_33 : decode cX7_takeNumber 33 = .ok (.iadd, 1) := by decide +kernel
theorem dX7_takeNumber_34 : decode cX7_takeNumber 34 = .ok (.bipush 48, 2) := by decide +kernel
theorem dX7_takeNumber_36 : decode cX7_takeNumber 36 = .ok (.isub, 1) := by decide +kernel
theorem dX7_takeNumber_37 : decode cX7_takeNumber 37 = .ok (.invokestatic 25, 3) := by decide +kernel
theorem dX7_takeNumber_40 : decode cX7_takeNumber 40 = .ok (.istore_n 2, 1) := by decide +kernel
theorem dX7_takeNumber_41 : decode cX7_takeNumber 41 = .ok (.aload_n 0, 1) := by decide +kernel
theorem dX7_takeNumber_42 : decode cX7_takeNumber 42 = .ok (.dup, 1) := by decide +kernel
theorem dX7_takeNumber_43 : decode cX7_takeNumber 43 = .ok (.getfield 35, 3) := by decide +kernel
theorem dX7_takeNumber_46 : decode cX7_takeNumber 46 = .ok (.iconst 1, 1) := by decide +kernel
theorem dX7_takeNumber_47 : decode cX7_takeNumber 47 = .ok (.iadd, 1) := by decide +kernel
theorem dX7_takeNumber_48 : decode cX7_takeNumber 48 = .ok (.putfield 35, 3) := by decide +kernel
theorem dX7_takeNumber_51 : decode cX7_takeNumber 51 = .ok (.goto (-49), 3) := by decide +kernel
theorem dX7_takeNumber_54 : decode cX7_takeNumber 54 = .ok (.aload_n 0, 1) := by decide +kernel
theorem dX7_takeNumber_55 : decode cX7_takeNumber 55 = .ok (.getfield 22, 3) := by decide +kernel
theorem dX7_takeNumber_58 : decode cX7_takeNumber 58 = .ok (.iload_n 1, 1) := by decide +kernel
theorem dX7_takeNumber_59 : decode cX7_takeNumber 59 = .ok (.iload_n 2, 1) := by decide +kernel
theorem dX7_takeNumber_60 : decode cX7_takeNumber 60 = .ok (.iastore, 1) := by decide +kernel
theorem dX7_takeNumber_61 : decode cX7_takeNumber 61 = .ok (.iconst 3, 1) := by decide +kernel
theorem dX7_takeNumber_62 : decode cX7_takeNumber 62 = .ok (.ireturn, 1) := by decide +kernel
theorem dX7_takeSign_0 : decode cX7_takeSign 0 = .ok (.iload_n 1, 1) := by decide +kernel
theorem dX7_takeSign_1 : decode cX7_takeSign 1 = .ok (.tableswitch 175 40 62 #[109, 111, 120, 114, 175, 117, 175, 123, 175, 175, 175, 175, 175, 175, 175, 175, 175, 175, 175, 107, 129, 126, 158], 107) := by decide +kernel
theorem dX7_takeSign_108 : decode cX7_takeSign 108 = .ok (.iconst 4, 1) := by decide +kernel
theorem dX7_takeSign_109 : decode cX7_takeSign 109 = .ok (.ireturn, 1) := by decide +kernel
theorem dX7_takeSign_110 : decode cX7_takeSign 110 = .ok (.iconst 5, 1) := by decide +kernel
theorem dX7_takeSign_111 : decode cX7_takeSign 111 = .ok (.ireturn, 1) := by decide +kernel
theorem dX7_takeSign_112 : decode cX7_takeSign 112 = .ok (.bipush 6, 2) := by decide +kernel
theorem dX7_takeSign_114 : decode cX7_takeSign 114 = .ok (.ireturn, 1) := by decide +kernel
theorem dX7_takeSign_115 : decode cX7_takeSign 115 = .ok (.bipush 35, 2) := by decide +kernel
theorem dX7_takeSign_117 : decode cX7_takeSign 117 = .ok (.ireturn, 1) := by decide +kernel
theorem dX7_takeSign_118 : decode cX7_takeSign 118 = .ok (.bipush 36, 2) := by decide +kernel
theorem dX7_takeSign_120 : decode cX7_takeSign 120 = .ok (.ireturn, 1) := by decide +kernel
theorem dX7_takeSign_121 : decode cX7_takeSign 121 = .ok (.bipush 37, 2) := by decide +kernel
theorem dX7_takeSign_123 : decode cX7_takeSign 123 = .ok (.ireturn, 1) := by decide +kernel
theorem dX7_takeSign_124 : decode cX7_takeSign 124 = .ok (.bipush 38, 2) := by decide +kernel
theorem dX7_takeSign_126 : decode cX7_takeSign 126 = .ok (.ireturn, 1) := by decide +kernel
theorem dX7_takeSign_127 : decode cX7_takeSign 127 = .ok (.bipush 31, 2) := by decide +kernel
theorem dX7_takeSign_129 : decode cX7_takeSign 129 = .ok (.ireturn, 1) := by decide +kernel
theorem dX7_takeSign_130 : decode cX7_takeSign 130 = .ok (.aload_n 0, 1) := by decide +kernel
theorem dX7_takeSign_131 : decode cX7_takeSign 131 = .ok (.bipush 61, 2) := by decide +kernel
theorem dX7_takeSign_133 : decode cX7_takeSign 133 = .ok (.invokevirtual 78, 3) := by decide +kernel
theorem dX7_takeSign_136 : decode cX7_takeSign 136 = .ok (.ifCond .eq 6, 3) := by decide +kernel
theorem dX7_takeSign_139 : decode cX7_takeSign 139 = .ok (.bipush 30, 2) := by decide +kernel
theorem dX7_takeSign_141 : decode cX7_takeSign 141 = .ok (.ireturn, 1) := by decide +kernel
theorem dX7_takeSign_142 : decode cX7_takeSign 142 = .ok (.aload_n 0, 1) := by decide +kernel
theorem dX7_takeSign_143 : decode cX7_takeSign 143 = .ok (.bipush 62, 2) := by decide +kernel
theorem dX7_takeSign_145 : decode cX7_takeSign 145 = .ok (.invokevirtual 78, 3) := by decide +kernel
theorem dX7_takeSign_148 : decode cX7_takeSign 148 = .ok (.ifCond .eq 8, 3) := by decide +kernel
theorem dX7_takeSign_151 : decode cX7_takeSign 151 = .ok (.bipush 32, 2) := by decide +kernel
theorem dX7_takeSign_153 : decode cX7_takeSign 153 = .ok (.goto 5, 3) := by decide +kernel
theorem dX7_takeSign_156 : decode cX7_takeSign 156 = .ok (.bipush 29, 2) := by decide +kernel
theorem dX7_takeSign_158 : decode cX7_takeSign 158 = .ok (.ireturn, 1) := by decide +kernel
theorem dX7_takeSign_159 : decode cX7_takeSign 159 = .ok (.aload_n 0, 1) := by decide +kernel
theorem dX7_takeSign_160 : decode cX7_takeSign 160 = .ok (.bipush 61, 2) := by decide +kernel
theorem dX7_takeSign_162 : decode cX7_takeSign 162 = .ok (.invokevirtual 78, 3) := by decide +kernel
theorem dX7_takeSign_165 : decode cX7_takeSign 165 = .ok (.ifCond .eq 8, 3) := by decide +kernel
theorem dX7_takeSign_168 : decode cX7_takeSign 168 = .ok (.bipush 33, 2) := by decide +kernel
theorem dX7_takeSign_170 : decode cX7_takeSign 170 = .ok (.goto 5, 3) := by decide +kernel
theorem dX7_takeSign_173 : decode cX7_takeSign 173 = .ok (.bipush 34, 2) := by decide +kernel
theorem dX7_takeSign_175 : decode cX7_takeSign 175 = .ok (.ireturn, 1) := by decide +kernel
theorem dX7_takeSign_176 : decode cX7_takeSign 176 = .ok (.iconst 1, 1) := by decide +kernel
theorem dX7_takeSign_177 : decode cX7_takeSign 177 = .ok (.ireturn, 1) := by decide +kernel
theorem dX7_takes_0 : decode cX7_takes 0 = .ok (.aload_n 0, 1) := by decide +kernel
theorem dX7_takes_1 : decode cX7_takes 1 = .ok (.invokevirtual 48, 3) := by decide +kernel
theorem dX7_takes_4 : decode cX7_takes 4 = .ok (.iload_n 1, 1) := by decide +kernel
theorem dX7_takes_5 : decode cX7_takes 5 = .ok (.if_icmp .eq 5, 3) := by decide +kernel
theorem dX7_takes_8 : decode cX7_takes 8 = .ok (.iconst 0, 1) := by decide +kernel
theorem dX7_takes_9 : decode cX7_takes 9 = .ok (.ireturn, 1) := by decide +kernel
theorem dX7_takes_10 : decode cX7_takes 10 = .ok (.aload_n 0, 1) := by decide +kernel
theorem dX7_takes_11 : decode cX7_takes 11 = .ok (.dup, 1) := by decide +kernel
theorem dX7_takes_12 : decode cX7_takes 12 = .ok (.getfield 35, 3) := by decide +kernel
theorem dX7_takes_15 : decode cX7_takes 15 = .ok (.iconst 1, 1) := by decide +kernel
theorem dX7_takes_16 : decode cX7_takes 16 = .ok (.iadd, 1) := by decide +kernel
theorem dX7_takes_17 : decode cX7_takes 17 = .ok (.putfield 35, 3) := by decide +kernel
theorem dX7_takes_20 : decode cX7_takes 20 = .ok (.iconst 1, 1) := by decide +kernel
theorem dX7_takes_21 : decode cX7_takes 21 = .ok (.ireturn, 1) := by decide +kernel
