theorem dX5_init_0 : decode cX5_init 0 = .ok (.aload_n 0, 1) := by decide +kernel
theorem dX5_init_1 : decode cX5_init 1 = .ok (.invokespecial 3, 3) := by decide +kernel
theorem dX5_init_4 : decode cX5_init 4 = .ok (.aload_n 0, 1) := by decide +kernel
theorem dX5_init_5 : decode cX5_init 5 = .ok (.iconst (-1), 1) := by decide +kernel
theorem dX5_init_6 : decode cX5_init 6 = .ok (.putfield 9, 3) := by decide +kernel
theorem dX5_init_9 : decode cX5_init 9 = .ok (.aload_n 0, 1) := by decide +kernel
theorem dX5_init_10 : decode cX5_init 10 = .ok (.new 15, 3) := by decide +kernel
theorem dX5_init_13 : decode cX5_init 13 = .ok (.dup, 1) := by decide +kernel
theorem dX5_init_14 : decode cX5_init 14 = .ok (.invokespecial 17, 3) := by decide +kernel
theorem dX5_init_17 : decode cX5_init 17 = .ok (.putfield 18, 3) := by decide +kernel
theorem dX5_init_20 : decode cX5_init 20 = .ok (.aload_n 0, 1) := by decide +kernel
theorem dX5_init_21 : decode cX5_init 21 = .ok (.bipush 72, 2) := by decide +kernel
theorem dX5_init_23 : decode cX5_init 23 = .ok (.newarray .int, 2) := by decide +kernel
theorem dX5_init_25 : decode cX5_init 25 = .ok (.putfield 22, 3) := by decide +kernel
theorem dX5_init_28 : decode cX5_init 28 = .ok (.aload_n 0, 1) := by decide +kernel
theorem dX5_init_29 : decode cX5_init 29 = .ok (.bipush 72, 2) := by decide +kernel
theorem dX5_init_31 : decode cX5_init 31 = .ok (.newarray .int, 2) := by decide +kernel
theorem dX5_init_33 : decode cX5_init 33 = .ok (.putfield 26, 3) := by decide +kernel
theorem dX5_init_36 : decode cX5_init 36 = .ok (.aload_n 0, 1) := by decide +kernel
theorem dX5_init_37 : decode cX5_init 37 = .ok (.aload_n 1, 1) := by decide +kernel
theorem dX5_init_38 : decode cX5_init 38 = .ok (.putfield 29, 3) := by decide +kernel
theorem dX5_init_41 : decode cX5_init 41 = .ok (.return_, 1) := by decide +kernel
theorem dX5_read_0 : decode cX5_read 0 = .ok (.aload_n 0, 1) := by decide +kernel
theorem dX5_read_1 : decode cX5_read 1 = .ok (.iconst 0, 1) := by decide +kernel
theorem dX5_read_2 : decode cX5_read 2 = .ok (.putfield 33, 3) := by decide +kernel
theorem dX5_read_5 : decode cX5_read 5 = .ok (.aload_n 0, 1) := by decide +kernel
theorem dX5_read_6 : decode cX5_read 6 = .ok (.iconst (-1), 1) := by decide +kernel
theorem dX5_read_7 : decode cX5_read 7 = .ok (.putfield 9, 3) := by decide +kernel
theorem dX5_read_10 : decode cX5_read 10 = .ok (.aload_n 0, 1) := by decide +kernel
theorem dX5_read_11 : decode cX5_read 11 = .ok (.aload_n 3, 1) := by decide +kernel
theorem dX5_read_12 : decode cX5_read 12 = .ok (.putfield 29, 3) := by decide +kernel
theorem dX5_read_15 : decode cX5_read 15 = .ok (.aload_n 0, 1) := by decide +kernel
theorem dX5_read_16 : decode cX5_read 16 = .ok (.getfield 29, 3) := by decide +kernel
theorem dX5_read_19 : decode cX5_read 19 = .ok (.invokevirtual 36, 3) := by decide +kernel
theorem dX5_read_22 : decode cX5_read 22 = .ok (.aload_n 0, 1) := by decide +kernel
theorem dX5_read_23 : decode cX5_read 23 = .ok (.getfield 18, 3) := by decide +kernel
theorem dX5_read_26 : decode cX5_read 26 = .ok (.aload_n 1, 1) := by decide +kernel
theorem dX5_read_27 : decode cX5_read 27 = .ok (.iload_n 2, 1) := by decide +kernel
theorem dX5_read_28 : decode cX5_read 28 = .ok (.invokevirtual 41, 3) := by decide +kernel
theorem dX5_read_31 : decode cX5_read 31 = .ok (.aload_n 0, 1) := by decide +kernel
theorem dX5_read_32 : decode cX5_read 32 = .ok (.iconst 0, 1) := by decide +kernel
theorem dX5_read_33 : decode cX5_read 33 = .ok (.putfield 45, 3) := by decide +kernel
theorem dX5_read_36 : decode cX5_read 36 = .ok (.iconst 0, 1) := by decide +kernel
theorem dX5_read_37 : decode cX5_read 37 = .ok (.istore 4, 2) := by decide +kernel
theorem dX5_read_39 : decode cX5_read 39 = .ok (.iload 4, 2) := by decide +kernel
theorem dX5_read_41 : decode cX5_read 41 = .ok (.sipush 700, 3) := by decide +kernel
theorem dX5_read_44 : decode cX5_read 44 = .ok (.if_icmp .gt 32, 3) := by decide +kernel
theorem dX5_read_47 : decode cX5_read 47 = .ok (.aload_n 0, 1) := by decide +kernel
theorem dX5_read_48 : decode cX5_read 48 = .ok (.invokevirtual 48, 3) := by decide +kernel
theorem dX5_read_51 : decode cX5_read 51 = .ok (.aload_n 0, 1) := by decide +kernel
theorem dX5_read_52 : decode cX5_read 52 = .ok (.getfield 51, 3) := by decide +kernel
theorem dX5_read_55 : decode cX5_read 55 = .ok (.ifCond .ne 6, 3) := by decide +kernel
theorem dX5_read_58 : decode cX5_read 58 = .ok (.iload 4, 2) := by decide +kernel
theorem dX5_read_60 : decode cX5_read 60 = .ok (.ireturn, 1) := by decide +kernel
theorem dX5_read_61 : decode cX5_read 61 = .ok (.aload_n 0, 1) := by decide +kernel
theorem dX5_read_62 : decode cX5_read 62 = .ok (.invokevirtual 54, 3) := by decide +kernel
theorem dX5_read_65 : decode cX5_read 65 = .ok (.ifCond .ne 5, 3) := by decide +kernel
theorem dX5_read_68 : decode cX5_read 68 = .ok (.iconst (-1), 1) := by decide +kernel
theorem dX5_read_69 : decode cX5_read 69 = .ok (.ireturn, 1) := by decide +kernel
theorem dX5_read_70 : decode cX5_read 70 = .ok (.iinc 4 1, 3) := by decide +kernel
theorem dX5_read_73 : decode cX5_read 73 = .ok (.goto (-34), 3) := by decide +kernel
theorem dX5_read_76 : decode cX5_read 76 = .ok (.iconst (-1), 1) := by decide +kernel
theorem dX5_read_77 : decode cX5_read 77 = .ok (.ireturn, 1) := by decide +kernel
theorem dX5_advance_0 : decode cX5_advance 0 = .ok (.aload_n 0, 1) := by decide +kernel
theorem dX5_advance_1 : decode cX5_advance 1 = .ok (.getfield 45, 3) := by decide +kernel
theorem dX5_advance_4 : decode cX5_advance 4 = .ok (.ifCond .lt 75, 3) := by decide +kernel
theorem dX5_advance_7 : decode cX5_advance 7 = .ok (.aload_n 0, 1) := by decide +kernel
theorem dX5_advance_8 : decode cX5_advance 8 = .ok (.getfield 45, 3) := by decide +kernel
theorem dX5_advance_11 : decode cX5_advance 11 = .ok (.aload_n 0, 1) := by decide +kernel
theorem dX5_advance_12 : decode cX5_advance 12 = .ok (.getfield 18, 3) := by decide +kernel
theorem dX5_advance_15 : decode cX5_advance 15 = .ok (.getfield 58, 3) := by decide +kernel
theorem dX5_advance_18 : decode cX5_advance 18 = .ok (.if_icmp .ge 61, 3) := by decide +kernel
theorem dX5_advance_21 : decode cX5_advance 21 = .ok (.aload_n 0, 1) := by decide +kernel
theorem dX5_advance_22 : decode cX5_advance 22 = .ok (.aload_n 0, 1) := by decide +kernel
theorem dX5_advance_23 : decode cX5_advance 23 = .ok (.getfield 18, 3) := by decide +kernel
theorem dX5_advance_26 : decode cX5_advance 26 = .ok (.getfield 61, 3) := by decide +kernel
theorem dX5_advance_29 : decode cX5_advance 29 = .ok (.aload_n 0, 1) := by decide +kernel
theorem dX5_advance_30 : decode cX5_advance 30 = .ok (.getfield 45, 3) := by decide +kernel
theorem dX5_advance_33 : decode cX5_advance 33 = .ok (.iaload, 1) := by decide +kernel
theorem dX5_advance_34 : decode cX5_advance 34 = .ok (.putfield 51, 3) := by decide +kernel
theorem dX5_advance_37 : decode cX5_advance 37 = .ok (.aload_n 0, 1) := by decide +kernel
theorem dX5_advance_38 : decode cX5_advance 38 = .ok (.aload_n 0, 1) := by decide +kernel
theorem dX5_advance_39 : decode cX5_advance 39 = .ok (.getfield 18, 3) := by decide +kernel
theorem dX5_advance_42 : decode cX5_advance 42 = .ok (.getfield 64, 3) := by decide +kernel
theorem dX5_advance_45 : decode cX5_advance 45 = .ok (.aload_n 0, 1) := by decide +kernel
theorem dX5_advance_46 : decode cX5_advance 46 = .ok (.getfield 45, 3) := by decide +kernel
theorem dX5_advance_49 : decode cX5_advance 49 = .ok (.iaload, 1) := by decide +kernel
theorem dX5_advance_50 : decode cX5_advance 50 = .ok (.putfield 67, 3) := by decide +kernel
theorem dX5_advance_53 : decode cX5_advance 53 = .ok (.aload_n 0, 1) := by decide +kernel
theorem dX5_advance_54 : decode cX5_advance 54 = .ok (.aload_n 0, 1) := by decide +kernel
theorem dX5_advance_55 : decode cX5_advance 55 = .ok (.getfield 18, 3) := by decide +kernel
theorem dX5_advance_58 : decode cX5_advance 58 = .ok (.getfield 70, 3) := by decide +kernel
theorem dX5_advance_61 : decode cX5_advance 61 = .ok (.aload_n 0, 1) := by decide +kernel
theorem dX5_advance_62 : decode cX5_advance 62 = .ok (.getfield 45, 3) := by decide +kernel
theorem dX5_advance_65 : decode cX5_advance 65 = .ok (.iaload, 1) := by decide +kernel
theorem dX5_advance_66 : decode cX5_advance 66 = .ok (.putfield 73, 3) := by decide +kernel
theorem dX5_advance_69 : decode cX5_advance 69 = .ok (.aload_n 0, 1) := by decide +kernel
theorem dX5_advance_70 : decode cX5_advance 70 = .ok (.dup, 1) := by decide +kernel
theorem dX5_advance_71 : decode cX5_advance 71 = .ok (.getfield 45, 3) := by decide +kernel
theorem dX5_advance_74 : decode cX5_advance 74 = .ok (.iconst 1, 1) := by decide +kernel
theorem dX5_advance_75 : decode cX5_advance 75 = .ok (.iadd, 1) := by decide +kernel
theorem dX5_advance_76 : decode cX5_advance 76 = .ok (.putfield 45, 3) := by decide +kernel
theorem dX5_advance_79 : decode cX5_advance 79 = .ok (.return_, 1) := by decide +kernel
theorem dX5_fails_0 : decode cX5_fails 0 = .ok (.aload_n 0, 1) := by decide +kernel
theorem dX5_fails_1 : decode cX5_fails 1 = .ok (.iload_n 1, 1) := by decide +kernel
theorem dX5_fails_2 : decode cX5_fails 2 = .ok (.putfield 33, 3) := by decide +kernel
theorem dX5_fails_5 : decode cX5_fails 5 = .ok (.aload_n 0, 1) := by decide +kernel
theorem dX5_fails_6 : decode cX5_fails 6 = .ok (.aload_n 0, 1) := by decide +kernel
theorem dX5_fails_7 : decode cX5_fails 7 = .ok (.getfield 67, 3) := by decide +kernel
theorem dX5_fails_10 : decode cX5_fails 10 = .ok (.putfield 9, 3) := by decide +kernel
theorem dX5_fails_13 : decode cX5_fails 13 = .ok (.iconst 0, 1) := by decide +kernel
theorem dX5_fails_14 : decode cX5_fails 14 = .ok (.ireturn, 1) := by decide +kernel
theorem dX5_readLine_0 : decode cX5_readLine 0 = .ok (.aload_n 0, 1) := by decide +kernel
theorem dX5_readLine_1 : decode cX5_readLine 1 = .ok (.getfield 51, 3) := by decide +kernel
theorem dX5_readLine_4 : decode cX5_readLine 4 = .ok (.bipush 10, 2) := by decide +kernel
theorem dX5_readLine_6 : decode cX5_readLine 6 = .ok (.if_icmp .lt 24, 3) := by decide +kernel
theorem dX5_readLine_9 : decode cX5_readLine 9 = .ok (.aload_n 0, 1) := by decide +kernel
theorem dX5_readLine_10 : decode cX5_readLine 10 = .ok (.getfield 51, 3) := by decide +kernel
theorem dX5_readLine_13 : decode cX5_readLine 13 = .ok (.bipush 14, 2) := by decide +kernel
theorem dX5_readLine_15 : decode cX5_readLine 15 = .ok (.if_icmp .gt 15, 3) := by decide +kernel
theorem dX5_readLine_18 : decode cX5_readLine 18 = .ok (.aload_n 0, 1) := by decide +kernel
theorem dX5_readLine_19 : decode cX5_readLine 19 = .ok (.aload_n 0, 1) := by decide +kernel
theorem dX5_readLine_20 : decode cX5_readLine 20 = .ok (.getfield 51, 3) := by decide +kernel
theorem dX5_readLine_23 : decode cX5_readLine 23 = .ok (.bipush 10, 2) := by decide +kernel
theorem dX5_readLine_25 : decode cX5_readLine 25 = .ok (.isub, 1) := by decide +kernel
theorem dX5_readLine_26 : decode cX5_readLine 26 = .ok (.invokevirtual 78, 3) := by decide +kernel
theorem dX5_readLine_29 : decode cX5_readLine 29 = .ok (.ireturn, 1) := by decide +kernel
theorem dX5_readLine_30 : decode cX5_readLine 30 = .ok (.aload_n 0, 1) := by decide +kernel
theorem dX5_readLine_31 : decode cX5_readLine 31 = .ok (.getfield 51, 3) := by decide +kernel
theorem dX5_readLine_34 : decode cX5_readLine 34 = .ok (.tableswitch 70 7 15 #[50, 55, 60, 70, 70, 70, 70, 70, 65], 50) := by decide +kernel
theorem dX5_readLine_84 : decode cX5_readLine 84 = .ok (.aload_n 0, 1) := by decide +kernel
theorem dX5_readLine_85 : decode cX5_readLine 85 = .ok (.invokevirtual 82, 3) := by decide +kernel
theorem dX5_readLine_88 : decode cX5_readLine 88 = .ok (.ireturn, 1) := by decide +kernel
theorem dX5_readLine_89 : decode cX5_readLine 89 = .ok (.aload_n 0, 1) := by decide +kernel
theorem dX5_readLine_90 : decode cX5_readLine 90 = .ok (.invokevirtual 85, 3) := by decide +kernel
theorem dX5_readLine_93 : decode cX5_readLine 93 = .ok (.ireturn, 1) := by decide +kernel
theorem dX5_readLine_94 : decode cX5_readLine 94 = .ok (.aload_n 0, 1) := by decide +kernel
theorem dX5_readLine_95 : decode cX5_readLine 95 = .ok (.invokevirtual 88, 3) := by decide +kernel
theorem dX5_readLine_98 : decode cX5_readLine 98 = .ok (.ireturn, 1) := by decide +kernel
theorem dX5_readLine_99 : decode cX5_readLine 99 = .ok (.aload_n 0, 1) := by decide +kernel
theorem dX5_readLine_100 : decode cX5_readLine 100 = .ok (.invokevirtual 91, 3) := by decide +kernel
theorem dX5_readLine_103 : decode cX5_readLine 103 = .ok (.ireturn, 1) := by decide +kernel
theorem dX5_readLine_104 : decode cX5_readLine 104 = .ok (.aload_n 0, 1) := by decide +kernel
theorem dX5_readLine_105 : decode cX5_readLine 105 = .ok (.iconst 1, 1) := by decide +kernel
theorem dX5_readLine_106 : decode cX5_readLine 106 = .ok (.invokevirtual 94, 3) := by decide +kernel
theorem dX5_readLine_109 : decode cX5_readLine 109 = .ok (.ireturn, 1) := by decide +kernel
theorem dX5_reads_0 : decode cX5_reads 0 = .ok (.aload_n 0, 1) := by decide +kernel
theorem dX5_reads_1 : decode cX5_reads 1 = .ok (.invokevirtual 48, 3) := by decide +kernel
theorem dX5_reads_4 : decode cX5_reads 4 = .ok (.aload_n 0, 1) := by decide +kernel
theorem dX5_reads_5 : decode cX5_reads 5 = .ok (.getfield 51, 3) := by decide +kernel
theorem dX5_reads_8 : decode cX5_reads 8 = .ok (.iload_n 1, 1) := by decide +kernel
theorem dX5_reads_9 : decode cX5_reads 9 = .ok (.if_icmp .eq 11, 3) := by decide +kernel
theorem dX5_reads_12 : decode cX5_reads 12 = .ok (.aload_n 0, 1) := by decide +kernel
theorem dX5_reads_13 : decode cX5_reads 13 = .ok (.iconst 1, 1) := by decide +kernel
theorem dX5_reads_14 : decode cX5_reads 14 = .ok (.invokevirtual 94, 3) := by decide +kernel
theorem dX5_reads_17 : decode cX5_reads 17 = .ok (.ifCond .eq 7, 3) := by decide +kernel
theorem dX5_reads_20 : decode cX5_reads 20 = .ok (.iconst 1, 1) := by decide +kernel
theorem dX5_reads_21 : decode cX5_reads 21 = .ok (.goto 4, 3) := by decide +kernel
theorem dX5_reads_24 : decode cX5_reads 24 = .ok (.iconst 0, 1) := by decide +kernel
theorem dX5_reads_25 : decode cX5_reads 25 = .ok (.ireturn, 1) := by decide +kernel
theorem dX5_readsNumber_0 : decode cX5_readsNumber 0 = .ok (.aload_n 0, 1) := by decide +kernel
theorem dX5_readsNumber_1 : decode cX5_readsNumber 1 = .ok (.iconst 3, 1) := by decide +kernel
theorem dX5_readsNumber_2 : decode cX5_readsNumber 2 = .ok (.invokevirtual 97, 3) := by decide +kernel
theorem dX5_readsNumber_5 : decode cX5_readsNumber 5 = .ok (.ifCond .ne 5, 3) := by decide +kernel
theorem dX5_readsNumber_8 : decode cX5_readsNumber 8 = .ok (.iconst 0, 1) := by decide +kernel
theorem dX5_readsNumber_9 : decode cX5_readsNumber 9 = .ok (.ireturn, 1) := by decide +kernel
theorem dX5_readsNumber_10 : decode cX5_readsNumber 10 = .ok (.aload_n 0, 1) := by decide +kernel
theorem dX5_readsNumber_11 : decode cX5_readsNumber 11 = .ok (.getfield 73, 3) := by decide +kernel
theorem dX5_readsNumber_14 : decode cX5_readsNumber 14 = .ok (.iload_n 1, 1) := by decide +kernel
theorem dX5_readsNumber_15 : decode cX5_readsNumber 15 = .ok (.if_icmp .lt 11, 3) := by decide +kernel
theorem dX5_readsNumber_18 : decode cX5_readsNumber 18 = .ok (.aload_n 0, 1) := by decide +kernel
theorem dX5_readsNumber_19 : decode cX5_readsNumber 19 = .ok (.getfield 73, 3) := by decide +kernel
theorem dX5_readsNumber_22 : decode cX5_readsNumber 22 = .ok (.iload_n 2, 1) := by decide +kernel
theorem dX5_readsNumber_23 : decode cX5_readsNumber 23 = .ok (.if_icmp .le 11, 3) := by decide +kernel
theorem dX5_readsNumber_26 : decode cX5_readsNumber 26 = .ok (.aload_n 0, 1) := by decide +kernel
theorem dX5_readsNumber_27 : decode cX5_readsNumber 27 = .ok (.iconst 2, 1) := by decide +kernel
theorem dX5_readsNumber_28 : decode cX5_readsNumber 28 = .ok (.invokevirtual 94, 3) := by decide +kernel
theorem dX5_readsNumber_31 : decode cX5_readsNumber 31 = .ok (.ifCond .eq 7, 3) := by decide +kernel
theorem dX5_readsNumber_34 : decode cX5_readsNumber 34 = .ok (.iconst 1, 1) := by decide +kernel
theorem dX5_readsNumber_35 : decode cX5_readsNumber 35 = .ok (.goto 4, 3) := by decide +kernel
theorem dX5_readsNumber_38 : decode cX5_readsNumber 38 = .ok (.iconst 0, 1) := by decide +kernel
theorem dX5_readsNumber_39 : decode cX5_readsNumber 39 = .ok (.ireturn, 1) := by decide +kernel
theorem dX5_readsNewName_0 : decode cX5_readsNewName 0 = .ok (.aload_n 0, 1) := by decide +kernel
theorem dX5_readsNewName_1 : decode cX5_readsNewName 1 = .ok (.iconst 2, 1) := by decide +kernel
theorem dX5_readsNewName_2 : decode cX5_readsNewName 2 = .ok (.invokevirtual 97, 3) := by decide +kernel
theorem dX5_readsNewName_5 : decode cX5_readsNewName 5 = .ok (.ifCond .ne 5, 3) := by decide +kernel
theorem dX5_readsNewName_8 : decode cX5_readsNewName 8 = .ok (.iconst 0, 1) := by decide +kernel
theorem dX5_readsNewName_9 : decode cX5_readsNewName 9 = .ok (.ireturn, 1) := by decide +kernel
theorem dX5_readsNewName_10 : decode cX5_readsNewName 10 = .ok (.aload_n 1, 1) := by decide +kernel
theorem dX5_readsNewName_11 : decode cX5_readsNewName 11 = .ok (.iload_n 2, 1) := by decide +kernel
theorem dX5_readsNewName_12 : decode cX5_readsNewName 12 = .ok (.aload_n 0, 1) := by decide +kernel
theorem dX5_readsNewName_13 : decode cX5_readsNewName 13 = .ok (.getfield 73, 3) := by decide +kernel
theorem dX5_readsNewName_16 : decode cX5_readsNewName 16 = .ok (.invokestatic 100, 3) := by decide +kernel
theorem dX5_readsNewName_19 : decode cX5_readsNewName 19 = .ok (.ifCond .lt 11, 3) := by decide +kernel
theorem dX5_readsNewName_22 : decode cX5_readsNewName 22 = .ok (.aload_n 0, 1) := by decide +kernel
theorem dX5_readsNewName_23 : decode cX5_readsNewName 23 = .ok (.iconst 3, 1) := by decide +kernel
theorem dX5_readsNewName_24 : decode cX5_readsNewName 24 = .ok (.invokevirtual 94, 3) := by decide +kernel
theorem dX5_readsNewName_27 : decode cX5_readsNewName 27 = .ok (.ifCond .eq 7, 3) := by decide +kernel
theorem dX5_readsNewName_30 : decode cX5_readsNewName 30 = .ok (.iconst 1, 1) := by decide +kernel
theorem dX5_readsNewName_31 : decode cX5_readsNewName 31 = .ok (.goto 4, 3) := by decide +kernel
theorem dX5_readsNewName_34 : decode cX5_readsNewName 34 = .ok (.iconst 0, 1) := by decide +kernel
theorem dX5_readsNewName_35 : decode cX5_readsNewName 35 = .ok (.ireturn, 1) := by decide +kernel
theorem dX5_readMan_0 : decode cX5_readMan 0 = .ok (.aload_n 0, 1) := by decide +kernel
theorem dX5_readMan_1 : decode cX5_readMan 1 = .ok (.getfield 29, 3) := by decide +kernel
theorem dX5_readMan_4 : decode cX5_readMan 4 = .ok (.getfield 104, 3) := by decide +kernel
theorem dX5_readMan_7 : decode cX5_readMan 7 = .ok (.istore_n 1, 1) := by decide +kernel
theorem dX5_readMan_8 : decode cX5_readMan 8 = .ok (.iload_n 1, 1) := by decide +kernel
theorem dX5_readMan_9 : decode cX5_readMan 9 = .ok (.ifCond .lt 9, 3) := by decide +kernel
theorem dX5_readMan_12 : decode cX5_readMan 12 = .ok (.iload_n 1, 1) := by decide +kernel
theorem dX5_readMan_13 : decode cX5_readMan 13 = .ok (.bipush 6, 2) := by decide +kernel
theorem dX5_readMan_15 : decode cX5_readMan 15 = .ok (.if_icmp .lt 9, 3) := by decide +kernel
theorem dX5_readMan_18 : decode cX5_readMan 18 = .ok (.aload_n 0, 1) := by decide +kernel
theorem dX5_readMan_19 : decode cX5_readMan 19 = .ok (.iconst 2, 1) := by decide +kernel
theorem dX5_readMan_20 : decode cX5_readMan 20 = .ok (.invokevirtual 94, 3) := by decide +kernel
theorem dX5_readMan_23 : decode cX5_readMan 23 = .ok (.ireturn, 1) := by decide +kernel
theorem dX5_readMan_24 : decode cX5_readMan 24 = .ok (.aload_n 0, 1) := by decide +kernel
theorem dX5_readMan_25 : decode cX5_readMan 25 = .ok (.aload_n 0, 1) := by decide +kernel
theorem dX5_readMan_26 : decode cX5_readMan 26 = .ok (.getfield 29, 3) := by decide +kernel
theorem dX5_readMan_29 : decode cX5_readMan 29 = .ok (.getfield 107, 3) := by decide +kernel
theorem dX5_readMan_32 : decode cX5_readMan 32 = .ok (.iload_n 1, 1) := by decide +kernel
theorem dX5_readMan_33 : decode cX5_readMan 33 = .ok (.invokevirtual 110, 3) := by decide +kernel
theorem dX5_readMan_36 : decode cX5_readMan 36 = .ok (.ifCond .ne 5, 3) := by decide +kernel
theorem dX5_readMan_39 : decode cX5_readMan 39 = .ok (.iconst 0, 1) := by decide +kernel
theorem dX5_readMan_40 : decode cX5_readMan 40 = .ok (.ireturn, 1) := by decide +kernel
theorem dX5_readMan_41 : decode cX5_readMan 41 = .ok (.aload_n 0, 1) := by decide +kernel
theorem dX5_readMan_42 : decode cX5_readMan 42 = .ok (.getfield 29, 3) := by decide +kernel
theorem dX5_readMan_45 : decode cX5_readMan 45 = .ok (.getfield 107, 3) := by decide +kernel
theorem dX5_readMan_48 : decode cX5_readMan 48 = .ok (.iload_n 1, 1) := by decide +kernel
theorem dX5_readMan_49 : decode cX5_readMan 49 = .ok (.aload_n 0, 1) := by decide +kernel
theorem dX5_readMan_50 : decode cX5_readMan 50 = .ok (.getfield 73, 3) := by decide +kernel
theorem dX5_readMan_53 : decode cX5_readMan 53 = .ok (.iastore, 1) := by decide +kernel
theorem dX5_readMan_54 : decode cX5_readMan 54 = .ok (.aload_n 0, 1) := by decide +kernel
theorem dX5_readMan_55 : decode cX5_readMan 55 = .ok (.iconst 0, 1) := by decide +kernel
theorem dX5_readMan_56 : decode cX5_readMan 56 = .ok (.bipush 99, 2) := by decide +kernel
theorem dX5_readMan_58 : decode cX5_readMan 58 = .ok (.invokevirtual 114, 3) := by decide +kernel
theorem dX5_readMan_61 : decode cX5_readMan 61 = .ok (.ifCond .ne 5, 3) := by decide +kernel
theorem dX5_readMan_64 : decode cX5_readMan 64 = .ok (.iconst 0, 1) := by decide +kernel
theorem dX5_readMan_65 : decode cX5_readMan 65 = .ok (.ireturn, 1) := by decide +kernel
theorem dX5_readMan_66 : decode cX5_readMan 66 = .ok (.aload_n 0, 1) := by decide +kernel
theorem dX5_readMan_67 : decode cX5_readMan 67 = .ok (.getfield 29, 3) := by decide +kernel
theorem dX5_readMan_70 : decode cX5_readMan 70 = .ok (.getfield 118, 3) := by decide +kernel
theorem dX5_readMan_73 : decode cX5_readMan 73 = .ok (.iload_n 1, 1) := by decide +kernel
theorem dX5_readMan_74 : decode cX5_readMan 74 = .ok (.aload_n 0, 1) := by decide +kernel
theorem dX5_readMan_75 : decode cX5_readMan 75 = .ok (.getfield 73, 3) := by decide +kernel
theorem dX5_readMan_78 : decode cX5_readMan 78 = .ok (.iastore, 1) := by decide +kernel
theorem dX5_readMan_79 : decode cX5_readMan 79 = .ok (.aload_n 0, 1) := by decide +kernel
theorem dX5_readMan_80 : decode cX5_readMan 80 = .ok (.iconst 0, 1) := by decide +kernel
theorem dX5_readMan_81 : decode cX5_readMan 81 = .ok (.bipush 99, 2) := by decide +kernel
theorem dX5_readMan_83 : decode cX5_readMan 83 = .ok (.invokevirtual 114, 3) := by decide +kernel
theorem dX5_readMan_86 : decode cX5_readMan 86 = .ok (.ifCond .ne 5, 3) := by decide +kernel
theorem dX5_readMan_89 : decode cX5_readMan 89 = .ok (.iconst 0, 1) := by decide +kernel
theorem dX5_readMan_90 : decode cX5_readMan 90 = .ok (.ireturn, 1) := by decide +kernel
theorem dX5_readMan_91 : decode cX5_readMan 91 = .ok (.aload_n 0, 1) := by decide +kernel
theorem dX5_readMan_92 : decode cX5_readMan 92 = .ok (.getfield 29, 3) := by decide +kernel
theorem dX5_readMan_95 : decode cX5_readMan 95 = .ok (.getfield 121, 3) := by decide +kernel
theorem dX5_readMan_98 : decode cX5_readMan 98 = .ok (.iload_n 1, 1) := by decide +kernel
theorem dX5_readMan_99 : decode cX5_readMan 99 = .ok (.aload_n 0, 1) := by decide +kernel
theorem dX5_readMan_100 : decode cX5_readMan 100 = .ok (.getfield 73, 3) := by decide +kernel
theorem dX5_readMan_103 : decode cX5_readMan 103 = .ok (.iastore, 1) := by decide +kernel
theorem dX5_readMan_104 : decode cX5_readMan 104 = .ok (.aload_n 0, 1) := by decide +kernel
theorem dX5_readMan_105 : decode cX5_readMan 105 = .ok (.iconst 1, 1) := by decide +kernel
theorem dX5_readMan_106 : decode cX5_readMan 106 = .ok (.bipush 9, 2) := by decide +kernel
theorem dX5_readMan_108 : decode cX5_readMan 108 = .ok (.invokevirtual 114, 3) := by decide +kernel
theorem dX5_readMan_111 : decode cX5_readMan 111 = .ok (.ifCond .ne 5, 3) := by decide +kernel
theorem dX5_readMan_114 : decode cX5_readMan 114 = .ok (.iconst 0, 1) := by decide +kernel
theorem dX5_readMan_115 : decode cX5_readMan 115 = .ok (.ireturn, 1) := by decide +kernel
theorem dX5_readMan_116 : decode cX5_readMan 116 = .ok (.aload_n 0, 1) := by decide +kernel
theorem dX5_readMan_117 : decode cX5_readMan 117 = .ok (.getfield 29, 3) := by decide +kernel
theorem dX5_readMan_120 : decode cX5_readMan 120 = .ok (.getfield 124, 3) := by decide +kernel
theorem dX5_readMan_123 : decode cX5_readMan 123 = .ok (.iload_n 1, 1) := by decide +kernel
theorem dX5_readMan_124 : decode cX5_readMan 124 = .ok (.aload_n 0, 1) := by decide +kernel
theorem dX5_readMan_125 : decode cX5_readMan 125 = .ok (.getfield 73, 3) := by decide +kernel
theorem dX5_readMan_128 : decode cX5_readMan 128 = .ok (.iastore, 1) := by decide +kernel
theorem dX5_readMan_129 : decode cX5_readMan 129 = .ok (.aload_n 0, 1) := by decide +kernel
theorem dX5_readMan_130 : decode cX5_readMan 130 = .ok (.getfield 29, 3) := by decide +kernel
theorem dX5_readMan_133 : decode cX5_readMan 133 = .ok (.dup, 1) := by decide +kernel
theorem dX5_readMan_134 : decode cX5_readMan 134 = .ok (.getfield 104, 3) := by decide +kernel
theorem dX5_readMan_137 : decode cX5_readMan 137 = .ok (.iconst 1, 1) := by decide +kernel
theorem dX5_readMan_138 : decode cX5_readMan 138 = .ok (.iadd, 1) := by decide +kernel
theorem dX5_readMan_139 : decode cX5_readMan 139 = .ok (.putfield 104, 3) := by decide +kernel
theorem dX5_readMan_142 : decode cX5_readMan 142 = .ok (.aload_n 0, 1) := by decide +kernel
theorem dX5_readMan_143 : decode cX5_readMan 143 = .ok (.iconst 4, 1) := by decide +kernel
theorem dX5_readMan_144 : decode cX5_readMan 144 = .ok (.invokevirtual 97, 3) := by decide +kernel
theorem dX5_readMan_147 : decode cX5_readMan 147 = .ok (.ireturn, 1) := by decide +kernel
theorem dX5_readThing_0 : decode cX5_readThing 0 = .ok (.aload_n 0, 1) := by decide +kernel
theorem dX5_readThing_1 : decode cX5_readThing 1 = .ok (.getfield 29, 3) := by decide +kernel
theorem dX5_readThing_4 : decode cX5_readThing 4 = .ok (.getfield 127, 3) := by decide +kernel
theorem dX5_readThing_7 : decode cX5_readThing 7 = .ok (.istore_n 1, 1) := by decide +kernel
theorem dX5_readThing_8 : decode cX5_readThing 8 = .ok (.iload_n 1, 1) := by decide +kernel
theorem dX5_readThing_9 : decode cX5_readThing 9 = .ok (.ifCond .lt 9, 3) := by decide +kernel
theorem dX5_readThing_12 : decode cX5_readThing 12 = .ok (.iload_n 1, 1) := by decide +kernel
theorem dX5_readThing_13 : decode cX5_readThing 13 = .ok (.bipush 8, 2) := by decide +kernel
theorem dX5_readThing_15 : decode cX5_readThing 15 = .ok (.if_icmp .lt 9, 3) := by decide +kernel
theorem dX5_readThing_18 : decode cX5_readThing 18 = .ok (.aload_n 0, 1) := by decide +kernel
theorem dX5_readThing_19 : decode cX5_readThing 19 = .ok (.iconst 2, 1) := by decide +kernel
theorem dX5_readThing_20 : decode cX5_readThing 20 = .ok (.invokevirtual 94, 3) := by decide +kernel
theorem dX5_readThing_23 : decode cX5_readThing 23 = .ok (.ireturn, 1) := by decide +kernel
theorem dX5_readThing_24 : decode cX5_readThing 24 = .ok (.aload_n 0, 1) := by decide +kernel
theorem dX5_readThing_25 : decode cX5_readThing 25 = .ok (.aload_n 0, 1) := by decide +kernel
theorem dX5_readThing_26 : decode cX5_readThing 26 = .ok (.getfield 29, 3) := by decide +kernel
theorem dX5_readThing_29 : decode cX5_readThing 29 = .ok (.getfield 130, 3) := by decide +kernel
theorem dX5_readThing_32 : decode cX5_readThing 32 = .ok (.iload_n 1, 1) := by decide +kernel
theorem dX5_readThing_33 : decode cX5_readThing 33 = .ok (.invokevirtual 110, 3) := by decide +kernel
theorem dX5_readThing_36 : decode cX5_readThing 36 = .ok (.ifCond .ne 5, 3) := by decide +kernel
theorem dX5_readThing_39 : decode cX5_readThing 39 = .ok (.iconst 0, 1) := by decide +kernel
theorem dX5_readThing_40 : decode cX5_readThing 40 = .ok (.ireturn, 1) := by decide +kernel
theorem dX5_readThing_41 : decode cX5_readThing 41 = .ok (.aload_n 0, 1) := by decide +kernel
theorem dX5_readThing_42 : decode cX5_readThing 42 = .ok (.getfield 29, 3) := by decide +kernel
theorem dX5_readThing_45 : decode cX5_readThing 45 = .ok (.getfield 130, 3) := by decide +kernel
theorem dX5_readThing_48 : decode cX5_readThing 48 = .ok (.iload_n 1, 1) := by decide +kernel
theorem dX5_readThing_49 : decode cX5_readThing 49 = .ok (.aload_n 0, 1) := by decide +kernel
theorem dX5_readThing_50 : decode cX5_readThing 50 = .ok (.getfield 73, 3) := by decide +kernel
theorem dX5_readThing_53 : decode cX5_readThing 53 = .ok (.iastore, 1) := by decide +kernel
theorem dX5_readThing_54 : decode cX5_readThing 54 = .ok (.aload_n 0, 1) := by decide +kernel
theorem dX5_readThing_55 : decode cX5_readThing 55 = .ok (.iconst 1, 1) := by decide +kernel
theorem dX5_readThing_56 : decode cX5_readThing 56 = .ok (.bipush 99, 2) := by decide +kernel
theorem dX5_readThing_58 : decode cX5_readThing 58 = .ok (.invokevirtual 114, 3) := by decide +kernel
theorem dX5_readThing_61 : decode cX5_readThing 61 = .ok (.ifCond .ne 5, 3) := by decide +kernel
theorem dX5_readThing_64 : decode cX5_readThing 64 = .ok (.iconst 0, 1) := by decide +kernel
theorem dX5_readThing_65 : decode cX5_readThing 65 = .ok (.ireturn, 1) := by decide +kernel
theorem dX5_readThing_66 : decode cX5_readThing 66 = .ok (.aload_n 0, 1) := by decide +kernel
theorem dX5_readThing_67 : decode cX5_readThing 67 = .ok (.getfield 29, 3) := by decide +kernel
theorem dX5_readThing_70 : decode cX5_readThing 70 = .ok (.getfield 133, 3) := by decide +kernel
theorem dX5_readThing_73 : decode cX5_readThing 73 = .ok (.iload_n 1, 1) := by decide +kernel
theorem dX5_readThing_74 : decode cX5_readThing 74 = .ok (.aload_n 0, 1) := by decide +kernel
theorem dX5_readThing_75 : decode cX5_readThing 75 = .ok (.getfield 73, 3) := by decide +kernel
theorem dX5_readThing_78 : decode cX5_readThing 78 = .ok (.iastore, 1) := by decide +kernel
theorem dX5_readThing_79 : decode cX5_readThing 79 = .ok (.aload_n 0, 1) := by decide +kernel
theorem dX5_readThing_80 : decode cX5_readThing 80 = .ok (.iconst 1, 1) := by decide +kernel
theorem dX5_readThing_81 : decode cX5_readThing 81 = .ok (.bipush 6, 2) := by decide +kernel
theorem dX5_readThing_83 : decode cX5_readThing 83 = .ok (.invokevirtual 114, 3) := by decide +kernel
theorem dX5_readThing_86 : decode cX5_readThing 86 = .ok (.ifCond .ne 5, 3) := by decide +kernel
theorem dX5_readThing_89 : decode cX5_readThing 89 = .ok (.iconst 0, 1) := by decide +kernel
theorem dX5_readThing_90 : decode cX5_readThing 90 = .ok (.ireturn, 1) := by decide +kernel
theorem dX5_readThing_91 : decode cX5_readThing 91 = .ok (.aload_n 0, 1) := by decide +kernel
theorem dX5_readThing_92 : decode cX5_readThing 92 = .ok (.getfield 29, 3) := by decide +kernel
theorem dX5_readThing_95 : decode cX5_readThing 95 = .ok (.getfield 136, 3) := by decide +kernel
theorem dX5_readThing_98 : decode cX5_readThing 98 = .ok (.iload_n 1, 1) := by decide +kernel
theorem dX5_readThing_99 : decode cX5_readThing 99 = .ok (.aload_n 0, 1) := by decide +kernel
theorem dX5_readThing_100 : decode cX5_readThing 100 = .ok (.getfield 73, 3) := by decide +kernel
theorem dX5_readThing_103 : decode cX5_readThing 103 = .ok (.iastore, 1) := by decide +kernel
theorem dX5_readThing_104 : decode cX5_readThing 104 = .ok (.aload_n 0, 1) := by decide +kernel
theorem dX5_readThing_105 : decode cX5_readThing 105 = .ok (.iconst 0, 1) := by decide +kernel
theorem dX5_readThing_106 : decode cX5_readThing 106 = .ok (.bipush 99, 2) := by decide +kernel
theorem dX5_readThing_108 : decode cX5_readThing 108 = .ok (.invokevirtual 114, 3) := by decide +kernel
theorem dX5_readThing_111 : decode cX5_readThing 111 = .ok (.ifCond .ne 5, 3) := by decide +kernel
theorem dX5_readThing_114 : decode cX5_readThing 114 = .ok (.iconst 0, 1) := by decide +kernel
theorem dX5_readThing_115 : decode cX5_readThing 115 = .ok (.ireturn, 1) := by decide +kernel
theorem dX5_readThing_116 : decode cX5_readThing 116 = .ok (.aload_n 0, 1) := by decide +kernel
theorem dX5_readThing_117 : decode cX5_readThing 117 = .ok (.getfield 29, 3) := by decide +kernel
theorem dX5_readThing_120 : decode cX5_readThing 120 = .ok (.getfield 139, 3) := by decide +kernel
theorem dX5_readThing_123 : decode cX5_readThing 123 = .ok (.iload_n 1, 1) := by decide +kernel
theorem dX5_readThing_124 : decode cX5_readThing 124 = .ok (.aload_n 0, 1) := by decide +kernel
theorem dX5_readThing_125 : decode cX5_readThing 125 = .ok (.getfield 73, 3) := by decide +kernel
theorem dX5_readThing_128 : decode cX5_readThing 128 = .ok (.iastore, 1) := by decide +kernel
theorem dX5_readThing_129 : decode cX5_readThing 129 = .ok (.aload_n 0, 1) := by decide +kernel
theorem dX5_readThing_130 : decode cX5_readThing 130 = .ok (.getfield 29, 3) := by decide +kernel
theorem dX5_readThing_133 : decode cX5_readThing 133 = .ok (.dup, 1) := by decide +kernel
theorem dX5_readThing_134 : decode cX5_readThing 134 = .ok (.getfield 127, 3) := by decide +kernel
theorem dX5_readThing_137 : decode cX5_readThing 137 = .ok (.iconst 1, 1) := by decide +kernel
theorem dX5_readThing_138 : decode cX5_readThing 138 = .ok (.iadd, 1) := by decide +kernel
theorem dX5_readThing_139 : decode cX5_readThing 139 = .ok (.putfield 127, 3) := by decide +kernel
theorem dX5_readThing_142 : decode cX5_readThing 142 = .ok (.aload_n 0, 1) := by decide +kernel
theorem dX5_readThing_143 : decode cX5_readThing 143 = .ok (.iconst 4, 1) := by decide +kernel
theorem dX5_readThing_144 : decode cX5_readThing 144 = .ok (.invokevirtual 97, 3) := by decide +kernel
theorem dX5_readThing_147 : decode cX5_readThing 147 = .ok (.ireturn, 1) := by decide +kernel
theorem dX5_readLook_0 : decode cX5_readLook 0 = .ok (.aload_n 0, 1) := by decide +kernel
theorem dX5_readLook_1 : decode cX5_readLook 1 = .ok (.getfield 29, 3) := by decide +kernel
theorem dX5_readLook_4 : decode cX5_readLook 4 = .ok (.getfield 142, 3) := by decide +kernel
theorem dX5_readLook_7 : decode cX5_readLook 7 = .ok (.istore_n 1, 1) := by decide +kernel
theorem dX5_readLook_8 : decode cX5_readLook 8 = .ok (.iload_n 1, 1) := by decide +kernel
theorem dX5_readLook_9 : decode cX5_readLook 9 = .ok (.ifCond .lt 9, 3) := by decide +kernel
theorem dX5_readLook_12 : decode cX5_readLook 12 = .ok (.iload_n 1, 1) := by decide +kernel
theorem dX5_readLook_13 : decode cX5_readLook 13 = .ok (.bipush 10, 2) := by decide +kernel
theorem dX5_readLook_15 : decode cX5_readLook 15 = .ok (.if_icmp .lt 9, 3) := by decide +kernel
theorem dX5_readLook_18 : decode cX5_readLook 18 = .ok (.aload_n 0, 1) := by decide +kernel
theorem dX5_readLook_19 : decode cX5_readLook 19 = .ok (.iconst 2, 1) := by decide +kernel
theorem dX5_readLook_20 : decode cX5_readLook 20 = .ok (.invokevirtual 94, 3) := by decide +kernel
theorem dX5_readLook_23 : decode cX5_readLook 23 = .ok (.ireturn, 1) := by decide +kernel
theorem dX5_readLook_24 : decode cX5_readLook 24 = .ok (.aload_n 0, 1) := by decide +kernel
theorem dX5_readLook_25 : decode cX5_readLook 25 = .ok (.iconst 2, 1) := by decide +kernel
theorem dX5_readLook_26 : decode cX5_readLook 26 = .ok (.invokevirtual 97, 3) := by decide +kernel
theorem dX5_readLook_29 : decode cX5_readLook 29 = .ok (.ifCond .ne 5, 3) := by decide +kernel
theorem dX5_readLook_32 : decode cX5_readLook 32 = .ok (.iconst 0, 1) := by decide +kernel
theorem dX5_readLook_33 : decode cX5_readLook 33 = .ok (.ireturn, 1) := by decide +kernel
theorem dX5_readLook_34 : decode cX5_readLook 34 = .ok (.aload_n 0, 1) := by decide +kernel
theorem dX5_readLook_35 : decode cX5_readLook 35 = .ok (.getfield 29, 3) := by decide +kernel
theorem dX5_readLook_38 : decode cX5_readLook 38 = .ok (.getfield 107, 3) := by decide +kernel
theorem dX5_readLook_41 : decode cX5_readLook 41 = .ok (.aload_n 0, 1) := by decide +kernel
theorem dX5_readLook_42 : decode cX5_readLook 42 = .ok (.getfield 29, 3) := by decide +kernel
theorem dX5_readLook_45 : decode cX5_readLook 45 = .ok (.getfield 104, 3) := by decide +kernel
theorem dX5_readLook_48 : decode cX5_readLook 48 = .ok (.aload_n 0, 1) := by decide +kernel
theorem dX5_readLook_49 : decode cX5_readLook 49 = .ok (.getfield 73, 3) := by decide +kernel
theorem dX5_readLook_52 : decode cX5_readLook 52 = .ok (.invokestatic 100, 3) := by decide +kernel
theorem dX5_readLook_55 : decode cX5_readLook 55 = .ok (.istore_n 2, 1) := by decide +kernel
theorem dX5_readLook_56 : decode cX5_readLook 56 = .ok (.iload_n 2, 1) := by decide +kernel
theorem dX5_readLook_57 : decode cX5_readLook 57 = .ok (.ifCond .ge 9, 3) := by decide +kernel
theorem dX5_readLook_60 : decode cX5_readLook 60 = .ok (.aload_n 0, 1) := by decide +kernel
theorem dX5_readLook_61 : decode cX5_readLook 61 = .ok (.iconst 4, 1) := by decide +kernel
theorem dX5_readLook_62 : decode cX5_readLook 62 = .ok (.invokevirtual 94, 3) := by decide +kernel
theorem dX5_readLook_65 : decode cX5_readLook 65 = .ok (.ireturn, 1) := by decide +kernel
theorem dX5_readLook_66 : decode cX5_readLook 66 = .ok (.aload_n 0, 1) := by decide +kernel
theorem dX5_readLook_67 : decode cX5_readLook 67 = .ok (.getfield 29, 3) := by decide +kernel
theorem dX5_readLook_70 : decode cX5_readLook 70 = .ok (.getfield 145, 3) := by decide +kernel
theorem dX5_readLook_73 : decode cX5_readLook 73 = .ok (.iload_n 1, 1) := by decide +kernel
theorem dX5_readLook_74 : decode cX5_readLook 74 = .ok (.iload_n 2, 1) := by decide +kernel
theorem dX5_readLook_75 : decode cX5_readLook 75 = .ok (.iastore, 1) := by decide +kernel
theorem dX5_readLook_76 : decode cX5_readLook 76 = .ok (.aload_n 0, 1) := by decide +kernel
theorem dX5_readLook_77 : decode cX5_readLook 77 = .ok (.iconst 0, 1) := by decide +kernel
theorem dX5_readLook_78 : decode cX5_readLook 78 = .ok (.bipush 99, 2) := by decide +kernel
theorem dX5_readLook_80 : decode cX5_readLook 80 = .ok (.invokevirtual 114, 3) := by decide +kernel
theorem dX5_readLook_83 : decode cX5_readLook 83 = .ok (.ifCond .ne 5, 3) := by decide +kernel
theorem dX5_readLook_86 : decode cX5_readLook 86 = .ok (.iconst 0, 1) := by decide +kernel
theorem dX5_readLook_87 : decode cX5_readLook 87 = .ok (.ireturn, 1) := by decide +kernel
theorem dX5_readLook_88 : decode cX5_readLook 88 = .ok (.aload_n 0, 1) := by decide +kernel
theorem dX5_readLook_89 : decode cX5_readLook 89 = .ok (.getfield 29, 3) := by decide +kernel
theorem dX5_readLook_92 : decode cX5_readLook 92 = .ok (.getfield 148, 3) := by decide +kernel
theorem dX5_readLook_95 : decode cX5_readLook 95 = .ok (.iload_n 1, 1) := by decide +kernel
theorem dX5_readLook_96 : decode cX5_readLook 96 = .ok (.aload_n 0, 1) := by decide +kernel
theorem dX5_readLook_97 : decode cX5_readLook 97 = .ok (.getfield 73, 3) := by decide +kernel
theorem dX5_readLook_100 : decode cX5_readLook 100 = .ok (.iastore, 1) := by decide +kernel
theorem dX5_readLook_101 : decode cX5_readLook 101 = .ok (.aload_n 0, 1) := by decide +kernel
theorem dX5_readLook_102 : decode cX5_readLook 102 = .ok (.iconst 1, 1) := by decide +kernel
theorem dX5_readLook_103 : decode cX5_readLook 103 = .ok (.bipush 99, 2) := by decide +kernel
theorem dX5_readLook_105 : decode cX5_readLook 105 = .ok (.invokevirtual 114, 3) := by decide +kernel
theorem dX5_readLook_108 : decode cX5_readLook 108 = .ok (.ifCond .ne 5, 3) := by decide +kernel
theorem dX5_readLook_111 : decode cX5_readLook 111 = .ok (.iconst 0, 1) := by decide +kernel
theorem dX5_readLook_112 : decode cX5_readLook 112 = .ok (.ireturn, 1) := by decide +kernel
theorem dX5_readLook_113 : decode cX5_readLook 113 = .ok (.aload_n 0, 1) := by decide +kernel
theorem dX5_readLook_114 : decode cX5_readLook 114 = .ok (.getfield 29, 3) := by decide +kernel
theorem dX5_readLook_117 : decode cX5_readLook 117 = .ok (.getfield 151, 3) := by decide +kernel
theorem dX5_readLook_120 : decode cX5_readLook 120 = .ok (.iload_n 1, 1) := by decide +kernel
theorem dX5_readLook_121 : decode cX5_readLook 121 = .ok (.aload_n 0, 1) := by decide +kernel
theorem dX5_readLook_122 : decode cX5_readLook 122 = .ok (.getfield 73, 3) := by decide +kernel
theorem dX5_readLook_125 : decode cX5_readLook 125 = .ok (.iastore, 1) := by decide +kernel
theorem dX5_readLook_126 : decode cX5_readLook 126 = .ok (.aload_n 0, 1) := by decide +kernel
theorem dX5_readLook_127 : decode cX5_readLook 127 = .ok (.getfield 29, 3) := by decide +kernel
theorem dX5_readLook_130 : decode cX5_readLook 130 = .ok (.dup, 1) := by decide +kernel
theorem dX5_readLook_131 : decode cX5_readLook 131 = .ok (.getfield 142, 3) := by decide +kernel
theorem dX5_readLook_134 : decode cX5_readLook 134 = .ok (.iconst 1, 1) := by decide +kernel
theorem dX5_readLook_135 : decode cX5_readLook 135 = .ok (.iadd, 1) := by decide +kernel
theorem dX5_readLook_136 : decode cX5_readLook 136 = .ok (.putfield 142, 3) := by decide +kernel
theorem dX5_readLook_139 : decode cX5_readLook 139 = .ok (.aload_n 0, 1) := by decide +kernel
theorem dX5_readLook_140 : decode cX5_readLook 140 = .ok (.iconst 4, 1) := by decide +kernel
theorem dX5_readLook_141 : decode cX5_readLook 141 = .ok (.invokevirtual 97, 3) := by decide +kernel
theorem dX5_readLook_144 : decode cX5_readLook 144 = .ok (.ireturn, 1) := by decide +kernel
theorem dX5_readSetting_0 : decode cX5_readSetting 0 = .ok (.iload_n 1, 1) := by decide +kernel
theorem dX5_readSetting_1 : decode cX5_readSetting 1 = .ok (.ifCond .lt 8, 3) := by decide +kernel
theorem dX5_readSetting_4 : decode cX5_readSetting 4 = .ok (.iload_n 1, 1) := by decide +kernel
theorem dX5_readSetting_5 : decode cX5_readSetting 5 = .ok (.iconst 5, 1) := by decide +kernel
theorem dX5_readSetting_6 : decode cX5_readSetting 6 = .ok (.if_icmp .lt 9, 3) := by decide +kernel
theorem dX5_readSetting_9 : decode cX5_readSetting 9 = .ok (.aload_n 0, 1) := by decide +kernel
theorem dX5_readSetting_10 : decode cX5_readSetting 10 = .ok (.iconst 1, 1) := by decide +kernel
theorem dX5_readSetting_11 : decode cX5_readSetting 11 = .ok (.invokevirtual 94, 3) := by decide +kernel
theorem dX5_readSetting_14 : decode cX5_readSetting 14 = .ok (.ireturn, 1) := by decide +kernel
theorem dX5_readSetting_15 : decode cX5_readSetting 15 = .ok (.aload_n 0, 1) := by decide +kernel
theorem dX5_readSetting_16 : decode cX5_readSetting 16 = .ok (.getfield 29, 3) := by decide +kernel
theorem dX5_readSetting_19 : decode cX5_readSetting 19 = .ok (.getfield 154, 3) := by decide +kernel
theorem dX5_readSetting_22 : decode cX5_readSetting 22 = .ok (.iload_n 1, 1) := by decide +kernel
theorem dX5_readSetting_23 : decode cX5_readSetting 23 = .ok (.baload, 1) := by decide +kernel
theorem dX5_readSetting_24 : decode cX5_readSetting 24 = .ok (.ifCond .eq 9, 3) := by decide +kernel
theorem dX5_readSetting_27 : decode cX5_readSetting 27 = .ok (.aload_n 0, 1) := by decide +kernel
theorem dX5_readSetting_28 : decode cX5_readSetting 28 = .ok (.iconst 3, 1) := by decide +kernel
theorem dX5_readSetting_29 : decode cX5_readSetting 29 = .ok (.invokevirtual 94, 3) := by decide +kernel
theorem dX5_readSetting_32 : decode cX5_readSetting 32 = .ok (.ireturn, 1) := by decide +kernel
theorem dX5_readSetting_33 : decode cX5_readSetting 33 = .ok (.aload_n 0, 1) := by decide +kernel
theorem dX5_readSetting_34 : decode cX5_readSetting 34 = .ok (.getfield 29, 3) := by decide +kernel
theorem dX5_readSetting_37 : decode cX5_readSetting 37 = .ok (.getfield 154, 3) := by decide +kernel
theorem dX5_readSetting_40 : decode cX5_readSetting 40 = .ok (.iload_n 1, 1) := by decide +kernel
theorem dX5_readSetting_41 : decode cX5_readSetting 41 = .ok (.iconst 1, 1) := by decide +kernel
theorem dX5_readSetting_42 : decode cX5_readSetting 42 = .ok (.bastore, 1) := by decide +kernel
theorem dX5_readSetting_43 : decode cX5_readSetting 43 = .ok (.aload_n 0, 1) := by decide +kernel
theorem dX5_readSetting_44 : decode cX5_readSetting 44 = .ok (.iconst 0, 1) := by decide +kernel
theorem dX5_readSetting_45 : decode cX5_readSetting 45 = .ok (.getstatic 158, 3) := by decide +kernel
theorem dX5_readSetting_48 : decode cX5_readSetting 48 = .ok (.iload_n 1, 1) := by decide +kernel
theorem dX5_readSetting_49 : decode cX5_readSetting 49 = .ok (.iaload, 1) := by decide +kernel
theorem dX5_readSetting_50 : decode cX5_readSetting 50 = .ok (.invokevirtual 114, 3) := by decide +kernel
theorem dX5_readSetting_53 : decode cX5_readSetting 53 = .ok (.ifCond .ne 5, 3) := by decide +kernel
theorem dX5_readSetting_56 : decode cX5_readSetting 56 = .ok (.iconst 0, 1) := by decide +kernel
theorem dX5_readSetting_57 : decode cX5_readSetting 57 = .ok (.ireturn, 1) := by decide +kernel
theorem dX5_readSetting_58 : decode cX5_readSetting 58 = .ok (.aload_n 0, 1) := by decide +kernel
theorem dX5_readSetting_59 : decode cX5_readSetting 59 = .ok (.getfield 29, 3) := by decide +kernel
theorem dX5_readSetting_62 : decode cX5_readSetting 62 = .ok (.getfield 161, 3) := by decide +kernel
theorem dX5_readSetting_65 : decode cX5_readSetting 65 = .ok (.iload_n 1, 1) := by decide +kernel
theorem dX5_readSetting_66 : decode cX5_readSetting 66 = .ok (.aload_n 0, 1) := by decide +kernel
theorem dX5_readSetting_67 : decode cX5_readSetting 67 = .ok (.getfield 73, 3) := by decide +kernel
theorem dX5_readSetting_70 : decode cX5_readSetting 70 = .ok (.iastore, 1) := by decide +kernel
theorem dX5_readSetting_71 : decode cX5_readSetting 71 = .ok (.aload_n 0, 1) := by decide +kernel
theorem dX5_readSetting_72 : decode cX5_readSetting 72 = .ok (.iconst 4, 1) := by decide +kernel
theorem dX5_readSetting_73 : decode cX5_readSetting 73 = .ok (.invokevirtual 97, 3) := by decide +kernel
theorem dX5_readSetting_76 : decode cX5_readSetting 76 = .ok (.ireturn, 1) := by decide +kernel
theorem dX5_readLaw_0 : decode cX5_readLaw 0 = .ok (.aload_n 0, 1) := by decide +kernel
theorem dX5_readLaw_1 : decode cX5_readLaw 1 = .ok (.invokevirtual 48, 3) := by decide +kernel
theorem dX5_readLaw_4 : decode cX5_readLaw 4 = .ok (.aload_n 0, 1) := by decide +kernel
theorem dX5_readLaw_5 : decode cX5_readLaw 5 = .ok (.getfield 51, 3) := by decide +kernel
theorem dX5_readLaw_8 : decode cX5_readLaw 8 = .ok (.bipush 16, 2) := by decide +kernel
theorem dX5_readLaw_10 : decode cX5_readLaw 10 = .ok (.isub, 1) := by decide +kernel
theorem dX5_readLaw_11 : decode cX5_readLaw 11 = .ok (.istore_n 1, 1) := by decide +kernel
theorem dX5_readLaw_12 : decode cX5_readLaw 12 = .ok (.iload_n 1, 1) := by decide +kernel
theorem dX5_readLaw_13 : decode cX5_readLaw 13 = .ok (.ifCond .lt 8, 3) := by decide +kernel
theorem dX5_readLaw_16 : decode cX5_readLaw 16 = .ok (.iload_n 1, 1) := by decide +kernel
theorem dX5_readLaw_17 : decode cX5_readLaw 17 = .ok (.iconst 3, 1) := by decide +kernel
theorem dX5_readLaw_18 : decode cX5_readLaw 18 = .ok (.if_icmp .lt 9, 3) := by decide +kernel
theorem dX5_readLaw_21 : decode cX5_readLaw 21 = .ok (.aload_n 0, 1) := by decide +kernel
theorem dX5_readLaw_22 : decode cX5_readLaw 22 = .ok (.iconst 1, 1) := by decide +kernel
theorem dX5_readLaw_23 : decode cX5_readLaw 23 = .ok (.invokevirtual 94, 3) := by decide +kernel
theorem dX5_readLaw_26 : decode cX5_readLaw 26 = .ok (.ireturn, 1) := by decide +kernel
theorem dX5_readLaw_27 : decode cX5_readLaw 27 = .ok (.aload_n 0, 1) := by decide +kernel
theorem dX5_readLaw_28 : decode cX5_readLaw 28 = .ok (.getfield 29, 3) := by decide +kernel
theorem dX5_readLaw_31 : decode cX5_readLaw 31 = .ok (.getfield 164, 3) := by decide +kernel
theorem dX5_readLaw_34 : decode cX5_readLaw 34 = .ok (.astore_n 2, 1) := by decide +kernel
theorem dX5_readLaw_35 : decode cX5_readLaw 35 = .ok (.aload_n 2, 1) := by decide +kernel
theorem dX5_readLaw_36 : decode cX5_readLaw 36 = .ok (.getfield 168, 3) := by decide +kernel
theorem dX5_readLaw_39 : decode cX5_readLaw 39 = .ok (.iload_n 1, 1) := by decide +kernel
theorem dX5_readLaw_40 : decode cX5_readLaw 40 = .ok (.iaload, 1) := by decide +kernel
theorem dX5_readLaw_41 : decode cX5_readLaw 41 = .ok (.ifCond .lt 9, 3) := by decide +kernel
theorem dX5_readLaw_44 : decode cX5_readLaw 44 = .ok (.aload_n 0, 1) := by decide +kernel
theorem dX5_readLaw_45 : decode cX5_readLaw 45 = .ok (.iconst 3, 1) := by decide +kernel
theorem dX5_readLaw_46 : decode cX5_readLaw 46 = .ok (.invokevirtual 94, 3) := by decide +kernel
theorem dX5_readLaw_49 : decode cX5_readLaw 49 = .ok (.ireturn, 1) := by decide +kernel
theorem dX5_readLaw_50 : decode cX5_readLaw 50 = .ok (.aload_n 2, 1) := by decide +kernel
theorem dX5_readLaw_51 : decode cX5_readLaw 51 = .ok (.getfield 168, 3) := by decide +kernel
theorem dX5_readLaw_54 : decode cX5_readLaw 54 = .ok (.iload_n 1, 1) := by decide +kernel
theorem dX5_readLaw_55 : decode cX5_readLaw 55 = .ok (.aload_n 2, 1) := by decide +kernel
theorem dX5_readLaw_56 : decode cX5_readLaw 56 = .ok (.getfield 173, 3) := by decide +kernel
theorem dX5_readLaw_59 : decode cX5_readLaw 59 = .ok (.iastore, 1) := by decide +kernel
theorem dX5_readLaw_60 : decode cX5_readLaw 60 = .ok (.aload_n 0, 1) := by decide +kernel
theorem dX5_readLaw_61 : decode cX5_readLaw 61 = .ok (.iconst 0, 1) := by decide +kernel
theorem dX5_readLaw_62 : decode cX5_readLaw 62 = .ok (.putfield 174, 3) := by decide +kernel
theorem dX5_readLaw_65 : decode cX5_readLaw 65 = .ok (.aload_n 0, 1) := by decide +kernel
theorem dX5_readLaw_66 : decode cX5_readLaw 66 = .ok (.iconst 0, 1) := by decide +kernel
theorem dX5_readLaw_67 : decode cX5_readLaw 67 = .ok (.putfield 177, 3) := by decide +kernel
theorem dX5_readLaw_70 : decode cX5_readLaw 70 = .ok (.aload_n 0, 1) := by decide +kernel
theorem dX5_readLaw_71 : decode cX5_readLaw 71 = .ok (.iconst 1, 1) := by decide +kernel
theorem dX5_readLaw_72 : decode cX5_readLaw 72 = .ok (.putfield 180, 3) := by decide +kernel
theorem dX5_readLaw_75 : decode cX5_readLaw 75 = .ok (.aload_n 0, 1) := by decide +kernel
theorem dX5_readLaw_76 : decode cX5_readLaw 76 = .ok (.iconst 1, 1) := by decide +kernel
theorem dX5_readLaw_77 : decode cX5_readLaw 77 = .ok (.putfield 184, 3) := by decide +kernel
theorem dX5_readLaw_80 : decode cX5_readLaw 80 = .ok (.iconst 0, 1) := by decide +kernel
theorem dX5_readLaw_81 : decode cX5_readLaw 81 = .ok (.istore_n 3, 1) := by decide +kernel
theorem dX5_readLaw_82 : decode cX5_readLaw 82 = .ok (.iload_n 3, 1) := by decide +kernel
theorem dX5_readLaw_83 : decode cX5_readLaw 83 = .ok (.sipush 700, 3) := by decide +kernel
theorem dX5_readLaw_86 : decode cX5_readLaw 86 = .ok (.if_icmp .gt 78, 3) := by decide +kernel
theorem dX5_readLaw_89 : decode cX5_readLaw 89 = .ok (.aload_n 0, 1) := by decide +kernel
theorem dX5_readLaw_90 : decode cX5_readLaw 90 = .ok (.invokevirtual 48, 3) := by decide +kernel
theorem dX5_readLaw_93 : decode cX5_readLaw 93 = .ok (.aload_n 0, 1) := by decide +kernel
theorem dX5_readLaw_94 : decode cX5_readLaw 94 = .ok (.getfield 180, 3) := by decide +kernel
theorem dX5_readLaw_97 : decode cX5_readLaw 97 = .ok (.ifCond .ne 35, 3) := by decide +kernel
theorem dX5_readLaw_100 : decode cX5_readLaw 100 = .ok (.aload_n 0, 1) := by decide +kernel
theorem dX5_readLaw_101 : decode cX5_readLaw 101 = .ok (.getfield 51, 3) := by decide +kernel
theorem dX5_readLaw_104 : decode cX5_readLaw 104 = .ok (.iconst 4, 1) := by decide +kernel
theorem dX5_readLaw_105 : decode cX5_readLaw 105 = .ok (.if_icmp .ne 27, 3) := by decide +kernel
theorem dX5_readLaw_108 : decode cX5_readLaw 108 = .ok (.aload_n 0, 1) := by decide +kernel
theorem dX5_readLaw_109 : decode cX5_readLaw 109 = .ok (.getfield 177, 3) := by decide +kernel
theorem dX5_readLaw_112 : decode cX5_readLaw 112 = .ok (.ifCond .ne 20, 3) := by decide +kernel
theorem dX5_readLaw_115 : decode cX5_readLaw 115 = .ok (.aload_n 0, 1) := by decide +kernel
theorem dX5_readLaw_116 : decode cX5_readLaw 116 = .ok (.iconst 1, 1) := by decide +kernel
theorem dX5_readLaw_117 : decode cX5_readLaw 117 = .ok (.invokevirtual 187, 3) := by decide +kernel
theorem dX5_readLaw_120 : decode cX5_readLaw 120 = .ok (.aload_n 2, 1) := by decide +kernel
theorem dX5_readLaw_121 : decode cX5_readLaw 121 = .ok (.getfield 191, 3) := by decide +kernel
theorem dX5_readLaw_124 : decode cX5_readLaw 124 = .ok (.iload_n 1, 1) := by decide +kernel
theorem dX5_readLaw_125 : decode cX5_readLaw 125 = .ok (.aload_n 2, 1) := by decide +kernel
theorem dX5_readLaw_126 : decode cX5_readLaw 126 = .ok (.getfield 173, 3) := by decide +kernel
theorem dX5_readLaw_129 : decode cX5_readLaw 129 = .ok (.iastore, 1) := by decide +kernel
theorem dX5_readLaw_130 : decode cX5_readLaw 130 = .ok (.iconst 1, 1) := by decide +kernel
theorem dX5_readLaw_131 : decode cX5_readLaw 131 = .ok (.ireturn, 1) := by decide +kernel
theorem dX5_readLaw_132 : decode cX5_readLaw 132 = .ok (.aload_n 0, 1) := by decide +kernel
theorem dX5_readLaw_133 : decode cX5_readLaw 133 = .ok (.getfield 180, 3) := by decide +kernel
theorem dX5_readLaw_136 : decode cX5_readLaw 136 = .ok (.ifCond .eq 13, 3) := by decide +kernel
theorem dX5_readLaw_139 : decode cX5_readLaw 139 = .ok (.aload_n 0, 1) := by decide +kernel
theorem dX5_readLaw_140 : decode cX5_readLaw 140 = .ok (.invokevirtual 194, 3) := by decide +kernel
theorem dX5_readLaw_143 : decode cX5_readLaw 143 = .ok (.ifCond .eq 13, 3) := by decide +kernel
theorem dX5_readLaw_146 : decode cX5_readLaw 146 = .ok (.goto 12, 3) := by decide +kernel
theorem dX5_readLaw_149 : decode cX5_readLaw 149 = .ok (.aload_n 0, 1) := by decide +kernel
theorem dX5_readLaw_150 : decode cX5_readLaw 150 = .ok (.invokevirtual 197, 3) := by decide +kernel
theorem dX5_readLaw_153 : decode cX5_readLaw 153 = .ok (.ifCond .ne 5, 3) := by decide +kernel
theorem dX5_readLaw_156 : decode cX5_readLaw 156 = .ok (.iconst 0, 1) := by decide +kernel
theorem dX5_readLaw_157 : decode cX5_readLaw 157 = .ok (.ireturn, 1) := by decide +kernel
theorem dX5_readLaw_158 : decode cX5_readLaw 158 = .ok (.iinc 3 1, 3) := by decide +kernel
theorem dX5_readLaw_161 : decode cX5_readLaw 161 = .ok (.goto (-79), 3) := by decide +kernel
theorem dX5_readLaw_164 : decode cX5_readLaw 164 = .ok (.aload_n 0, 1) := by decide +kernel
theorem dX5_readLaw_165 : decode cX5_readLaw 165 = .ok (.iconst 1, 1) := by decide +kernel
theorem dX5_readLaw_166 : decode cX5_readLaw 166 = .ok (.invokevirtual 94, 3) := by decide +kernel
theorem dX5_readLaw_169 : decode cX5_readLaw 169 = .ok (.ireturn, 1) := by decide +kernel
theorem dX5_takeOperand_0 : decode cX5_takeOperand 0 = .ok (.aload_n 0, 1) := by decide +kernel
theorem dX5_takeOperand_1 : decode cX5_takeOperand 1 = .ok (.getfield 51, 3) := by decide +kernel
theorem dX5_takeOperand_4 : decode cX5_takeOperand 4 = .ok (.iconst 5, 1) := by decide +kernel
theorem dX5_takeOperand_5 : decode cX5_takeOperand 5 = .ok (.if_icmp .ne 8, 3) := by decide +kernel
theorem dX5_takeOperand_8 : decode cX5_takeOperand 8 = .ok (.aload_n 0, 1) := by decide +kernel
theorem dX5_takeOperand_9 : decode cX5_takeOperand 9 = .ok (.invokevirtual 200, 3) := by decide +kernel
theorem dX5_takeOperand_12 : decode cX5_takeOperand 12 = .ok (.ireturn, 1) := by decide +kernel
theorem dX5_takeOperand_13 : decode cX5_takeOperand 13 = .ok (.aload_n 0, 1) := by decide +kernel
theorem dX5_takeOperand_14 : decode cX5_takeOperand 14 = .ok (.getfield 51, 3) := by decide +kernel
theorem dX5_takeOperand_17 : decode cX5_takeOperand 17 = .ok (.bipush 28, 2) := by decide +kernel
theorem dX5_takeOperand_19 : decode cX5_takeOperand 19 = .ok (.if_icmp .ne 14, 3) := by decide +kernel
theorem dX5_takeOperand_22 : decode cX5_takeOperand 22 = .ok (.aload_n 0, 1) := by decide +kernel
theorem dX5_takeOperand_23 : decode cX5_takeOperand 23 = .ok (.getfield 184, 3) := by decide +kernel
theorem dX5_takeOperand_26 : decode cX5_takeOperand 26 = .ok (.ifCond .eq 7, 3) := by decide +kernel
theorem dX5_takeOperand_29 : decode cX5_takeOperand 29 = .ok (.iconst 1, 1) := by decide +kernel
theorem dX5_takeOperand_30 : decode cX5_takeOperand 30 = .ok (.goto 4, 3) := by decide +kernel
theorem dX5_takeOperand_33 : decode cX5_takeOperand 33 = .ok (.iconst 0, 1) := by decide +kernel
theorem dX5_takeOperand_34 : decode cX5_takeOperand 34 = .ok (.istore_n 1, 1) := by decide +kernel
theorem dX5_takeOperand_35 : decode cX5_takeOperand 35 = .ok (.aload_n 0, 1) := by decide +kernel
theorem dX5_takeOperand_36 : decode cX5_takeOperand 36 = .ok (.getfield 51, 3) := by decide +kernel
theorem dX5_takeOperand_39 : decode cX5_takeOperand 39 = .ok (.iconst 3, 1) := by decide +kernel
theorem dX5_takeOperand_40 : decode cX5_takeOperand 40 = .ok (.if_icmp .ne 7, 3) := by decide +kernel
theorem dX5_takeOperand_43 : decode cX5_takeOperand 43 = .ok (.iconst 1, 1) := by decide +kernel
theorem dX5_takeOperand_44 : decode cX5_takeOperand 44 = .ok (.goto 4, 3) := by decide +kernel
theorem dX5_takeOperand_47 : decode cX5_takeOperand 47 = .ok (.iconst 0, 1) := by decide +kernel
theorem dX5_takeOperand_48 : decode cX5_takeOperand 48 = .ok (.istore_n 2, 1) := by decide +kernel
theorem dX5_takeOperand_49 : decode cX5_takeOperand 49 = .ok (.aload_n 0, 1) := by decide +kernel
theorem dX5_takeOperand_50 : decode cX5_takeOperand 50 = .ok (.getfield 51, 3) := by decide +kernel
theorem dX5_takeOperand_53 : decode cX5_takeOperand 53 = .ok (.bipush 19, 2) := by decide +kernel
theorem dX5_takeOperand_55 : decode cX5_takeOperand 55 = .ok (.if_icmp .lt 16, 3) := by decide +kernel
theorem dX5_takeOperand_58 : decode cX5_takeOperand 58 = .ok (.aload_n 0, 1) := by decide +kernel
theorem dX5_takeOperand_59 : decode cX5_takeOperand 59 = .ok (.getfield 51, 3) := by decide +kernel
theorem dX5_takeOperand_62 : decode cX5_takeOperand 62 = .ok (.bipush 25, 2) := by decide +kernel
theorem dX5_takeOperand_64 : decode cX5_takeOperand 64 = .ok (.if_icmp .gt 7, 3) := by decide +kernel
theorem dX5_takeOperand_67 : decode cX5_takeOperand 67 = .ok (.iconst 1, 1) := by decide +kernel
theorem dX5_takeOperand_68 : decode cX5_takeOperand 68 = .ok (.goto 4, 3) := by decide +kernel
theorem dX5_takeOperand_71 : decode cX5_takeOperand 71 = .ok (.iconst 0, 1) := by decide +kernel
theorem dX5_takeOperand_72 : decode cX5_takeOperand 72 = .ok (.istore_n 3, 1) := by decide +kernel
theorem dX5_takeOperand_73 : decode cX5_takeOperand 73 = .ok (.iload_n 1, 1) := by decide +kernel
theorem dX5_takeOperand_74 : decode cX5_takeOperand 74 = .ok (.ifCond .ne 17, 3) := by decide +kernel
theorem dX5_takeOperand_77 : decode cX5_takeOperand 77 = .ok (.iload_n 2, 1) := by decide +kernel
theorem dX5_takeOperand_78 : decode cX5_takeOperand 78 = .ok (.ifCond .ne 13, 3) := by decide +kernel
theorem dX5_takeOperand_81 : decode cX5_takeOperand 81 = .ok (.iload_n 3, 1) := by decide +kernel
theorem dX5_takeOperand_82 : decode cX5_takeOperand 82 = .ok (.ifCond .ne 9, 3) := by decide +kernel
theorem dX5_takeOperand_85 : decode cX5_takeOperand 85 = .ok (.aload_n 0, 1) := by decide +kernel
theorem dX5_takeOperand_86 : decode cX5_takeOperand 86 = .ok (.iconst 1, 1) := by decide +kernel
theorem dX5_takeOperand_87 : decode cX5_takeOperand 87 = .ok (.invokevirtual 94, 3) := by decide +kernel
theorem dX5_takeOperand_90 : decode cX5_takeOperand 90 = .ok (.ireturn, 1) := by decide +kernel
theorem dX5_takeOperand_91 : decode cX5_takeOperand 91 = .ok (.iload_n 2, 1) := by decide +kernel
theorem dX5_takeOperand_92 : decode cX5_takeOperand 92 = .ok (.ifCond .eq 13, 3) := by decide +kernel
theorem dX5_takeOperand_95 : decode cX5_takeOperand 95 = .ok (.aload_n 0, 1) := by decide +kernel
theorem dX5_takeOperand_96 : decode cX5_takeOperand 96 = .ok (.getfield 73, 3) := by decide +kernel
theorem dX5_takeOperand_99 : decode cX5_takeOperand 99 = .ok (.sipush 9999, 3) := by decide +kernel
theorem dX5_takeOperand_102 : decode cX5_takeOperand 102 = .ok (.if_icmp .gt 18, 3) := by decide +kernel
theorem dX5_takeOperand_105 : decode cX5_takeOperand 105 = .ok (.aload_n 0, 1) := by decide +kernel
theorem dX5_takeOperand_106 : decode cX5_takeOperand 106 = .ok (.getfield 29, 3) := by decide +kernel
theorem dX5_takeOperand_109 : decode cX5_takeOperand 109 = .ok (.getfield 164, 3) := by decide +kernel
theorem dX5_takeOperand_112 : decode cX5_takeOperand 112 = .ok (.getfield 203, 3) := by decide +kernel
theorem dX5_takeOperand_115 : decode cX5_takeOperand 115 = .ok (.bipush 64, 2) := by decide +kernel
theorem dX5_takeOperand_117 : decode cX5_takeOperand 117 = .ok (.if_icmp .lt 9, 3) := by decide +kernel
theorem dX5_takeOperand_120 : decode cX5_takeOperand 120 = .ok (.aload_n 0, 1) := by decide +kernel
theorem dX5_takeOperand_121 : decode cX5_takeOperand 121 = .ok (.iconst 2, 1) := by decide +kernel
theorem dX5_takeOperand_122 : decode cX5_takeOperand 122 = .ok (.invokevirtual 94, 3) := by decide +kernel
theorem dX5_takeOperand_125 : decode cX5_takeOperand 125 = .ok (.ireturn, 1) := by decide +kernel
theorem dX5_takeOperand_126 : decode cX5_takeOperand 126 = .ok (.aload_n 0, 1) := by decide +kernel
theorem dX5_takeOperand_127 : decode cX5_takeOperand 127 = .ok (.getfield 29, 3) := by decide +kernel
theorem dX5_takeOperand_130 : decode cX5_takeOperand 130 = .ok (.getfield 164, 3) := by decide +kernel
theorem dX5_takeOperand_133 : decode cX5_takeOperand 133 = .ok (.dup, 1) := by decide +kernel
theorem dX5_takeOperand_134 : decode cX5_takeOperand 134 = .ok (.getfield 203, 3) := by decide +kernel
theorem dX5_takeOperand_137 : decode cX5_takeOperand 137 = .ok (.iconst 1, 1) := by decide +kernel
theorem dX5_takeOperand_138 : decode cX5_takeOperand 138 = .ok (.iadd, 1) := by decide +kernel
theorem dX5_takeOperand_139 : decode cX5_takeOperand 139 = .ok (.putfield 203, 3) := by decide +kernel
theorem dX5_takeOperand_142 : decode cX5_takeOperand 142 = .ok (.iload_n 1, 1) := by decide +kernel
theorem dX5_takeOperand_143 : decode cX5_takeOperand 143 = .ok (.ifCond .eq 17, 3) := by decide +kernel
theorem dX5_takeOperand_146 : decode cX5_takeOperand 146 = .ok (.aload_n 0, 1) := by decide +kernel
theorem dX5_takeOperand_147 : decode cX5_takeOperand 147 = .ok (.aload_n 0, 1) := by decide +kernel
theorem dX5_takeOperand_148 : decode cX5_takeOperand 148 = .ok (.getfield 51, 3) := by decide +kernel
theorem dX5_takeOperand_151 : decode cX5_takeOperand 151 = .ok (.invokestatic 206, 3) := by decide +kernel
theorem dX5_takeOperand_154 : decode cX5_takeOperand 154 = .ok (.invokevirtual 210, 3) := by decide +kernel
theorem dX5_takeOperand_157 : decode cX5_takeOperand 157 = .ok (.goto 26, 3) := by decide +kernel
theorem dX5_takeOperand_160 : decode cX5_takeOperand 160 = .ok (.aload_n 0, 1) := by decide +kernel
theorem dX5_takeOperand_161 : decode cX5_takeOperand 161 = .ok (.getfield 29, 3) := by decide +kernel
theorem dX5_takeOperand_164 : decode cX5_takeOperand 164 = .ok (.getfield 164, 3) := by decide +kernel
theorem dX5_takeOperand_167 : decode cX5_takeOperand 167 = .ok (.aload_n 0, 1) := by decide +kernel
theorem dX5_takeOperand_168 : decode cX5_takeOperand 168 = .ok (.getfield 51, 3) := by decide +kernel
theorem dX5_takeOperand_171 : decode cX5_takeOperand 171 = .ok (.aload_n 0, 1) := by decide +kernel
theorem dX5_takeOperand_172 : decode cX5_takeOperand 172 = .ok (.getfield 73, 3) := by decide +kernel
theorem dX5_takeOperand_175 : decode cX5_takeOperand 175 = .ok (.invokevirtual 213, 3) := by decide +kernel
theorem dX5_takeOperand_178 : decode cX5_takeOperand 178 = .ok (.aload_n 0, 1) := by decide +kernel
theorem dX5_takeOperand_179 : decode cX5_takeOperand 179 = .ok (.iconst 0, 1) := by decide +kernel
theorem dX5_takeOperand_180 : decode cX5_takeOperand 180 = .ok (.putfield 180, 3) := by decide +kernel
theorem dX5_takeOperand_183 : decode cX5_takeOperand 183 = .ok (.iconst 1, 1) := by decide +kernel
theorem dX5_takeOperand_184 : decode cX5_takeOperand 184 = .ok (.ireturn, 1) := by decide +kernel
theorem dX5_takeOpen_0 : decode cX5_takeOpen 0 = .ok (.aload_n 0, 1) := by decide +kernel
theorem dX5_takeOpen_1 : decode cX5_takeOpen 1 = .ok (.getfield 177, 3) := by decide +kernel
theorem dX5_takeOpen_4 : decode cX5_takeOpen 4 = .ok (.bipush 8, 2) := by decide +kernel
theorem dX5_takeOpen_6 : decode cX5_takeOpen 6 = .ok (.if_icmp .lt 9, 3) := by decide +kernel
theorem dX5_takeOpen_9 : decode cX5_takeOpen 9 = .ok (.aload_n 0, 1) := by decide +kernel
theorem dX5_takeOpen_10 : decode cX5_takeOpen 10 = .ok (.iconst 2, 1) := by decide +kernel
theorem dX5_takeOpen_11 : decode cX5_takeOpen 11 = .ok (.invokevirtual 94, 3) := by decide +kernel
theorem dX5_takeOpen_14 : decode cX5_takeOpen 14 = .ok (.ireturn, 1) := by decide +kernel
theorem dX5_takeOpen_15 : decode cX5_takeOpen 15 = .ok (.aload_n 0, 1) := by decide +kernel
theorem dX5_takeOpen_16 : decode cX5_takeOpen 16 = .ok (.dup, 1) := by decide +kernel
theorem dX5_takeOpen_17 : decode cX5_takeOpen 17 = .ok (.getfield 177, 3) := by decide +kernel
theorem dX5_takeOpen_20 : decode cX5_takeOpen 20 = .ok (.iconst 1, 1) := by decide +kernel
theorem dX5_takeOpen_21 : decode cX5_takeOpen 21 = .ok (.iadd, 1) := by decide +kernel
theorem dX5_takeOpen_22 : decode cX5_takeOpen 22 = .ok (.putfield 177, 3) := by decide +kernel
theorem dX5_takeOpen_25 : decode cX5_takeOpen 25 = .ok (.aload_n 0, 1) := by decide +kernel
theorem dX5_takeOpen_26 : decode cX5_takeOpen 26 = .ok (.iconst 1, 1) := by decide +kernel
theorem dX5_takeOpen_27 : decode cX5_takeOpen 27 = .ok (.putfield 184, 3) := by decide +kernel
theorem dX5_takeOpen_30 : decode cX5_takeOpen 30 = .ok (.aload_n 0, 1) := by decide +kernel
theorem dX5_takeOpen_31 : decode cX5_takeOpen 31 = .ok (.iconst 0, 1) := by decide +kernel
theorem dX5_takeOpen_32 : decode cX5_takeOpen 32 = .ok (.invokevirtual 210, 3) := by decide +kernel
theorem dX5_takeOpen_35 : decode cX5_takeOpen 35 = .ok (.iconst 1, 1) := by decide +kernel
theorem dX5_takeOpen_36 : decode cX5_takeOpen 36 = .ok (.ireturn, 1) := by decide +kernel
theorem dX5_takeOperator_0 : decode cX5_takeOperator 0 = .ok (.aload_n 0, 1) := by decide +kernel
