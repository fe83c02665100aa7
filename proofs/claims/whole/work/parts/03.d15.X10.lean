theorem dX10_isSign_23 : decode cX10_isSign 23 = .ok (.iconst 1, 1) := by decide +kernel
theorem dX10_isSign_24 : decode cX10_isSign 24 = .ok (.goto 4, 3) := by decide +kernel
theorem dX10_isSign_27 : decode cX10_isSign 27 = .ok (.iconst 0, 1) := by decide +kernel
theorem dX10_isSign_28 : decode cX10_isSign 28 = .ok (.ireturn, 1) := by decide +kernel
theorem dX10_goOn_0 : decode cX10_goOn 0 = .ok (.aload_n 0, 1) := by decide +kernel
theorem dX10_goOn_1 : decode cX10_goOn 1 = .ok (.getfield 208, 3) := by decide +kernel
theorem dX10_goOn_4 : decode cX10_goOn 4 = .ok (.ifCond .ne 7, 3) := by decide +kernel
theorem dX10_goOn_7 : decode cX10_goOn 7 = .ok (.aload_n 0, 1) := by decide +kernel
theorem dX10_goOn_8 : decode cX10_goOn 8 = .ok (.invokevirtual 214, 3) := by decide +kernel
theorem dX10_goOn_11 : decode cX10_goOn 11 = .ok (.return_, 1) := by decide +kernel
theorem dX10_numeral_0 : decode cX10_numeral 0 = .ok (.aload_n 0, 1) := by decide +kernel
theorem dX10_numeral_1 : decode cX10_numeral 1 = .ok (.getfield 208, 3) := by decide +kernel
theorem dX10_numeral_4 : decode cX10_numeral 4 = .ok (.ifCond .eq 5, 3) := by decide +kernel
theorem dX10_numeral_7 : decode cX10_numeral 7 = .ok (.iload_n 1, 1) := by decide +kernel
theorem dX10_numeral_8 : decode cX10_numeral 8 = .ok (.ireturn, 1) := by decide +kernel
theorem dX10_numeral_9 : decode cX10_numeral 9 = .ok (.aload_n 0, 1) := by decide +kernel
theorem dX10_numeral_10 : decode cX10_numeral 10 = .ok (.getfield 173, 3) := by decide +kernel
theorem dX10_numeral_13 : decode cX10_numeral 13 = .ok (.iconst 2, 1) := by decide +kernel
theorem dX10_numeral_14 : decode cX10_numeral 14 = .ok (.if_icmp .eq 11, 3) := by decide +kernel
theorem dX10_numeral_17 : decode cX10_numeral 17 = .ok (.aload_n 0, 1) := by decide +kernel
theorem dX10_numeral_18 : decode cX10_numeral 18 = .ok (.iconst 1, 1) := by decide +kernel
theorem dX10_numeral_19 : decode cX10_numeral 19 = .ok (.invokevirtual 217, 3) := by decide +kernel
theorem dX10_numeral_22 : decode cX10_numeral 22 = .ok (.goto 24, 3) := by decide +kernel
theorem dX10_numeral_25 : decode cX10_numeral 25 = .ok (.aload_n 0, 1) := by decide +kernel
theorem dX10_numeral_26 : decode cX10_numeral 26 = .ok (.getfield 183, 3) := by decide +kernel
theorem dX10_numeral_29 : decode cX10_numeral 29 = .ok (.iload_n 1, 1) := by decide +kernel
theorem dX10_numeral_30 : decode cX10_numeral 30 = .ok (.if_icmp .lt 11, 3) := by decide +kernel
theorem dX10_numeral_33 : decode cX10_numeral 33 = .ok (.aload_n 0, 1) := by decide +kernel
theorem dX10_numeral_34 : decode cX10_numeral 34 = .ok (.getfield 183, 3) := by decide +kernel
theorem dX10_numeral_37 : decode cX10_numeral 37 = .ok (.iload_n 2, 1) := by decide +kernel
theorem dX10_numeral_38 : decode cX10_numeral 38 = .ok (.if_icmp .le 8, 3) := by decide +kernel
theorem dX10_numeral_41 : decode cX10_numeral 41 = .ok (.aload_n 0, 1) := by decide +kernel
theorem dX10_numeral_42 : decode cX10_numeral 42 = .ok (.iconst 2, 1) := by decide +kernel
theorem dX10_numeral_43 : decode cX10_numeral 43 = .ok (.invokevirtual 217, 3) := by decide +kernel
theorem dX10_numeral_46 : decode cX10_numeral 46 = .ok (.aload_n 0, 1) := by decide +kernel
theorem dX10_numeral_47 : decode cX10_numeral 47 = .ok (.getfield 208, 3) := by decide +kernel
theorem dX10_numeral_50 : decode cX10_numeral 50 = .ok (.ifCond .eq 5, 3) := by decide +kernel
theorem dX10_numeral_53 : decode cX10_numeral 53 = .ok (.iload_n 1, 1) := by decide +kernel
theorem dX10_numeral_54 : decode cX10_numeral 54 = .ok (.ireturn, 1) := by decide +kernel
theorem dX10_numeral_55 : decode cX10_numeral 55 = .ok (.aload_n 0, 1) := by decide +kernel
theorem dX10_numeral_56 : decode cX10_numeral 56 = .ok (.getfield 183, 3) := by decide +kernel
theorem dX10_numeral_59 : decode cX10_numeral 59 = .ok (.istore_n 3, 1) := by decide +kernel
theorem dX10_numeral_60 : decode cX10_numeral 60 = .ok (.aload_n 0, 1) := by decide +kernel
theorem dX10_numeral_61 : decode cX10_numeral 61 = .ok (.invokevirtual 214, 3) := by decide +kernel
theorem dX10_numeral_64 : decode cX10_numeral 64 = .ok (.iload_n 3, 1) := by decide +kernel
theorem dX10_numeral_65 : decode cX10_numeral 65 = .ok (.ireturn, 1) := by decide +kernel
theorem dX10_found_0 : decode cX10_found 0 = .ok (.iconst 0, 1) := by decide +kernel
theorem dX10_found_1 : decode cX10_found 1 = .ok (.istore 4, 2) := by decide +kernel
theorem dX10_found_3 : decode cX10_found 3 = .ok (.iload 4, 2) := by decide +kernel
theorem dX10_found_5 : decode cX10_found 5 = .ok (.iload_n 2, 1) := by decide +kernel
theorem dX10_found_6 : decode cX10_found 6 = .ok (.if_icmp .ge 22, 3) := by decide +kernel
theorem dX10_found_9 : decode cX10_found 9 = .ok (.aload_n 0, 1) := by decide +kernel
theorem dX10_found_10 : decode cX10_found 10 = .ok (.iload_n 1, 1) := by decide +kernel
theorem dX10_found_11 : decode cX10_found 11 = .ok (.iload 4, 2) := by decide +kernel
theorem dX10_found_13 : decode cX10_found 13 = .ok (.iadd, 1) := by decide +kernel
theorem dX10_found_14 : decode cX10_found 14 = .ok (.iaload, 1) := by decide +kernel
theorem dX10_found_15 : decode cX10_found 15 = .ok (.iload_n 3, 1) := by decide +kernel
theorem dX10_found_16 : decode cX10_found 16 = .ok (.if_icmp .ne 6, 3) := by decide +kernel
theorem dX10_found_19 : decode cX10_found 19 = .ok (.iload 4, 2) := by decide +kernel
theorem dX10_found_21 : decode cX10_found 21 = .ok (.ireturn, 1) := by decide +kernel
theorem dX10_found_22 : decode cX10_found 22 = .ok (.iinc 4 1, 3) := by decide +kernel
theorem dX10_found_25 : decode cX10_found 25 = .ok (.goto (-22), 3) := by decide +kernel
theorem dX10_found_28 : decode cX10_found 28 = .ok (.iconst (-1), 1) := by decide +kernel
theorem dX10_found_29 : decode cX10_found 29 = .ok (.ireturn, 1) := by decide +kernel
theorem dX10_fresh_0 : decode cX10_fresh 0 = .ok (.aload_n 0, 1) := by decide +kernel
theorem dX10_fresh_1 : decode cX10_fresh 1 = .ok (.getfield 208, 3) := by decide +kernel
theorem dX10_fresh_4 : decode cX10_fresh 4 = .ok (.ifCond .eq 5, 3) := by decide +kernel
theorem dX10_fresh_7 : decode cX10_fresh 7 = .ok (.iconst 0, 1) := by decide +kernel
theorem dX10_fresh_8 : decode cX10_fresh 8 = .ok (.ireturn, 1) := by decide +kernel
theorem dX10_fresh_9 : decode cX10_fresh 9 = .ok (.aload_n 0, 1) := by decide +kernel
theorem dX10_fresh_10 : decode cX10_fresh 10 = .ok (.getfield 173, 3) := by decide +kernel
theorem dX10_fresh_13 : decode cX10_fresh 13 = .ok (.iconst 1, 1) := by decide +kernel
theorem dX10_fresh_14 : decode cX10_fresh 14 = .ok (.if_icmp .eq 11, 3) := by decide +kernel
theorem dX10_fresh_17 : decode cX10_fresh 17 = .ok (.aload_n 0, 1) := by decide +kernel
theorem dX10_fresh_18 : decode cX10_fresh 18 = .ok (.iconst 1, 1) := by decide +kernel
theorem dX10_fresh_19 : decode cX10_fresh 19 = .ok (.invokevirtual 217, 3) := by decide +kernel
theorem dX10_fresh_22 : decode cX10_fresh 22 = .ok (.goto 22, 3) := by decide +kernel
theorem dX10_fresh_25 : decode cX10_fresh 25 = .ok (.aload_n 1, 1) := by decide +kernel
theorem dX10_fresh_26 : decode cX10_fresh 26 = .ok (.iload_n 2, 1) := by decide +kernel
theorem dX10_fresh_27 : decode cX10_fresh 27 = .ok (.iload_n 3, 1) := by decide +kernel
theorem dX10_fresh_28 : decode cX10_fresh 28 = .ok (.aload_n 0, 1) := by decide +kernel
theorem dX10_fresh_29 : decode cX10_fresh 29 = .ok (.getfield 183, 3) := by decide +kernel
theorem dX10_fresh_32 : decode cX10_fresh 32 = .ok (.invokestatic 220, 3) := by decide +kernel
theorem dX10_fresh_35 : decode cX10_fresh 35 = .ok (.iconst (-1), 1) := by decide +kernel
theorem dX10_fresh_36 : decode cX10_fresh 36 = .ok (.if_icmp .eq 8, 3) := by decide +kernel
theorem dX10_fresh_39 : decode cX10_fresh 39 = .ok (.aload_n 0, 1) := by decide +kernel
theorem dX10_fresh_40 : decode cX10_fresh 40 = .ok (.iconst 3, 1) := by decide +kernel
theorem dX10_fresh_41 : decode cX10_fresh 41 = .ok (.invokevirtual 217, 3) := by decide +kernel
theorem dX10_fresh_44 : decode cX10_fresh 44 = .ok (.aload_n 0, 1) := by decide +kernel
theorem dX10_fresh_45 : decode cX10_fresh 45 = .ok (.getfield 208, 3) := by decide +kernel
theorem dX10_fresh_48 : decode cX10_fresh 48 = .ok (.ifCond .eq 5, 3) := by decide +kernel
theorem dX10_fresh_51 : decode cX10_fresh 51 = .ok (.iconst 0, 1) := by decide +kernel
theorem dX10_fresh_52 : decode cX10_fresh 52 = .ok (.ireturn, 1) := by decide +kernel
theorem dX10_fresh_53 : decode cX10_fresh 53 = .ok (.aload_n 0, 1) := by decide +kernel
theorem dX10_fresh_54 : decode cX10_fresh 54 = .ok (.getfield 183, 3) := by decide +kernel
theorem dX10_fresh_57 : decode cX10_fresh 57 = .ok (.istore 4, 2) := by decide +kernel
theorem dX10_fresh_59 : decode cX10_fresh 59 = .ok (.aload_n 0, 1) := by decide +kernel
theorem dX10_fresh_60 : decode cX10_fresh 60 = .ok (.invokevirtual 214, 3) := by decide +kernel
theorem dX10_fresh_63 : decode cX10_fresh 63 = .ok (.iload 4, 2) := by decide +kernel
theorem dX10_fresh_65 : decode cX10_fresh 65 = .ok (.ireturn, 1) := by decide +kernel
theorem dX10_fresher_0 : decode cX10_fresher 0 = .ok (.aload_n 0, 1) := by decide +kernel
theorem dX10_fresher_1 : decode cX10_fresher 1 = .ok (.getfield 13, 3) := by decide +kernel
theorem dX10_fresher_4 : decode cX10_fresher 4 = .ok (.bipush 9, 2) := by decide +kernel
theorem dX10_fresher_6 : decode cX10_fresher 6 = .ok (.iload_n 1, 1) := by decide +kernel
theorem dX10_fresher_7 : decode cX10_fresher 7 = .ok (.iadd, 1) := by decide +kernel
theorem dX10_fresher_8 : decode cX10_fresher 8 = .ok (.iaload, 1) := by decide +kernel
theorem dX10_fresher_9 : decode cX10_fresher 9 = .ok (.ireturn, 1) := by decide +kernel
theorem dX10_reads_0 : decode cX10_reads 0 = .ok (.aload_n 0, 1) := by decide +kernel
theorem dX10_reads_1 : decode cX10_reads 1 = .ok (.getfield 13, 3) := by decide +kernel
theorem dX10_reads_4 : decode cX10_reads 4 = .ok (.bipush 9, 2) := by decide +kernel
theorem dX10_reads_6 : decode cX10_reads 6 = .ok (.iload_n 1, 1) := by decide +kernel
theorem dX10_reads_7 : decode cX10_reads 7 = .ok (.iadd, 1) := by decide +kernel
theorem dX10_reads_8 : decode cX10_reads 8 = .ok (.iload_n 2, 1) := by decide +kernel
theorem dX10_reads_9 : decode cX10_reads 9 = .ok (.iastore, 1) := by decide +kernel
theorem dX10_reads_10 : decode cX10_reads 10 = .ok (.return_, 1) := by decide +kernel
theorem dX10_manAhead_0 : decode cX10_manAhead 0 = .ok (.aload_n 0, 1) := by decide +kernel
theorem dX10_manAhead_1 : decode cX10_manAhead 1 = .ok (.getfield 208, 3) := by decide +kernel
theorem dX10_manAhead_4 : decode cX10_manAhead 4 = .ok (.ifCond .eq 5, 3) := by decide +kernel
theorem dX10_manAhead_7 : decode cX10_manAhead 7 = .ok (.iconst 0, 1) := by decide +kernel
theorem dX10_manAhead_8 : decode cX10_manAhead 8 = .ok (.ireturn, 1) := by decide +kernel
theorem dX10_manAhead_9 : decode cX10_manAhead 9 = .ok (.aload_n 0, 1) := by decide +kernel
theorem dX10_manAhead_10 : decode cX10_manAhead 10 = .ok (.getfield 173, 3) := by decide +kernel
theorem dX10_manAhead_13 : decode cX10_manAhead 13 = .ok (.iconst 1, 1) := by decide +kernel
theorem dX10_manAhead_14 : decode cX10_manAhead 14 = .ok (.if_icmp .eq 8, 3) := by decide +kernel
theorem dX10_manAhead_17 : decode cX10_manAhead 17 = .ok (.aload_n 0, 1) := by decide +kernel
theorem dX10_manAhead_18 : decode cX10_manAhead 18 = .ok (.iconst 1, 1) := by decide +kernel
theorem dX10_manAhead_19 : decode cX10_manAhead 19 = .ok (.invokevirtual 217, 3) := by decide +kernel
theorem dX10_manAhead_22 : decode cX10_manAhead 22 = .ok (.aload_n 0, 1) := by decide +kernel
theorem dX10_manAhead_23 : decode cX10_manAhead 23 = .ok (.getfield 208, 3) := by decide +kernel
theorem dX10_manAhead_26 : decode cX10_manAhead 26 = .ok (.ifCond .ne 24, 3) := by decide +kernel
theorem dX10_manAhead_29 : decode cX10_manAhead 29 = .ok (.aload_n 0, 1) := by decide +kernel
theorem dX10_manAhead_30 : decode cX10_manAhead 30 = .ok (.getfield 16, 3) := by decide +kernel
theorem dX10_manAhead_33 : decode cX10_manAhead 33 = .ok (.bipush 6, 2) := by decide +kernel
theorem dX10_manAhead_35 : decode cX10_manAhead 35 = .ok (.aload_n 0, 1) := by decide +kernel
theorem dX10_manAhead_36 : decode cX10_manAhead 36 = .ok (.iconst 0, 1) := by decide +kernel
theorem dX10_manAhead_37 : decode cX10_manAhead 37 = .ok (.invokevirtual 224, 3) := by decide +kernel
theorem dX10_manAhead_40 : decode cX10_manAhead 40 = .ok (.aload_n 0, 1) := by decide +kernel
theorem dX10_manAhead_41 : decode cX10_manAhead 41 = .ok (.getfield 183, 3) := by decide +kernel
theorem dX10_manAhead_44 : decode cX10_manAhead 44 = .ok (.invokestatic 220, 3) := by decide +kernel
theorem dX10_manAhead_47 : decode cX10_manAhead 47 = .ok (.goto 4, 3) := by decide +kernel
theorem dX10_manAhead_50 : decode cX10_manAhead 50 = .ok (.iconst 0, 1) := by decide +kernel
theorem dX10_manAhead_51 : decode cX10_manAhead 51 = .ok (.istore_n 1, 1) := by decide +kernel
theorem dX10_manAhead_52 : decode cX10_manAhead 52 = .ok (.aload_n 0, 1) := by decide +kernel
theorem dX10_manAhead_53 : decode cX10_manAhead 53 = .ok (.getfield 208, 3) := by decide +kernel
theorem dX10_manAhead_56 : decode cX10_manAhead 56 = .ok (.ifCond .ne 13, 3) := by decide +kernel
theorem dX10_manAhead_59 : decode cX10_manAhead 59 = .ok (.iload_n 1, 1) := by decide +kernel
theorem dX10_manAhead_60 : decode cX10_manAhead 60 = .ok (.iconst (-1), 1) := by decide +kernel
theorem dX10_manAhead_61 : decode cX10_manAhead 61 = .ok (.if_icmp .ne 8, 3) := by decide +kernel
theorem dX10_manAhead_64 : decode cX10_manAhead 64 = .ok (.aload_n 0, 1) := by decide +kernel
theorem dX10_manAhead_65 : decode cX10_manAhead 65 = .ok (.iconst 4, 1) := by decide +kernel
theorem dX10_manAhead_66 : decode cX10_manAhead 66 = .ok (.invokevirtual 217, 3) := by decide +kernel
theorem dX10_manAhead_69 : decode cX10_manAhead 69 = .ok (.aload_n 0, 1) := by decide +kernel
theorem dX10_manAhead_70 : decode cX10_manAhead 70 = .ok (.invokevirtual 228, 3) := by decide +kernel
theorem dX10_manAhead_73 : decode cX10_manAhead 73 = .ok (.aload_n 0, 1) := by decide +kernel
theorem dX10_manAhead_74 : decode cX10_manAhead 74 = .ok (.getfield 208, 3) := by decide +kernel
theorem dX10_manAhead_77 : decode cX10_manAhead 77 = .ok (.ifCond .eq 7, 3) := by decide +kernel
theorem dX10_manAhead_80 : decode cX10_manAhead 80 = .ok (.iconst 0, 1) := by decide +kernel
theorem dX10_manAhead_81 : decode cX10_manAhead 81 = .ok (.goto 4, 3) := by decide +kernel
theorem dX10_manAhead_84 : decode cX10_manAhead 84 = .ok (.iload_n 1, 1) := by decide +kernel
theorem dX10_manAhead_85 : decode cX10_manAhead 85 = .ok (.ireturn, 1) := by decide +kernel
theorem dX10_isFull_0 : decode cX10_isFull 0 = .ok (.iload_n 1, 1) := by decide +kernel
theorem dX10_isFull_1 : decode cX10_isFull 1 = .ok (.ifCond .ne 13, 3) := by decide +kernel
theorem dX10_isFull_4 : decode cX10_isFull 4 = .ok (.aload_n 0, 1) := by decide +kernel
theorem dX10_isFull_5 : decode cX10_isFull 5 = .ok (.iconst 0, 1) := by decide +kernel
theorem dX10_isFull_6 : decode cX10_isFull 6 = .ok (.invokevirtual 224, 3) := by decide +kernel
theorem dX10_isFull_9 : decode cX10_isFull 9 = .ok (.bipush 6, 2) := by decide +kernel
theorem dX10_isFull_11 : decode cX10_isFull 11 = .ok (.if_icmp .eq 33, 3) := by decide +kernel
theorem dX10_isFull_14 : decode cX10_isFull 14 = .ok (.iload_n 1, 1) := by decide +kernel
theorem dX10_isFull_15 : decode cX10_isFull 15 = .ok (.iconst 1, 1) := by decide +kernel
theorem dX10_isFull_16 : decode cX10_isFull 16 = .ok (.if_icmp .ne 13, 3) := by decide +kernel
theorem dX10_isFull_19 : decode cX10_isFull 19 = .ok (.aload_n 0, 1) := by decide +kernel
theorem dX10_isFull_20 : decode cX10_isFull 20 = .ok (.iconst 1, 1) := by decide +kernel
theorem dX10_isFull_21 : decode cX10_isFull 21 = .ok (.invokevirtual 224, 3) := by decide +kernel
theorem dX10_isFull_24 : decode cX10_isFull 24 = .ok (.bipush 8, 2) := by decide +kernel
theorem dX10_isFull_26 : decode cX10_isFull 26 = .ok (.if_icmp .eq 18, 3) := by decide +kernel
theorem dX10_isFull_29 : decode cX10_isFull 29 = .ok (.iload_n 1, 1) := by decide +kernel
theorem dX10_isFull_30 : decode cX10_isFull 30 = .ok (.iconst 2, 1) := by decide +kernel
theorem dX10_isFull_31 : decode cX10_isFull 31 = .ok (.if_icmp .ne 17, 3) := by decide +kernel
theorem dX10_isFull_34 : decode cX10_isFull 34 = .ok (.aload_n 0, 1) := by decide +kernel
theorem dX10_isFull_35 : decode cX10_isFull 35 = .ok (.iconst 2, 1) := by decide +kernel
theorem dX10_isFull_36 : decode cX10_isFull 36 = .ok (.invokevirtual 224, 3) := by decide +kernel
theorem dX10_isFull_39 : decode cX10_isFull 39 = .ok (.bipush 10, 2) := by decide +kernel
theorem dX10_isFull_41 : decode cX10_isFull 41 = .ok (.if_icmp .ne 7, 3) := by decide +kernel
theorem dX10_isFull_44 : decode cX10_isFull 44 = .ok (.iconst 1, 1) := by decide +kernel
theorem dX10_isFull_45 : decode cX10_isFull 45 = .ok (.goto 4, 3) := by decide +kernel
theorem dX10_isFull_48 : decode cX10_isFull 48 = .ok (.iconst 0, 1) := by decide +kernel
theorem dX10_isFull_49 : decode cX10_isFull 49 = .ok (.ireturn, 1) := by decide +kernel
theorem dX10_line_0 : decode cX10_line 0 = .ok (.aload_n 0, 1) := by decide +kernel
theorem dX10_line_1 : decode cX10_line 1 = .ok (.getfield 173, 3) := by decide +kernel
theorem dX10_line_4 : decode cX10_line 4 = .ok (.ifCond .ne 12, 3) := by decide +kernel
theorem dX10_line_7 : decode cX10_line 7 = .ok (.aload_n 0, 1) := by decide +kernel
theorem dX10_line_8 : decode cX10_line 8 = .ok (.getfield 183, 3) := by decide +kernel
theorem dX10_line_11 : decode cX10_line 11 = .ok (.bipush 8, 2) := by decide +kernel
theorem dX10_line_13 : decode cX10_line 13 = .ok (.if_icmp .le 9, 3) := by decide +kernel
theorem dX10_line_16 : decode cX10_line 16 = .ok (.aload_n 0, 1) := by decide +kernel
theorem dX10_line_17 : decode cX10_line 17 = .ok (.iconst 1, 1) := by decide +kernel
theorem dX10_line_18 : decode cX10_line 18 = .ok (.invokevirtual 217, 3) := by decide +kernel
theorem dX10_line_21 : decode cX10_line 21 = .ok (.return_, 1) := by decide +kernel
theorem dX10_line_22 : decode cX10_line 22 = .ok (.aload_n 0, 1) := by decide +kernel
theorem dX10_line_23 : decode cX10_line 23 = .ok (.getfield 183, 3) := by decide +kernel
theorem dX10_line_26 : decode cX10_line 26 = .ok (.istore_n 1, 1) := by decide +kernel
theorem dX10_line_27 : decode cX10_line 27 = .ok (.aload_n 0, 1) := by decide +kernel
theorem dX10_line_28 : decode cX10_line 28 = .ok (.iload_n 1, 1) := by decide +kernel
theorem dX10_line_29 : decode cX10_line 29 = .ok (.invokevirtual 231, 3) := by decide +kernel
theorem dX10_line_32 : decode cX10_line 32 = .ok (.ifCond .eq 11, 3) := by decide +kernel
theorem dX10_line_35 : decode cX10_line 35 = .ok (.aload_n 0, 1) := by decide +kernel
theorem dX10_line_36 : decode cX10_line 36 = .ok (.iconst 2, 1) := by decide +kernel
theorem dX10_line_37 : decode cX10_line 37 = .ok (.invokevirtual 217, 3) := by decide +kernel
theorem dX10_line_40 : decode cX10_line 40 = .ok (.goto 31, 3) := by decide +kernel
theorem dX10_line_43 : decode cX10_line 43 = .ok (.iload_n 1, 1) := by decide +kernel
theorem dX10_line_44 : decode cX10_line 44 = .ok (.iconst 3, 1) := by decide +kernel
theorem dX10_line_45 : decode cX10_line 45 = .ok (.if_icmp .lt 26, 3) := by decide +kernel
theorem dX10_line_48 : decode cX10_line 48 = .ok (.iload_n 1, 1) := by decide +kernel
theorem dX10_line_49 : decode cX10_line 49 = .ok (.bipush 7, 2) := by decide +kernel
theorem dX10_line_51 : decode cX10_line 51 = .ok (.if_icmp .gt 20, 3) := by decide +kernel
theorem dX10_line_54 : decode cX10_line 54 = .ok (.aload_n 0, 1) := by decide +kernel
theorem dX10_line_55 : decode cX10_line 55 = .ok (.getfield 234, 3) := by decide +kernel
theorem dX10_line_58 : decode cX10_line 58 = .ok (.iload_n 1, 1) := by decide +kernel
theorem dX10_line_59 : decode cX10_line 59 = .ok (.ishr, 1) := by decide +kernel
theorem dX10_line_60 : decode cX10_line 60 = .ok (.iconst 1, 1) := by decide +kernel
theorem dX10_line_61 : decode cX10_line 61 = .ok (.iand, 1) := by decide +kernel
theorem dX10_line_62 : decode cX10_line 62 = .ok (.iconst 1, 1) := by decide +kernel
theorem dX10_line_63 : decode cX10_line 63 = .ok (.if_icmp .ne 8, 3) := by decide +kernel
theorem dX10_line_66 : decode cX10_line 66 = .ok (.aload_n 0, 1) := by decide +kernel
theorem dX10_line_67 : decode cX10_line 67 = .ok (.iconst 3, 1) := by decide +kernel
theorem dX10_line_68 : decode cX10_line 68 = .ok (.invokevirtual 217, 3) := by decide +kernel
theorem dX10_line_71 : decode cX10_line 71 = .ok (.aload_n 0, 1) := by decide +kernel
theorem dX10_line_72 : decode cX10_line 72 = .ok (.getfield 208, 3) := by decide +kernel
theorem dX10_line_75 : decode cX10_line 75 = .ok (.ifCond .eq 4, 3) := by decide +kernel
theorem dX10_line_78 : decode cX10_line 78 = .ok (.return_, 1) := by decide +kernel
theorem dX10_line_79 : decode cX10_line 79 = .ok (.aload_n 0, 1) := by decide +kernel
theorem dX10_line_80 : decode cX10_line 80 = .ok (.dup, 1) := by decide +kernel
theorem dX10_line_81 : decode cX10_line 81 = .ok (.getfield 234, 3) := by decide +kernel
theorem dX10_line_84 : decode cX10_line 84 = .ok (.iconst 1, 1) := by decide +kernel
theorem dX10_line_85 : decode cX10_line 85 = .ok (.iload_n 1, 1) := by decide +kernel
theorem dX10_line_86 : decode cX10_line 86 = .ok (.ishl, 1) := by decide +kernel
theorem dX10_line_87 : decode cX10_line 87 = .ok (.ior, 1) := by decide +kernel
theorem dX10_line_88 : decode cX10_line 88 = .ok (.putfield 234, 3) := by decide +kernel
theorem dX10_line_91 : decode cX10_line 91 = .ok (.aload_n 0, 1) := by decide +kernel
theorem dX10_line_92 : decode cX10_line 92 = .ok (.invokevirtual 214, 3) := by decide +kernel
theorem dX10_line_95 : decode cX10_line 95 = .ok (.iload_n 1, 1) := by decide +kernel
theorem dX10_line_96 : decode cX10_line 96 = .ok (.tableswitch 358 0 7 #[48, 132, 216, 280, 296, 311, 326, 342], 48) := by decide +kernel
theorem dX10_line_144 : decode cX10_line 144 = .ok (.bipush 6, 2) := by decide +kernel
theorem dX10_line_146 : decode cX10_line 146 = .ok (.aload_n 0, 1) := by decide +kernel
theorem dX10_line_147 : decode cX10_line 147 = .ok (.iconst 0, 1) := by decide +kernel
theorem dX10_line_148 : decode cX10_line 148 = .ok (.invokevirtual 224, 3) := by decide +kernel
theorem dX10_line_151 : decode cX10_line 151 = .ok (.iadd, 1) := by decide +kernel
theorem dX10_line_152 : decode cX10_line 152 = .ok (.istore_n 2, 1) := by decide +kernel
theorem dX10_line_153 : decode cX10_line 153 = .ok (.aload_n 0, 1) := by decide +kernel
theorem dX10_line_154 : decode cX10_line 154 = .ok (.getfield 16, 3) := by decide +kernel
theorem dX10_line_157 : decode cX10_line 157 = .ok (.iload_n 2, 1) := by decide +kernel
theorem dX10_line_158 : decode cX10_line 158 = .ok (.aload_n 0, 1) := by decide +kernel
theorem dX10_line_159 : decode cX10_line 159 = .ok (.aload_n 0, 1) := by decide +kernel
theorem dX10_line_160 : decode cX10_line 160 = .ok (.getfield 16, 3) := by decide +kernel
theorem dX10_line_163 : decode cX10_line 163 = .ok (.bipush 6, 2) := by decide +kernel
theorem dX10_line_165 : decode cX10_line 165 = .ok (.aload_n 0, 1) := by decide +kernel
theorem dX10_line_166 : decode cX10_line 166 = .ok (.iconst 0, 1) := by decide +kernel
theorem dX10_line_167 : decode cX10_line 167 = .ok (.invokevirtual 224, 3) := by decide +kernel
theorem dX10_line_170 : decode cX10_line 170 = .ok (.invokevirtual 237, 3) := by decide +kernel
theorem dX10_line_173 : decode cX10_line 173 = .ok (.iastore, 1) := by decide +kernel
theorem dX10_line_174 : decode cX10_line 174 = .ok (.aload_n 0, 1) := by decide +kernel
theorem dX10_line_175 : decode cX10_line 175 = .ok (.getfield 19, 3) := by decide +kernel
theorem dX10_line_178 : decode cX10_line 178 = .ok (.iload_n 2, 1) := by decide +kernel
theorem dX10_line_179 : decode cX10_line 179 = .ok (.aload_n 0, 1) := by decide +kernel
theorem dX10_line_180 : decode cX10_line 180 = .ok (.iconst 0, 1) := by decide +kernel
theorem dX10_line_181 : decode cX10_line 181 = .ok (.bipush 99, 2) := by decide +kernel
theorem dX10_line_183 : decode cX10_line 183 = .ok (.invokevirtual 241, 3) := by decide +kernel
theorem dX10_line_186 : decode cX10_line 186 = .ok (.iastore, 1) := by decide +kernel
theorem dX10_line_187 : decode cX10_line 187 = .ok (.aload_n 0, 1) := by decide +kernel
theorem dX10_line_188 : decode cX10_line 188 = .ok (.getfield 22, 3) := by decide +kernel
theorem dX10_line_191 : decode cX10_line 191 = .ok (.iload_n 2, 1) := by decide +kernel
theorem dX10_line_192 : decode cX10_line 192 = .ok (.aload_n 0, 1) := by decide +kernel
theorem dX10_line_193 : decode cX10_line 193 = .ok (.iconst 0, 1) := by decide +kernel
theorem dX10_line_194 : decode cX10_line 194 = .ok (.bipush 99, 2) := by decide +kernel
theorem dX10_line_196 : decode cX10_line 196 = .ok (.invokevirtual 241, 3) := by decide +kernel
theorem dX10_line_199 : decode cX10_line 199 = .ok (.iastore, 1) := by decide +kernel
theorem dX10_line_200 : decode cX10_line 200 = .ok (.aload_n 0, 1) := by decide +kernel
theorem dX10_line_201 : decode cX10_line 201 = .ok (.getfield 25, 3) := by decide +kernel
theorem dX10_line_204 : decode cX10_line 204 = .ok (.iload_n 2, 1) := by decide +kernel
theorem dX10_line_205 : decode cX10_line 205 = .ok (.aload_n 0, 1) := by decide +kernel
theorem dX10_line_206 : decode cX10_line 206 = .ok (.iconst 1, 1) := by decide +kernel
theorem dX10_line_207 : decode cX10_line 207 = .ok (.bipush 9, 2) := by decide +kernel
theorem dX10_line_209 : decode cX10_line 209 = .ok (.invokevirtual 241, 3) := by decide +kernel
theorem dX10_line_212 : decode cX10_line 212 = .ok (.iastore, 1) := by decide +kernel
theorem dX10_line_213 : decode cX10_line 213 = .ok (.aload_n 0, 1) := by decide +kernel
theorem dX10_line_214 : decode cX10_line 214 = .ok (.iconst 0, 1) := by decide +kernel
theorem dX10_line_215 : decode cX10_line 215 = .ok (.aload_n 0, 1) := by decide +kernel
theorem dX10_line_216 : decode cX10_line 216 = .ok (.iconst 0, 1) := by decide +kernel
theorem dX10_line_217 : decode cX10_line 217 = .ok (.invokevirtual 224, 3) := by decide +kernel
theorem dX10_line_220 : decode cX10_line 220 = .ok (.iconst 1, 1) := by decide +kernel
theorem dX10_line_221 : decode cX10_line 221 = .ok (.iadd, 1) := by decide +kernel
theorem dX10_line_222 : decode cX10_line 222 = .ok (.invokevirtual 245, 3) := by decide +kernel
theorem dX10_line_225 : decode cX10_line 225 = .ok (.goto 233, 3) := by decide +kernel
theorem dX10_line_228 : decode cX10_line 228 = .ok (.bipush 8, 2) := by decide +kernel
theorem dX10_line_230 : decode cX10_line 230 = .ok (.aload_n 0, 1) := by decide +kernel
theorem dX10_line_231 : decode cX10_line 231 = .ok (.iconst 1, 1) := by decide +kernel
theorem dX10_line_232 : decode cX10_line 232 = .ok (.invokevirtual 224, 3) := by decide +kernel
theorem dX10_line_235 : decode cX10_line 235 = .ok (.iadd, 1) := by decide +kernel
theorem dX10_line_236 : decode cX10_line 236 = .ok (.istore_n 3, 1) := by decide +kernel
theorem dX10_line_237 : decode cX10_line 237 = .ok (.aload_n 0, 1) := by decide +kernel
theorem dX10_line_238 : decode cX10_line 238 = .ok (.getfield 28, 3) := by decide +kernel
theorem dX10_line_241 : decode cX10_line 241 = .ok (.iload_n 3, 1) := by decide +kernel
theorem dX10_line_242 : decode cX10_line 242 = .ok (.aload_n 0, 1) := by decide +kernel
theorem dX10_line_243 : decode cX10_line 243 = .ok (.aload_n 0, 1) := by decide +kernel
theorem dX10_line_244 : decode cX10_line 244 = .ok (.getfield 28, 3) := by decide +kernel
theorem dX10_line_247 : decode cX10_line 247 = .ok (.bipush 8, 2) := by decide +kernel
theorem dX10_line_249 : decode cX10_line 249 = .ok (.aload_n 0, 1) := by decide +kernel
theorem dX10_line_250 : decode cX10_line 250 = .ok (.iconst 1, 1) := by decide +kernel
theorem dX10_line_251 : decode cX10_line 251 = .ok (.invokevirtual 224, 3) := by decide +kernel
theorem dX10_line_254 : decode cX10_line 254 = .ok (.invokevirtual 237, 3) := by decide +kernel
theorem dX10_line_257 : decode cX10_line 257 = .ok (.iastore, 1) := by decide +kernel
theorem dX10_line_258 : decode cX10_line 258 = .ok (.aload_n 0, 1) := by decide +kernel
theorem dX10_line_259 : decode cX10_line 259 = .ok (.getfield 31, 3) := by decide +kernel
theorem dX10_line_262 : decode cX10_line 262 = .ok (.iload_n 3, 1) := by decide +kernel
theorem dX10_line_263 : decode cX10_line 263 = .ok (.aload_n 0, 1) := by decide +kernel
theorem dX10_line_264 : decode cX10_line 264 = .ok (.iconst 1, 1) := by decide +kernel
theorem dX10_line_265 : decode cX10_line 265 = .ok (.bipush 99, 2) := by decide +kernel
theorem dX10_line_267 : decode cX10_line 267 = .ok (.invokevirtual 241, 3) := by decide +kernel
theorem dX10_line_270 : decode cX10_line 270 = .ok (.iastore, 1) := by decide +kernel
theorem dX10_line_271 : decode cX10_line 271 = .ok (.aload_n 0, 1) := by decide +kernel
theorem dX10_line_272 : decode cX10_line 272 = .ok (.getfield 34, 3) := by decide +kernel
theorem dX10_line_275 : decode cX10_line 275 = .ok (.iload_n 3, 1) := by decide +kernel
theorem dX10_line_276 : decode cX10_line 276 = .ok (.aload_n 0, 1) := by decide +kernel
theorem dX10_line_277 : decode cX10_line 277 = .ok (.iconst 1, 1) := by decide +kernel
theorem dX10_line_278 : decode cX10_line 278 = .ok (.bipush 6, 2) := by decide +kernel
theorem dX10_line_280 : decode cX10_line 280 = .ok (.invokevirtual 241, 3) := by decide +kernel
theorem dX10_line_283 : decode cX10_line 283 = .ok (.iastore, 1) := by decide +kernel
theorem dX10_line_284 : decode cX10_line 284 = .ok (.aload_n 0, 1) := by decide +kernel
theorem dX10_line_285 : decode cX10_line 285 = .ok (.getfield 37, 3) := by decide +kernel
theorem dX10_line_288 : decode cX10_line 288 = .ok (.iload_n 3, 1) := by decide +kernel
theorem dX10_line_289 : decode cX10_line 289 = .ok (.aload_n 0, 1) := by decide +kernel
theorem dX10_line_290 : decode cX10_line 290 = .ok (.iconst 0, 1) := by decide +kernel
theorem dX10_line_291 : decode cX10_line 291 = .ok (.bipush 99, 2) := by decide +kernel
theorem dX10_line_293 : decode cX10_line 293 = .ok (.invokevirtual 241, 3) := by decide +kernel
theorem dX10_line_296 : decode cX10_line 296 = .ok (.iastore, 1) := by decide +kernel
theorem dX10_line_297 : decode cX10_line 297 = .ok (.aload_n 0, 1) := by decide +kernel
theorem dX10_line_298 : decode cX10_line 298 = .ok (.iconst 1, 1) := by decide +kernel
theorem dX10_line_299 : decode cX10_line 299 = .ok (.aload_n 0, 1) := by decide +kernel
theorem dX10_line_300 : decode cX10_line 300 = .ok (.iconst 1, 1) := by decide +kernel
theorem dX10_line_301 : decode cX10_line 301 = .ok (.invokevirtual 224, 3) := by decide +kernel
theorem dX10_line_304 : decode cX10_line 304 = .ok (.iconst 1, 1) := by decide +kernel
theorem dX10_line_305 : decode cX10_line 305 = .ok (.iadd, 1) := by decide +kernel
theorem dX10_line_306 : decode cX10_line 306 = .ok (.invokevirtual 245, 3) := by decide +kernel
theorem dX10_line_309 : decode cX10_line 309 = .ok (.goto 149, 3) := by decide +kernel
theorem dX10_line_312 : decode cX10_line 312 = .ok (.bipush 10, 2) := by decide +kernel
theorem dX10_line_314 : decode cX10_line 314 = .ok (.aload_n 0, 1) := by decide +kernel
theorem dX10_line_315 : decode cX10_line 315 = .ok (.iconst 2, 1) := by decide +kernel
theorem dX10_line_316 : decode cX10_line 316 = .ok (.invokevirtual 224, 3) := by decide +kernel
theorem dX10_line_319 : decode cX10_line 319 = .ok (.iadd, 1) := by decide +kernel
theorem dX10_line_320 : decode cX10_line 320 = .ok (.istore 4, 2) := by decide +kernel
theorem dX10_line_322 : decode cX10_line 322 = .ok (.aload_n 0, 1) := by decide +kernel
theorem dX10_line_323 : decode cX10_line 323 = .ok (.getfield 40, 3) := by decide +kernel
theorem dX10_line_326 : decode cX10_line 326 = .ok (.iload 4, 2) := by decide +kernel
theorem dX10_line_328 : decode cX10_line 328 = .ok (.aload_n 0, 1) := by decide +kernel
theorem dX10_line_329 : decode cX10_line 329 = .ok (.invokevirtual 249, 3) := by decide +kernel
theorem dX10_line_332 : decode cX10_line 332 = .ok (.iastore, 1) := by decide +kernel
theorem dX10_line_333 : decode cX10_line 333 = .ok (.aload_n 0, 1) := by decide +kernel
theorem dX10_line_334 : decode cX10_line 334 = .ok (.getfield 43, 3) := by decide +kernel
theorem dX10_line_337 : decode cX10_line 337 = .ok (.iload 4, 2) := by decide +kernel
theorem dX10_line_339 : decode cX10_line 339 = .ok (.aload_n 0, 1) := by decide +kernel
theorem dX10_line_340 : decode cX10_line 340 = .ok (.iconst 0, 1) := by decide +kernel
theorem dX10_line_341 : decode cX10_line 341 = .ok (.bipush 99, 2) := by decide +kernel
theorem dX10_line_343 : decode cX10_line 343 = .ok (.invokevirtual 241, 3) := by decide +kernel
theorem dX10_line_346 : decode cX10_line 346 = .ok (.iastore, 1) := by decide +kernel
theorem dX10_line_347 : decode cX10_line 347 = .ok (.aload_n 0, 1) := by decide +kernel
theorem dX10_line_348 : decode cX10_line 348 = .ok (.getfield 46, 3) := by decide +kernel
theorem dX10_line_351 : decode cX10_line 351 = .ok (.iload 4, 2) := by decide +kernel
theorem dX10_line_353 : decode cX10_line 353 = .ok (.aload_n 0, 1) := by decide +kernel
theorem dX10_line_354 : decode cX10_line 354 = .ok (.iconst 1, 1) := by decide +kernel
theorem dX10_line_355 : decode cX10_line 355 = .ok (.bipush 99, 2) := by decide +kernel
theorem dX10_line_357 : decode cX10_line 357 = .ok (.invokevirtual 241, 3) := by decide +kernel
theorem dX10_line_360 : decode cX10_line 360 = .ok (.iastore, 1) := by decide +kernel
theorem dX10_line_361 : decode cX10_line 361 = .ok (.aload_n 0, 1) := by decide +kernel
theorem dX10_line_362 : decode cX10_line 362 = .ok (.iconst 2, 1) := by decide +kernel
theorem dX10_line_363 : decode cX10_line 363 = .ok (.aload_n 0, 1) := by decide +kernel
theorem dX10_line_364 : decode cX10_line 364 = .ok (.iconst 2, 1) := by decide +kernel
theorem dX10_line_365 : decode cX10_line 365 = .ok (.invokevirtual 224, 3) := by decide +kernel
theorem dX10_line_368 : decode cX10_line 368 = .ok (.iconst 1, 1) := by decide +kernel
theorem dX10_line_369 : decode cX10_line 369 = .ok (.iadd, 1) := by decide +kernel
theorem dX10_line_370 : decode cX10_line 370 = .ok (.invokevirtual 245, 3) := by decide +kernel
theorem dX10_line_373 : decode cX10_line 373 = .ok (.goto 85, 3) := by decide +kernel
theorem dX10_line_376 : decode cX10_line 376 = .ok (.aload_n 0, 1) := by decide +kernel
theorem dX10_line_377 : decode cX10_line 377 = .ok (.iconst 3, 1) := by decide +kernel
theorem dX10_line_378 : decode cX10_line 378 = .ok (.aload_n 0, 1) := by decide +kernel
theorem dX10_line_379 : decode cX10_line 379 = .ok (.iconst 0, 1) := by decide +kernel
theorem dX10_line_380 : decode cX10_line 380 = .ok (.sipush 999, 3) := by decide +kernel
theorem dX10_line_383 : decode cX10_line 383 = .ok (.invokevirtual 241, 3) := by decide +kernel
theorem dX10_line_386 : decode cX10_line 386 = .ok (.invokevirtual 245, 3) := by decide +kernel
theorem dX10_line_389 : decode cX10_line 389 = .ok (.goto 69, 3) := by decide +kernel
theorem dX10_line_392 : decode cX10_line 392 = .ok (.aload_n 0, 1) := by decide +kernel
theorem dX10_line_393 : decode cX10_line 393 = .ok (.iconst 4, 1) := by decide +kernel
theorem dX10_line_394 : decode cX10_line 394 = .ok (.aload_n 0, 1) := by decide +kernel
theorem dX10_line_395 : decode cX10_line 395 = .ok (.iconst 0, 1) := by decide +kernel
theorem dX10_line_396 : decode cX10_line 396 = .ok (.bipush 9, 2) := by decide +kernel
theorem dX10_line_398 : decode cX10_line 398 = .ok (.invokevirtual 241, 3) := by decide +kernel
theorem dX10_line_401 : decode cX10_line 401 = .ok (.invokevirtual 245, 3) := by decide +kernel
theorem dX10_line_404 : decode cX10_line 404 = .ok (.goto 54, 3) := by decide +kernel
theorem dX10_line_407 : decode cX10_line 407 = .ok (.aload_n 0, 1) := by decide +kernel
theorem dX10_line_408 : decode cX10_line 408 = .ok (.iconst 5, 1) := by decide +kernel
theorem dX10_line_409 : decode cX10_line 409 = .ok (.aload_n 0, 1) := by decide +kernel
theorem dX10_line_410 : decode cX10_line 410 = .ok (.iconst 0, 1) := by decide +kernel
theorem dX10_line_411 : decode cX10_line 411 = .ok (.bipush 100, 2) := by decide +kernel
theorem dX10_line_413 : decode cX10_line 413 = .ok (.invokevirtual 241, 3) := by decide +kernel
theorem dX10_line_416 : decode cX10_line 416 = .ok (.invokevirtual 245, 3) := by decide +kernel
theorem dX10_line_419 : decode cX10_line 419 = .ok (.goto 39, 3) := by decide +kernel
theorem dX10_line_422 : decode cX10_line 422 = .ok (.aload_n 0, 1) := by decide +kernel
theorem dX10_line_423 : decode cX10_line 423 = .ok (.bipush 6, 2) := by decide +kernel
theorem dX10_line_425 : decode cX10_line 425 = .ok (.aload_n 0, 1) := by decide +kernel
theorem dX10_line_426 : decode cX10_line 426 = .ok (.iconst 0, 1) := by decide +kernel
theorem dX10_line_427 : decode cX10_line 427 = .ok (.bipush 100, 2) := by decide +kernel
theorem dX10_line_429 : decode cX10_line 429 = .ok (.invokevirtual 241, 3) := by decide +kernel
theorem dX10_line_432 : decode cX10_line 432 = .ok (.invokevirtual 245, 3) := by decide +kernel
theorem dX10_line_435 : decode cX10_line 435 = .ok (.goto 23, 3) := by decide +kernel
theorem dX10_line_438 : decode cX10_line 438 = .ok (.aload_n 0, 1) := by decide +kernel
theorem dX10_line_439 : decode cX10_line 439 = .ok (.bipush 7, 2) := by decide +kernel
theorem dX10_line_441 : decode cX10_line 441 = .ok (.aload_n 0, 1) := by decide +kernel
theorem dX10_line_442 : decode cX10_line 442 = .ok (.iconst 0, 1) := by decide +kernel
theorem dX10_line_443 : decode cX10_line 443 = .ok (.ldc 192, 2) := by decide +kernel
theorem dX10_line_445 : decode cX10_line 445 = .ok (.invokevirtual 241, 3) := by decide +kernel
theorem dX10_line_448 : decode cX10_line 448 = .ok (.invokevirtual 245, 3) := by decide +kernel
theorem dX10_line_451 : decode cX10_line 451 = .ok (.goto 7, 3) := by decide +kernel
theorem dX10_line_454 : decode cX10_line 454 = .ok (.aload_n 0, 1) := by decide +kernel
theorem dX10_line_455 : decode cX10_line 455 = .ok (.invokevirtual 252, 3) := by decide +kernel
theorem dX10_line_458 : decode cX10_line 458 = .ok (.aload_n 0, 1) := by decide +kernel
theorem dX10_line_459 : decode cX10_line 459 = .ok (.getfield 208, 3) := by decide +kernel
theorem dX10_line_462 : decode cX10_line 462 = .ok (.ifCond .eq 4, 3) := by decide +kernel
theorem dX10_line_465 : decode cX10_line 465 = .ok (.return_, 1) := by decide +kernel
theorem dX10_line_466 : decode cX10_line 466 = .ok (.aload_n 0, 1) := by decide +kernel
theorem dX10_line_467 : decode cX10_line 467 = .ok (.bipush 59, 2) := by decide +kernel
theorem dX10_line_469 : decode cX10_line 469 = .ok (.invokevirtual 255, 3) := by decide +kernel
theorem dX10_line_472 : decode cX10_line 472 = .ok (.ifCond .ne 11, 3) := by decide +kernel
theorem dX10_line_475 : decode cX10_line 475 = .ok (.aload_n 0, 1) := by decide +kernel
theorem dX10_line_476 : decode cX10_line 476 = .ok (.iconst 1, 1) := by decide +kernel
theorem dX10_line_477 : decode cX10_line 477 = .ok (.invokevirtual 217, 3) := by decide +kernel
theorem dX10_line_480 : decode cX10_line 480 = .ok (.goto 7, 3) := by decide +kernel
theorem dX10_line_483 : decode cX10_line 483 = .ok (.aload_n 0, 1) := by decide +kernel
theorem dX10_line_484 : decode cX10_line 484 = .ok (.invokevirtual 214, 3) := by decide +kernel
theorem dX10_line_487 : decode cX10_line 487 = .ok (.aload_n 0, 1) := by decide +kernel
theorem dX10_line_488 : decode cX10_line 488 = .ok (.dup, 1) := by decide +kernel
theorem dX10_line_489 : decode cX10_line 489 = .ok (.getfield 258, 3) := by decide +kernel
theorem dX10_line_492 : decode cX10_line 492 = .ok (.iconst 1, 1) := by decide +kernel
theorem dX10_line_493 : decode cX10_line 493 = .ok (.iadd, 1) := by decide +kernel
theorem dX10_line_494 : decode cX10_line 494 = .ok (.putfield 258, 3) := by decide +kernel
theorem dX10_line_497 : decode cX10_line 497 = .ok (.return_, 1) := by decide +kernel
theorem dX10_lawLine_0 : decode cX10_lawLine 0 = .ok (.aload_n 0, 1) := by decide +kernel
theorem dX10_lawLine_1 : decode cX10_lawLine 1 = .ok (.getfield 173, 3) := by decide +kernel
theorem dX10_lawLine_4 : decode cX10_lawLine 4 = .ok (.ifCond .ne 21, 3) := by decide +kernel
theorem dX10_lawLine_7 : decode cX10_lawLine 7 = .ok (.aload_n 0, 1) := by decide +kernel
theorem dX10_lawLine_8 : decode cX10_lawLine 8 = .ok (.getfield 183, 3) := by decide +kernel
theorem dX10_lawLine_11 : decode cX10_lawLine 11 = .ok (.bipush 9, 2) := by decide +kernel
theorem dX10_lawLine_13 : decode cX10_lawLine 13 = .ok (.if_icmp .lt 12, 3) := by decide +kernel
theorem dX10_lawLine_16 : decode cX10_lawLine 16 = .ok (.aload_n 0, 1) := by decide +kernel
theorem dX10_lawLine_17 : decode cX10_lawLine 17 = .ok (.getfield 183, 3) := by decide +kernel
theorem dX10_lawLine_20 : decode cX10_lawLine 20 = .ok (.bipush 11, 2) := by decide +kernel
theorem dX10_lawLine_22 : decode cX10_lawLine 22 = .ok (.if_icmp .le 8, 3) := by decide +kernel
theorem dX10_lawLine_25 : decode cX10_lawLine 25 = .ok (.aload_n 0, 1) := by decide +kernel
theorem dX10_lawLine_26 : decode cX10_lawLine 26 = .ok (.iconst 1, 1) := by decide +kernel
theorem dX10_lawLine_27 : decode cX10_lawLine 27 = .ok (.invokevirtual 217, 3) := by decide +kernel
theorem dX10_lawLine_30 : decode cX10_lawLine 30 = .ok (.aload_n 0, 1) := by decide +kernel
theorem dX10_lawLine_31 : decode cX10_lawLine 31 = .ok (.getfield 183, 3) := by decide +kernel
theorem dX10_lawLine_34 : decode cX10_lawLine 34 = .ok (.bipush 9, 2) := by decide +kernel
theorem dX10_lawLine_36 : decode cX10_lawLine 36 = .ok (.isub, 1) := by decide +kernel
theorem dX10_lawLine_37 : decode cX10_lawLine 37 = .ok (.istore_n 1, 1) := by decide +kernel
theorem dX10_lawLine_38 : decode cX10_lawLine 38 = .ok (.aload_n 0, 1) := by decide +kernel
theorem dX10_lawLine_39 : decode cX10_lawLine 39 = .ok (.getfield 208, 3) := by decide +kernel
theorem dX10_lawLine_42 : decode cX10_lawLine 42 = .ok (.ifCond .ne 23, 3) := by decide +kernel
theorem dX10_lawLine_45 : decode cX10_lawLine 45 = .ok (.aload_n 0, 1) := by decide +kernel
theorem dX10_lawLine_46 : decode cX10_lawLine 46 = .ok (.getfield 234, 3) := by decide +kernel
theorem dX10_lawLine_49 : decode cX10_lawLine 49 = .ok (.bipush 16, 2) := by decide +kernel
theorem dX10_lawLine_51 : decode cX10_lawLine 51 = .ok (.iload_n 1, 1) := by decide +kernel
theorem dX10_lawLine_52 : decode cX10_lawLine 52 = .ok (.iadd, 1) := by decide +kernel
theorem dX10_lawLine_53 : decode cX10_lawLine 53 = .ok (.ishr, 1) := by decide +kernel
theorem dX10_lawLine_54 : decode cX10_lawLine 54 = .ok (.iconst 1, 1) := by decide +kernel
theorem dX10_lawLine_55 : decode cX10_lawLine 55 = .ok (.iand, 1) := by decide +kernel
theorem dX10_lawLine_56 : decode cX10_lawLine 56 = .ok (.iconst 1, 1) := by decide +kernel
theorem dX10_lawLine_57 : decode cX10_lawLine 57 = .ok (.if_icmp .ne 8, 3) := by decide +kernel
theorem dX10_lawLine_60 : decode cX10_lawLine 60 = .ok (.aload_n 0, 1) := by decide +kernel
theorem dX10_lawLine_61 : decode cX10_lawLine 61 = .ok (.iconst 3, 1) := by decide +kernel
theorem dX10_lawLine_62 : decode cX10_lawLine 62 = .ok (.invokevirtual 217, 3) := by decide +kernel
theorem dX10_lawLine_65 : decode cX10_lawLine 65 = .ok (.aload_n 0, 1) := by decide +kernel
theorem dX10_lawLine_66 : decode cX10_lawLine 66 = .ok (.getfield 208, 3) := by decide +kernel
theorem dX10_lawLine_69 : decode cX10_lawLine 69 = .ok (.ifCond .eq 4, 3) := by decide +kernel
theorem dX10_lawLine_72 : decode cX10_lawLine 72 = .ok (.return_, 1) := by decide +kernel
theorem dX10_lawLine_73 : decode cX10_lawLine 73 = .ok (.aload_n 0, 1) := by decide +kernel
theorem dX10_lawLine_74 : decode cX10_lawLine 74 = .ok (.dup, 1) := by decide +kernel
theorem dX10_lawLine_75 : decode cX10_lawLine 75 = .ok (.getfield 234, 3) := by decide +kernel
theorem dX10_lawLine_78 : decode cX10_lawLine 78 = .ok (.iconst 1, 1) := by decide +kernel
theorem dX10_lawLine_79 : decode cX10_lawLine 79 = .ok (.bipush 16, 2) := by decide +kernel
theorem dX10_lawLine_81 : decode cX10_lawLine 81 = .ok (.iload_n 1, 1) := by decide +kernel
theorem dX10_lawLine_82 : decode cX10_lawLine 82 = .ok (.iadd, 1) := by decide +kernel
theorem dX10_lawLine_83 : decode cX10_lawLine 83 = .ok (.ishl, 1) := by decide +kernel
theorem dX10_lawLine_84 : decode cX10_lawLine 84 = .ok (.ior, 1) := by decide +kernel
theorem dX10_lawLine_85 : decode cX10_lawLine 85 = .ok (.putfield 234, 3) := by decide +kernel
theorem dX10_lawLine_88 : decode cX10_lawLine 88 = .ok (.aload_n 0, 1) := by decide +kernel
theorem dX10_lawLine_89 : decode cX10_lawLine 89 = .ok (.invokevirtual 214, 3) := by decide +kernel
theorem dX10_lawLine_92 : decode cX10_lawLine 92 = .ok (.aload_n 0, 1) := by decide +kernel
theorem dX10_lawLine_93 : decode cX10_lawLine 93 = .ok (.getfield 49, 3) := by decide +kernel
theorem dX10_lawLine_96 : decode cX10_lawLine 96 = .ok (.iconst 3, 1) := by decide +kernel
theorem dX10_lawLine_97 : decode cX10_lawLine 97 = .ok (.iload_n 1, 1) := by decide +kernel
theorem dX10_lawLine_98 : decode cX10_lawLine 98 = .ok (.iadd, 1) := by decide +kernel
theorem dX10_lawLine_99 : decode cX10_lawLine 99 = .ok (.aload_n 0, 1) := by decide +kernel
theorem dX10_lawLine_100 : decode cX10_lawLine 100 = .ok (.bipush 8, 2) := by decide +kernel
theorem dX10_lawLine_102 : decode cX10_lawLine 102 = .ok (.invokevirtual 224, 3) := by decide +kernel
theorem dX10_lawLine_105 : decode cX10_lawLine 105 = .ok (.iastore, 1) := by decide +kernel
theorem dX10_lawLine_106 : decode cX10_lawLine 106 = .ok (.aload_n 0, 1) := by decide +kernel
theorem dX10_lawLine_107 : decode cX10_lawLine 107 = .ok (.invokevirtual 261, 3) := by decide +kernel
theorem dX10_lawLine_110 : decode cX10_lawLine 110 = .ok (.aload_n 0, 1) := by decide +kernel
theorem dX10_lawLine_111 : decode cX10_lawLine 111 = .ok (.getfield 52, 3) := by decide +kernel
theorem dX10_lawLine_114 : decode cX10_lawLine 114 = .ok (.iconst 3, 1) := by decide +kernel
theorem dX10_lawLine_115 : decode cX10_lawLine 115 = .ok (.iload_n 1, 1) := by decide +kernel
theorem dX10_lawLine_116 : decode cX10_lawLine 116 = .ok (.iadd, 1) := by decide +kernel
theorem dX10_lawLine_117 : decode cX10_lawLine 117 = .ok (.aload_n 0, 1) := by decide +kernel
theorem dX10_lawLine_118 : decode cX10_lawLine 118 = .ok (.bipush 8, 2) := by decide +kernel
theorem dX10_lawLine_120 : decode cX10_lawLine 120 = .ok (.invokevirtual 224, 3) := by decide +kernel
theorem dX10_lawLine_123 : decode cX10_lawLine 123 = .ok (.iastore, 1) := by decide +kernel
theorem dX10_lawLine_124 : decode cX10_lawLine 124 = .ok (.return_, 1) := by decide +kernel
theorem dX10_puts_0 : decode cX10_puts 0 = .ok (.aload_n 0, 1) := by decide +kernel
theorem dX10_puts_1 : decode cX10_puts 1 = .ok (.getfield 208, 3) := by decide +kernel
theorem dX10_puts_4 : decode cX10_puts 4 = .ok (.ifCond .eq 4, 3) := by decide +kernel
theorem dX10_puts_7 : decode cX10_puts 7 = .ok (.return_, 1) := by decide +kernel
theorem dX10_puts_8 : decode cX10_puts 8 = .ok (.aload_n 0, 1) := by decide +kernel
theorem dX10_puts_9 : decode cX10_puts 9 = .ok (.getfield 55, 3) := by decide +kernel
theorem dX10_puts_12 : decode cX10_puts 12 = .ok (.bipush 64, 2) := by decide +kernel
theorem dX10_puts_14 : decode cX10_puts 14 = .ok (.aload_n 0, 1) := by decide +kernel
theorem dX10_puts_15 : decode cX10_puts 15 = .ok (.bipush 8, 2) := by decide +kernel
theorem dX10_puts_17 : decode cX10_puts 17 = .ok (.invokevirtual 224, 3) := by decide +kernel
theorem dX10_puts_20 : decode cX10_puts 20 = .ok (.iadd, 1) := by decide +kernel
theorem dX10_puts_21 : decode cX10_puts 21 = .ok (.iload_n 1, 1) := by decide +kernel
theorem dX10_puts_22 : decode cX10_puts 22 = .ok (.iastore, 1) := by decide +kernel
theorem dX10_puts_23 : decode cX10_puts 23 = .ok (.aload_n 0, 1) := by decide +kernel
theorem dX10_puts_24 : decode cX10_puts 24 = .ok (.getfield 58, 3) := by decide +kernel
theorem dX10_puts_27 : decode cX10_puts 27 = .ok (.bipush 64, 2) := by decide +kernel
theorem dX10_puts_29 : decode cX10_puts 29 = .ok (.aload_n 0, 1) := by decide +kernel
theorem dX10_puts_30 : decode cX10_puts 30 = .ok (.bipush 8, 2) := by decide +kernel
theorem dX10_puts_32 : decode cX10_puts 32 = .ok (.invokevirtual 224, 3) := by decide +kernel
theorem dX10_puts_35 : decode cX10_puts 35 = .ok (.iadd, 1) := by decide +kernel
theorem dX10_puts_36 : decode cX10_puts 36 = .ok (.iload_n 2, 1) := by decide +kernel
theorem dX10_puts_37 : decode cX10_puts 37 = .ok (.iastore, 1) := by decide +kernel
theorem dX10_puts_38 : decode cX10_puts 38 = .ok (.aload_n 0, 1) := by decide +kernel
theorem dX10_puts_39 : decode cX10_puts 39 = .ok (.bipush 8, 2) := by decide +kernel
theorem dX10_puts_41 : decode cX10_puts 41 = .ok (.aload_n 0, 1) := by decide +kernel
theorem dX10_puts_42 : decode cX10_puts 42 = .ok (.bipush 8, 2) := by decide +kernel
theorem dX10_puts_44 : decode cX10_puts 44 = .ok (.invokevirtual 224, 3) := by decide +kernel
theorem dX10_puts_47 : decode cX10_puts 47 = .ok (.iconst 1, 1) := by decide +kernel
theorem dX10_puts_48 : decode cX10_puts 48 = .ok (.iadd, 1) := by decide +kernel
theorem dX10_puts_49 : decode cX10_puts 49 = .ok (.invokevirtual 245, 3) := by decide +kernel
theorem dX10_puts_52 : decode cX10_puts 52 = .ok (.return_, 1) := by decide +kernel
theorem dX10_knot_0 : decode cX10_knot 0 = .ok (.aload_n 0, 1) := by decide +kernel
theorem dX10_knot_1 : decode cX10_knot 1 = .ok (.getfield 208, 3) := by decide +kernel
theorem dX10_knot_4 : decode cX10_knot 4 = .ok (.ifCond .eq 4, 3) := by decide +kernel
theorem dX10_knot_7 : decode cX10_knot 7 = .ok (.return_, 1) := by decide +kernel
theorem dX10_knot_8 : decode cX10_knot 8 = .ok (.aload_n 0, 1) := by decide +kernel
theorem dX10_knot_9 : decode cX10_knot 9 = .ok (.getfield 264, 3) := by decide +kernel
theorem dX10_knot_12 : decode cX10_knot 12 = .ok (.bipush 64, 2) := by decide +kernel
theorem dX10_knot_14 : decode cX10_knot 14 = .ok (.if_icmp .ne 11, 3) := by decide +kernel
theorem dX10_knot_17 : decode cX10_knot 17 = .ok (.aload_n 0, 1) := by decide +kernel
theorem dX10_knot_18 : decode cX10_knot 18 = .ok (.iconst 2, 1) := by decide +kernel
theorem dX10_knot_19 : decode cX10_knot 19 = .ok (.invokevirtual 217, 3) := by decide +kernel
theorem dX10_knot_22 : decode cX10_knot 22 = .ok (.goto 13, 3) := by decide +kernel
theorem dX10_knot_25 : decode cX10_knot 25 = .ok (.aload_n 0, 1) := by decide +kernel
theorem dX10_knot_26 : decode cX10_knot 26 = .ok (.dup, 1) := by decide +kernel
theorem dX10_knot_27 : decode cX10_knot 27 = .ok (.getfield 264, 3) := by decide +kernel
theorem dX10_knot_30 : decode cX10_knot 30 = .ok (.iconst 1, 1) := by decide +kernel
theorem dX10_knot_31 : decode cX10_knot 31 = .ok (.iadd, 1) := by decide +kernel
theorem dX10_knot_32 : decode cX10_knot 32 = .ok (.putfield 264, 3) := by decide +kernel
theorem dX10_knot_35 : decode cX10_knot 35 = .ok (.return_, 1) := by decide +kernel
theorem dX10_expression_0 : decode cX10_expression 0 = .ok (.aload_n 0, 1) := by decide +kernel
theorem dX10_expression_1 : decode cX10_expression 1 = .ok (.invokevirtual 267, 3) := by decide +kernel
theorem dX10_expression_4 : decode cX10_expression 4 = .ok (.aload_n 0, 1) := by decide +kernel
theorem dX10_expression_5 : decode cX10_expression 5 = .ok (.bipush 12, 2) := by decide +kernel
theorem dX10_expression_7 : decode cX10_expression 7 = .ok (.invokevirtual 270, 3) := by decide +kernel
theorem dX10_expression_10 : decode cX10_expression 10 = .ok (.ifCond .eq 26, 3) := by decide +kernel
theorem dX10_expression_13 : decode cX10_expression 13 = .ok (.aload_n 0, 1) := by decide +kernel
theorem dX10_expression_14 : decode cX10_expression 14 = .ok (.invokevirtual 273, 3) := by decide +kernel
theorem dX10_expression_17 : decode cX10_expression 17 = .ok (.aload_n 0, 1) := by decide +kernel
theorem dX10_expression_18 : decode cX10_expression 18 = .ok (.invokevirtual 228, 3) := by decide +kernel
theorem dX10_expression_21 : decode cX10_expression 21 = .ok (.aload_n 0, 1) := by decide +kernel
theorem dX10_expression_22 : decode cX10_expression 22 = .ok (.invokevirtual 267, 3) := by decide +kernel
theorem dX10_expression_25 : decode cX10_expression 25 = .ok (.aload_n 0, 1) := by decide +kernel
theorem dX10_expression_26 : decode cX10_expression 26 = .ok (.iconst 2, 1) := by decide +kernel
theorem dX10_expression_27 : decode cX10_expression 27 = .ok (.sipush 262, 3) := by decide +kernel
theorem dX10_expression_30 : decode cX10_expression 30 = .ok (.invokevirtual 276, 3) := by decide +kernel
theorem dX10_expression_33 : decode cX10_expression 33 = .ok (.goto (-29), 3) := by decide +kernel
theorem dX10_expression_36 : decode cX10_expression 36 = .ok (.return_, 1) := by decide +kernel
theorem dX10_conjunction_0 : decode cX10_conjunction 0 = .ok (.aload_n 0, 1) := by decide +kernel
theorem dX10_conjunction_1 : decode cX10_conjunction 1 = .ok (.invokevirtual 279, 3) := by decide +kernel
theorem dX10_conjunction_4 : decode cX10_conjunction 4 = .ok (.aload_n 0, 1) := by decide +kernel
theorem dX10_conjunction_5 : decode cX10_conjunction 5 = .ok (.bipush 13, 2) := by decide +kernel
theorem dX10_conjunction_7 : decode cX10_conjunction 7 = .ok (.invokevirtual 270, 3) := by decide +kernel
theorem dX10_conjunction_10 : decode cX10_conjunction 10 = .ok (.ifCond .eq 26, 3) := by decide +kernel
theorem dX10_conjunction_13 : decode cX10_conjunction 13 = .ok (.aload_n 0, 1) := by decide +kernel
theorem dX10_conjunction_14 : decode cX10_conjunction 14 = .ok (.invokevirtual 273, 3) := by decide +kernel
theorem dX10_conjunction_17 : decode cX10_conjunction 17 = .ok (.aload_n 0, 1) := by decide +kernel
theorem dX10_conjunction_18 : decode cX10_conjunction 18 = .ok (.invokevirtual 228, 3) := by decide +kernel
theorem dX10_conjunction_21 : decode cX10_conjunction 21 = .ok (.aload_n 0, 1) := by decide +kernel
theorem dX10_conjunction_22 : decode cX10_conjunction 22 = .ok (.invokevirtual 279, 3) := by decide +kernel
theorem dX10_conjunction_25 : decode cX10_conjunction 25 = .ok (.aload_n 0, 1) := by decide +kernel
theorem dX10_conjunction_26 : decode cX10_conjunction 26 = .ok (.iconst 2, 1) := by decide +kernel
theorem dX10_conjunction_27 : decode cX10_conjunction 27 = .ok (.sipush 261, 3) := by decide +kernel
theorem dX10_conjunction_30 : decode cX10_conjunction 30 = .ok (.invokevirtual 276, 3) := by decide +kernel
theorem dX10_conjunction_33 : decode cX10_conjunction 33 = .ok (.goto (-29), 3) := by decide +kernel
theorem dX10_conjunction_36 : decode cX10_conjunction 36 = .ok (.return_, 1) := by decide +kernel
theorem dX10_negation_0 : decode cX10_negation 0 = .ok (.aload_n 0, 1) := by decide +kernel
theorem dX10_negation_1 : decode cX10_negation 1 = .ok (.bipush 14, 2) := by decide +kernel
theorem dX10_negation_3 : decode cX10_negation 3 = .ok (.invokevirtual 270, 3) := by decide +kernel
theorem dX10_negation_6 : decode cX10_negation 6 = .ok (.ifCond .eq 24, 3) := by decide +kernel
theorem dX10_negation_9 : decode cX10_negation 9 = .ok (.aload_n 0, 1) := by decide +kernel
theorem dX10_negation_10 : decode cX10_negation 10 = .ok (.invokevirtual 273, 3) := by decide +kernel
theorem dX10_negation_13 : decode cX10_negation 13 = .ok (.aload_n 0, 1) := by decide +kernel
theorem dX10_negation_14 : decode cX10_negation 14 = .ok (.invokevirtual 228, 3) := by decide +kernel
theorem dX10_negation_17 : decode cX10_negation 17 = .ok (.aload_n 0, 1) := by decide +kernel
theorem dX10_negation_18 : decode cX10_negation 18 = .ok (.invokevirtual 279, 3) := by decide +kernel
theorem dX10_negation_21 : decode cX10_negation 21 = .ok (.aload_n 0, 1) := by decide +kernel
theorem dX10_negation_22 : decode cX10_negation 22 = .ok (.iconst 2, 1) := by decide +kernel
theorem dX10_negation_23 : decode cX10_negation 23 = .ok (.sipush 260, 3) := by decide +kernel
theorem dX10_negation_26 : decode cX10_negation 26 = .ok (.invokevirtual 276, 3) := by decide +kernel
theorem dX10_negation_29 : decode cX10_negation 29 = .ok (.return_, 1) := by decide +kernel
theorem dX10_negation_30 : decode cX10_negation 30 = .ok (.aload_n 0, 1) := by decide +kernel
theorem dX10_negation_31 : decode cX10_negation 31 = .ok (.invokevirtual 282, 3) := by decide +kernel
theorem dX10_negation_34 : decode cX10_negation 34 = .ok (.aload_n 0, 1) := by decide +kernel
theorem dX10_negation_35 : decode cX10_negation 35 = .ok (.getfield 208, 3) := by decide +kernel
theorem dX10_negation_38 : decode cX10_negation 38 = .ok (.ifCond .ne 48, 3) := by decide +kernel
theorem dX10_negation_41 : decode cX10_negation 41 = .ok (.aload_n 0, 1) := by decide +kernel
theorem dX10_negation_42 : decode cX10_negation 42 = .ok (.getfield 173, 3) := by decide +kernel
theorem dX10_negation_45 : decode cX10_negation 45 = .ok (.iconst 3, 1) := by decide +kernel
theorem dX10_negation_46 : decode cX10_negation 46 = .ok (.if_icmp .ne 40, 3) := by decide +kernel
theorem dX10_negation_49 : decode cX10_negation 49 = .ok (.aload_n 0, 1) := by decide +kernel
theorem dX10_negation_50 : decode cX10_negation 50 = .ok (.getfield 183, 3) := by decide +kernel
theorem dX10_negation_53 : decode cX10_negation 53 = .ok (.bipush 60, 2) := by decide +kernel
theorem dX10_negation_55 : decode cX10_negation 55 = .ok (.if_icmp .eq 32, 3) := by decide +kernel
theorem dX10_negation_58 : decode cX10_negation 58 = .ok (.aload_n 0, 1) := by decide +kernel
theorem dX10_negation_59 : decode cX10_negation 59 = .ok (.getfield 183, 3) := by decide +kernel
theorem dX10_negation_62 : decode cX10_negation 62 = .ok (.bipush 62, 2) := by decide +kernel
theorem dX10_negation_64 : decode cX10_negation 64 = .ok (.if_icmp .eq 23, 3) := by decide +kernel
theorem dX10_negation_67 : decode cX10_negation 67 = .ok (.aload_n 0, 1) := by decide +kernel
theorem dX10_negation_68 : decode cX10_negation 68 = .ok (.getfield 183, 3) := by decide +kernel
theorem dX10_negation_71 : decode cX10_negation 71 = .ok (.bipush 61, 2) := by decide +kernel
theorem dX10_negation_73 : decode cX10_negation 73 = .ok (.if_icmp .eq 14, 3) := by decide +kernel
theorem dX10_negation_76 : decode cX10_negation 76 = .ok (.aload_n 0, 1) := by decide +kernel
theorem dX10_negation_77 : decode cX10_negation 77 = .ok (.getfield 183, 3) := by decide +kernel
theorem dX10_negation_80 : decode cX10_negation 80 = .ok (.sipush 256, 3) := by decide +kernel
theorem dX10_negation_83 : decode cX10_negation 83 = .ok (.if_icmp .ge 4, 3) := by decide +kernel
theorem dX10_negation_86 : decode cX10_negation 86 = .ok (.return_, 1) := by decide +kernel
theorem dX10_negation_87 : decode cX10_negation 87 = .ok (.aload_n 0, 1) := by decide +kernel
theorem dX10_negation_88 : decode cX10_negation 88 = .ok (.getfield 183, 3) := by decide +kernel
theorem dX10_negation_91 : decode cX10_negation 91 = .ok (.istore_n 1, 1) := by decide +kernel
theorem dX10_negation_92 : decode cX10_negation 92 = .ok (.aload_n 0, 1) := by decide +kernel
theorem dX10_negation_93 : decode cX10_negation 93 = .ok (.invokevirtual 273, 3) := by decide +kernel
theorem dX10_negation_96 : decode cX10_negation 96 = .ok (.aload_n 0, 1) := by decide +kernel
theorem dX10_negation_97 : decode cX10_negation 97 = .ok (.invokevirtual 228, 3) := by decide +kernel
theorem dX10_negation_100 : decode cX10_negation 100 = .ok (.aload_n 0, 1) := by decide +kernel
theorem dX10_negation_101 : decode cX10_negation 101 = .ok (.invokevirtual 282, 3) := by decide +kernel
theorem dX10_negation_104 : decode cX10_negation 104 = .ok (.aload_n 0, 1) := by decide +kernel
theorem dX10_negation_105 : decode cX10_negation 105 = .ok (.iconst 2, 1) := by decide +kernel
theorem dX10_negation_106 : decode cX10_negation 106 = .ok (.iload_n 1, 1) := by decide +kernel
theorem dX10_negation_107 : decode cX10_negation 107 = .ok (.invokevirtual 276, 3) := by decide +kernel
theorem dX10_negation_110 : decode cX10_negation 110 = .ok (.return_, 1) := by decide +kernel
theorem dX10_sum_0 : decode cX10_sum 0 = .ok (.aload_n 0, 1) := by decide +kernel
theorem dX10_sum_1 : decode cX10_sum 1 = .ok (.invokevirtual 285, 3) := by decide +kernel
theorem dX10_sum_4 : decode cX10_sum 4 = .ok (.aload_n 0, 1) := by decide +kernel
theorem dX10_sum_5 : decode cX10_sum 5 = .ok (.bipush 43, 2) := by decide +kernel
theorem dX10_sum_7 : decode cX10_sum 7 = .ok (.invokevirtual 255, 3) := by decide +kernel
theorem dX10_sum_10 : decode cX10_sum 10 = .ok (.ifCond .ne 12, 3) := by decide +kernel
theorem dX10_sum_13 : decode cX10_sum 13 = .ok (.aload_n 0, 1) := by decide +kernel
theorem dX10_sum_14 : decode cX10_sum 14 = .ok (.bipush 45, 2) := by decide +kernel
theorem dX10_sum_16 : decode cX10_sum 16 = .ok (.invokevirtual 255, 3) := by decide +kernel
theorem dX10_sum_19 : decode cX10_sum 19 = .ok (.ifCond .eq 29, 3) := by decide +kernel
theorem dX10_sum_22 : decode cX10_sum 22 = .ok (.aload_n 0, 1) := by decide +kernel
theorem dX10_sum_23 : decode cX10_sum 23 = .ok (.getfield 183, 3) := by decide +kernel
theorem dX10_sum_26 : decode cX10_sum 26 = .ok (.istore_n 1, 1) := by decide +kernel
theorem dX10_sum_27 : decode cX10_sum 27 = .ok (.aload_n 0, 1) := by decide +kernel
theorem dX10_sum_28 : decode cX10_sum 28 = .ok (.invokevirtual 273, 3) := by decide +kernel
theorem dX10_sum_31 : decode cX10_sum 31 = .ok (.aload_n 0, 1) := by decide +kernel
theorem dX10_sum_32 : decode cX10_sum 32 = .ok (.invokevirtual 228, 3) := by decide +kernel
theorem dX10_sum_35 : decode cX10_sum 35 = .ok (.aload_n 0, 1) := by decide +kernel
theorem dX10_sum_36 : decode cX10_sum 36 = .ok (.invokevirtual 285, 3) := by decide +kernel
theorem dX10_sum_39 : decode cX10_sum 39 = .ok (.aload_n 0, 1) := by decide +kernel
theorem dX10_sum_40 : decode cX10_sum 40 = .ok (.iconst 2, 1) := by decide +kernel
theorem dX10_sum_41 : decode cX10_sum 41 = .ok (.iload_n 1, 1) := by decide +kernel
theorem dX10_sum_42 : decode cX10_sum 42 = .ok (.invokevirtual 276, 3) := by decide +kernel
theorem dX10_sum_45 : decode cX10_sum 45 = .ok (.goto (-41), 3) := by decide +kernel
theorem dX10_sum_48 : decode cX10_sum 48 = .ok (.return_, 1) := by decide +kernel
theorem dX10_product_0 : decode cX10_product 0 = .ok (.aload_n 0, 1) := by decide +kernel
theorem dX10_product_1 : decode cX10_product 1 = .ok (.invokevirtual 288, 3) := by decide +kernel
theorem dX10_product_4 : decode cX10_product 4 = .ok (.aload_n 0, 1) := by decide +kernel
theorem dX10_product_5 : decode cX10_product 5 = .ok (.bipush 42, 2) := by decide +kernel
theorem dX10_product_7 : decode cX10_product 7 = .ok (.invokevirtual 255, 3) := by decide +kernel
theorem dX10_product_10 : decode cX10_product 10 = .ok (.ifCond .ne 12, 3) := by decide +kernel
theorem dX10_product_13 : decode cX10_product 13 = .ok (.aload_n 0, 1) := by decide +kernel
theorem dX10_product_14 : decode cX10_product 14 = .ok (.bipush 47, 2) := by decide +kernel
theorem dX10_product_16 : decode cX10_product 16 = .ok (.invokevirtual 255, 3) := by decide +kernel
theorem dX10_product_19 : decode cX10_product 19 = .ok (.ifCond .eq 29, 3) := by decide +kernel
theorem dX10_product_22 : decode cX10_product 22 = .ok (.aload_n 0, 1) := by decide +kernel
theorem dX10_product_23 : decode cX10_product 23 = .ok (.getfield 183, 3) := by decide +kernel
theorem dX10_product_26 : decode cX10_product 26 = .ok (.istore_n 1, 1) := by decide +kernel
theorem dX10_product_27 : decode cX10_product 27 = .ok (.aload_n 0, 1) := by decide +kernel
theorem dX10_product_28 : decode cX10_product 28 = .ok (.invokevirtual 273, 3) := by decide +kernel
theorem dX10_product_31 : decode cX10_product 31 = .ok (.aload_n 0, 1) := by decide +kernel
theorem dX10_product_32 : decode cX10_product 32 = .ok (.invokevirtual 228, 3) := by decide +kernel
theorem dX10_product_35 : decode cX10_product 35 = .ok (.aload_n 0, 1) := by decide +kernel
