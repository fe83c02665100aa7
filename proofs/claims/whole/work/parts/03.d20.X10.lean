theorem dX10_isRest_22 : decode cX10_isRest 22 = .ok (.iload_n 1, 1) := by decide +kernel
theorem dX10_isRest_23 : decode cX10_isRest 23 = .ok (.iload 4, 2) := by decide +kernel
theorem dX10_isRest_25 : decode cX10_isRest 25 = .ok (.iload 5, 2) := by decide +kernel
theorem dX10_isRest_27 : decode cX10_isRest 27 = .ok (.invokevirtual 459, 3) := by decide +kernel
theorem dX10_isRest_30 : decode cX10_isRest 30 = .ok (.if_icmp .gt 30, 3) := by decide +kernel
theorem dX10_isRest_33 : decode cX10_isRest 33 = .ok (.aload_n 0, 1) := by decide +kernel
theorem dX10_isRest_34 : decode cX10_isRest 34 = .ok (.iload_n 2, 1) := by decide +kernel
theorem dX10_isRest_35 : decode cX10_isRest 35 = .ok (.iconst 1, 1) := by decide +kernel
theorem dX10_isRest_36 : decode cX10_isRest 36 = .ok (.iload 5, 2) := by decide +kernel
theorem dX10_isRest_38 : decode cX10_isRest 38 = .ok (.isub, 1) := by decide +kernel
theorem dX10_isRest_39 : decode cX10_isRest 39 = .ok (.iload 4, 2) := by decide +kernel
theorem dX10_isRest_41 : decode cX10_isRest 41 = .ok (.invokevirtual 459, 3) := by decide +kernel
theorem dX10_isRest_44 : decode cX10_isRest 44 = .ok (.aload_n 0, 1) := by decide +kernel
theorem dX10_isRest_45 : decode cX10_isRest 45 = .ok (.iload_n 2, 1) := by decide +kernel
theorem dX10_isRest_46 : decode cX10_isRest 46 = .ok (.iload 5, 2) := by decide +kernel
theorem dX10_isRest_48 : decode cX10_isRest 48 = .ok (.iload 4, 2) := by decide +kernel
theorem dX10_isRest_50 : decode cX10_isRest 50 = .ok (.invokevirtual 459, 3) := by decide +kernel
theorem dX10_isRest_53 : decode cX10_isRest 53 = .ok (.if_icmp .gt 7, 3) := by decide +kernel
theorem dX10_isRest_56 : decode cX10_isRest 56 = .ok (.iconst 1, 1) := by decide +kernel
theorem dX10_isRest_57 : decode cX10_isRest 57 = .ok (.goto 4, 3) := by decide +kernel
theorem dX10_isRest_60 : decode cX10_isRest 60 = .ok (.iconst 0, 1) := by decide +kernel
theorem dX10_isRest_61 : decode cX10_isRest 61 = .ok (.ireturn, 1) := by decide +kernel
theorem dX10_restOf_0 : decode cX10_restOf 0 = .ok (.iconst 0, 1) := by decide +kernel
theorem dX10_restOf_1 : decode cX10_restOf 1 = .ok (.istore 4, 2) := by decide +kernel
theorem dX10_restOf_3 : decode cX10_restOf 3 = .ok (.iconst 0, 1) := by decide +kernel
theorem dX10_restOf_4 : decode cX10_restOf 4 = .ok (.istore 5, 2) := by decide +kernel
theorem dX10_restOf_6 : decode cX10_restOf 6 = .ok (.iload 5, 2) := by decide +kernel
theorem dX10_restOf_8 : decode cX10_restOf 8 = .ok (.iconst 4, 1) := by decide +kernel
theorem dX10_restOf_9 : decode cX10_restOf 9 = .ok (.if_icmp .ge 45, 3) := by decide +kernel
theorem dX10_restOf_12 : decode cX10_restOf 12 = .ok (.aload_n 0, 1) := by decide +kernel
theorem dX10_restOf_13 : decode cX10_restOf 13 = .ok (.iload_n 1, 1) := by decide +kernel
theorem dX10_restOf_14 : decode cX10_restOf 14 = .ok (.iload_n 2, 1) := by decide +kernel
theorem dX10_restOf_15 : decode cX10_restOf 15 = .ok (.iload 5, 2) := by decide +kernel
theorem dX10_restOf_17 : decode cX10_restOf 17 = .ok (.invokevirtual 463, 3) := by decide +kernel
theorem dX10_restOf_20 : decode cX10_restOf 20 = .ok (.ifCond .ne 6, 3) := by decide +kernel
theorem dX10_restOf_23 : decode cX10_restOf 23 = .ok (.goto 25, 3) := by decide +kernel
theorem dX10_restOf_26 : decode cX10_restOf 26 = .ok (.iload 4, 2) := by decide +kernel
theorem dX10_restOf_28 : decode cX10_restOf 28 = .ok (.iload_n 3, 1) := by decide +kernel
theorem dX10_restOf_29 : decode cX10_restOf 29 = .ok (.if_icmp .ne 16, 3) := by decide +kernel
theorem dX10_restOf_32 : decode cX10_restOf 32 = .ok (.bipush 10, 2) := by decide +kernel
theorem dX10_restOf_34 : decode cX10_restOf 34 = .ok (.iload 5, 2) := by decide +kernel
theorem dX10_restOf_36 : decode cX10_restOf 36 = .ok (.iconst 2, 1) := by decide +kernel
theorem dX10_restOf_37 : decode cX10_restOf 37 = .ok (.idiv, 1) := by decide +kernel
theorem dX10_restOf_38 : decode cX10_restOf 38 = .ok (.imul, 1) := by decide +kernel
theorem dX10_restOf_39 : decode cX10_restOf 39 = .ok (.iload 5, 2) := by decide +kernel
theorem dX10_restOf_41 : decode cX10_restOf 41 = .ok (.iconst 2, 1) := by decide +kernel
theorem dX10_restOf_42 : decode cX10_restOf 42 = .ok (.irem, 1) := by decide +kernel
theorem dX10_restOf_43 : decode cX10_restOf 43 = .ok (.iadd, 1) := by decide +kernel
theorem dX10_restOf_44 : decode cX10_restOf 44 = .ok (.ireturn, 1) := by decide +kernel
theorem dX10_restOf_45 : decode cX10_restOf 45 = .ok (.iinc 4 1, 3) := by decide +kernel
theorem dX10_restOf_48 : decode cX10_restOf 48 = .ok (.iinc 5 1, 3) := by decide +kernel
theorem dX10_restOf_51 : decode cX10_restOf 51 = .ok (.goto (-45), 3) := by decide +kernel
theorem dX10_restOf_54 : decode cX10_restOf 54 = .ok (.iload_n 3, 1) := by decide +kernel
theorem dX10_restOf_55 : decode cX10_restOf 55 = .ok (.iconst (-1), 1) := by decide +kernel
theorem dX10_restOf_56 : decode cX10_restOf 56 = .ok (.if_icmp .ne 8, 3) := by decide +kernel
theorem dX10_restOf_59 : decode cX10_restOf 59 = .ok (.iload 4, 2) := by decide +kernel
theorem dX10_restOf_61 : decode cX10_restOf 61 = .ok (.goto 5, 3) := by decide +kernel
theorem dX10_restOf_64 : decode cX10_restOf 64 = .ok (.bipush (-2), 2) := by decide +kernel
theorem dX10_restOf_66 : decode cX10_restOf 66 = .ok (.ireturn, 1) := by decide +kernel
theorem dX10_areTwo_0 : decode cX10_areTwo 0 = .ok (.aload_n 0, 1) := by decide +kernel
theorem dX10_areTwo_1 : decode cX10_areTwo 1 = .ok (.iload_n 1, 1) := by decide +kernel
theorem dX10_areTwo_2 : decode cX10_areTwo 2 = .ok (.invokevirtual 413, 3) := by decide +kernel
theorem dX10_areTwo_5 : decode cX10_areTwo 5 = .ok (.ifCond .eq 20, 3) := by decide +kernel
theorem dX10_areTwo_8 : decode cX10_areTwo 8 = .ok (.aload_n 0, 1) := by decide +kernel
theorem dX10_areTwo_9 : decode cX10_areTwo 9 = .ok (.iload_n 2, 1) := by decide +kernel
theorem dX10_areTwo_10 : decode cX10_areTwo 10 = .ok (.invokevirtual 413, 3) := by decide +kernel
theorem dX10_areTwo_13 : decode cX10_areTwo 13 = .ok (.ifCond .eq 12, 3) := by decide +kernel
theorem dX10_areTwo_16 : decode cX10_areTwo 16 = .ok (.iload_n 1, 1) := by decide +kernel
theorem dX10_areTwo_17 : decode cX10_areTwo 17 = .ok (.iload_n 2, 1) := by decide +kernel
theorem dX10_areTwo_18 : decode cX10_areTwo 18 = .ok (.if_icmp .eq 7, 3) := by decide +kernel
theorem dX10_areTwo_21 : decode cX10_areTwo 21 = .ok (.iconst 1, 1) := by decide +kernel
theorem dX10_areTwo_22 : decode cX10_areTwo 22 = .ok (.goto 4, 3) := by decide +kernel
theorem dX10_areTwo_25 : decode cX10_areTwo 25 = .ok (.iconst 0, 1) := by decide +kernel
theorem dX10_areTwo_26 : decode cX10_areTwo 26 = .ok (.ireturn, 1) := by decide +kernel
theorem dX10_rests_0 : decode cX10_rests 0 = .ok (.aload_n 0, 1) := by decide +kernel
theorem dX10_rests_1 : decode cX10_rests 1 = .ok (.iconst 0, 1) := by decide +kernel
theorem dX10_rests_2 : decode cX10_rests 2 = .ok (.putfield 154, 3) := by decide +kernel
theorem dX10_rests_5 : decode cX10_rests 5 = .ok (.aload_n 0, 1) := by decide +kernel
theorem dX10_rests_6 : decode cX10_rests 6 = .ok (.iload_n 1, 1) := by decide +kernel
theorem dX10_rests_7 : decode cX10_rests 7 = .ok (.iload_n 2, 1) := by decide +kernel
theorem dX10_rests_8 : decode cX10_rests 8 = .ok (.invokevirtual 467, 3) := by decide +kernel
theorem dX10_rests_11 : decode cX10_rests 11 = .ok (.ifCond .eq 13, 3) := by decide +kernel
theorem dX10_rests_14 : decode cX10_rests 14 = .ok (.aload_n 0, 1) := by decide +kernel
theorem dX10_rests_15 : decode cX10_rests 15 = .ok (.iload_n 1, 1) := by decide +kernel
theorem dX10_rests_16 : decode cX10_rests 16 = .ok (.iload_n 2, 1) := by decide +kernel
theorem dX10_rests_17 : decode cX10_rests 17 = .ok (.iconst (-1), 1) := by decide +kernel
theorem dX10_rests_18 : decode cX10_rests 18 = .ok (.invokevirtual 471, 3) := by decide +kernel
theorem dX10_rests_21 : decode cX10_rests 21 = .ok (.goto 4, 3) := by decide +kernel
theorem dX10_rests_24 : decode cX10_rests 24 = .ok (.iconst (-1), 1) := by decide +kernel
theorem dX10_rests_25 : decode cX10_rests 25 = .ok (.ireturn, 1) := by decide +kernel
theorem dX10_rest_0 : decode cX10_rest 0 = .ok (.aload_n 0, 1) := by decide +kernel
theorem dX10_rest_1 : decode cX10_rest 1 = .ok (.iconst 0, 1) := by decide +kernel
theorem dX10_rest_2 : decode cX10_rest 2 = .ok (.putfield 154, 3) := by decide +kernel
theorem dX10_rest_5 : decode cX10_rest 5 = .ok (.aload_n 0, 1) := by decide +kernel
theorem dX10_rest_6 : decode cX10_rest 6 = .ok (.iload_n 1, 1) := by decide +kernel
theorem dX10_rest_7 : decode cX10_rest 7 = .ok (.iload_n 2, 1) := by decide +kernel
theorem dX10_rest_8 : decode cX10_rest 8 = .ok (.invokevirtual 467, 3) := by decide +kernel
theorem dX10_rest_11 : decode cX10_rest 11 = .ok (.ifCond .eq 17, 3) := by decide +kernel
theorem dX10_rest_14 : decode cX10_rest 14 = .ok (.iload_n 3, 1) := by decide +kernel
theorem dX10_rest_15 : decode cX10_rest 15 = .ok (.ifCond .lt 13, 3) := by decide +kernel
theorem dX10_rest_18 : decode cX10_rest 18 = .ok (.aload_n 0, 1) := by decide +kernel
theorem dX10_rest_19 : decode cX10_rest 19 = .ok (.iload_n 1, 1) := by decide +kernel
theorem dX10_rest_20 : decode cX10_rest 20 = .ok (.iload_n 2, 1) := by decide +kernel
theorem dX10_rest_21 : decode cX10_rest 21 = .ok (.iload_n 3, 1) := by decide +kernel
theorem dX10_rest_22 : decode cX10_rest 22 = .ok (.invokevirtual 471, 3) := by decide +kernel
theorem dX10_rest_25 : decode cX10_rest 25 = .ok (.goto 4, 3) := by decide +kernel
theorem dX10_rest_28 : decode cX10_rest 28 = .ok (.iconst (-1), 1) := by decide +kernel
theorem dX10_rest_29 : decode cX10_rest 29 = .ok (.ireturn, 1) := by decide +kernel
theorem dX10_common_0 : decode cX10_common 0 = .ok (.lload_n 0, 1) := by decide +kernel
theorem dX10_common_1 : decode cX10_common 1 = .ok (.lstore 4, 2) := by decide +kernel
theorem dX10_common_3 : decode cX10_common 3 = .ok (.lload_n 2, 1) := by decide +kernel
theorem dX10_common_4 : decode cX10_common 4 = .ok (.lstore 6, 2) := by decide +kernel
theorem dX10_common_6 : decode cX10_common 6 = .ok (.lload 6, 2) := by decide +kernel
theorem dX10_common_8 : decode cX10_common 8 = .ok (.lconst 0, 1) := by decide +kernel
theorem dX10_common_9 : decode cX10_common 9 = .ok (.lcmp, 1) := by decide +kernel
theorem dX10_common_10 : decode cX10_common 10 = .ok (.ifCond .eq 21, 3) := by decide +kernel
theorem dX10_common_13 : decode cX10_common 13 = .ok (.lload 4, 2) := by decide +kernel
theorem dX10_common_15 : decode cX10_common 15 = .ok (.lload 6, 2) := by decide +kernel
theorem dX10_common_17 : decode cX10_common 17 = .ok (.lrem, 1) := by decide +kernel
theorem dX10_common_18 : decode cX10_common 18 = .ok (.lstore 8, 2) := by decide +kernel
theorem dX10_common_20 : decode cX10_common 20 = .ok (.lload 6, 2) := by decide +kernel
theorem dX10_common_22 : decode cX10_common 22 = .ok (.lstore 4, 2) := by decide +kernel
theorem dX10_common_24 : decode cX10_common 24 = .ok (.lload 8, 2) := by decide +kernel
theorem dX10_common_26 : decode cX10_common 26 = .ok (.lstore 6, 2) := by decide +kernel
theorem dX10_common_28 : decode cX10_common 28 = .ok (.goto (-22), 3) := by decide +kernel
theorem dX10_common_31 : decode cX10_common 31 = .ok (.lload 4, 2) := by decide +kernel
theorem dX10_common_33 : decode cX10_common 33 = .ok (.lreturn, 1) := by decide +kernel
theorem dX10_comesBack_0 : decode cX10_comesBack 0 = .ok (.aload_n 0, 1) := by decide +kernel
theorem dX10_comesBack_1 : decode cX10_comesBack 1 = .ok (.iconst 0, 1) := by decide +kernel
theorem dX10_comesBack_2 : decode cX10_comesBack 2 = .ok (.putfield 154, 3) := by decide +kernel
theorem dX10_comesBack_5 : decode cX10_comesBack 5 = .ok (.iload_n 1, 1) := by decide +kernel
theorem dX10_comesBack_6 : decode cX10_comesBack 6 = .ok (.ifCond .lt 18, 3) := by decide +kernel
theorem dX10_comesBack_9 : decode cX10_comesBack 9 = .ok (.iload_n 1, 1) := by decide +kernel
theorem dX10_comesBack_10 : decode cX10_comesBack 10 = .ok (.bipush 6, 2) := by decide +kernel
theorem dX10_comesBack_12 : decode cX10_comesBack 12 = .ok (.if_icmp .gt 12, 3) := by decide +kernel
theorem dX10_comesBack_15 : decode cX10_comesBack 15 = .ok (.iload_n 2, 1) := by decide +kernel
theorem dX10_comesBack_16 : decode cX10_comesBack 16 = .ok (.ifCond .lt 8, 3) := by decide +kernel
theorem dX10_comesBack_19 : decode cX10_comesBack 19 = .ok (.iload_n 2, 1) := by decide +kernel
theorem dX10_comesBack_20 : decode cX10_comesBack 20 = .ok (.iconst 1, 1) := by decide +kernel
theorem dX10_comesBack_21 : decode cX10_comesBack 21 = .ok (.if_icmp .le 7, 3) := by decide +kernel
theorem dX10_comesBack_24 : decode cX10_comesBack 24 = .ok (.ldc2_w 474, 3) := by decide +kernel
theorem dX10_comesBack_27 : decode cX10_comesBack 27 = .ok (.lreturn, 1) := by decide +kernel
theorem dX10_comesBack_28 : decode cX10_comesBack 28 = .ok (.lconst 1, 1) := by decide +kernel
theorem dX10_comesBack_29 : decode cX10_comesBack 29 = .ok (.lstore_n 3, 1) := by decide +kernel
theorem dX10_comesBack_30 : decode cX10_comesBack 30 = .ok (.lconst 1, 1) := by decide +kernel
theorem dX10_comesBack_31 : decode cX10_comesBack 31 = .ok (.lstore 5, 2) := by decide +kernel
theorem dX10_comesBack_33 : decode cX10_comesBack 33 = .ok (.iconst 0, 1) := by decide +kernel
theorem dX10_comesBack_34 : decode cX10_comesBack 34 = .ok (.istore 7, 2) := by decide +kernel
theorem dX10_comesBack_36 : decode cX10_comesBack 36 = .ok (.iload 7, 2) := by decide +kernel
theorem dX10_comesBack_38 : decode cX10_comesBack 38 = .ok (.iload_n 1, 1) := by decide +kernel
theorem dX10_comesBack_39 : decode cX10_comesBack 39 = .ok (.if_icmp .ge 32, 3) := by decide +kernel
theorem dX10_comesBack_42 : decode cX10_comesBack 42 = .ok (.lload_n 3, 1) := by decide +kernel
theorem dX10_comesBack_43 : decode cX10_comesBack 43 = .ok (.ldc2_w 476, 3) := by decide +kernel
theorem dX10_comesBack_46 : decode cX10_comesBack 46 = .ok (.aload_n 0, 1) := by decide +kernel
theorem dX10_comesBack_47 : decode cX10_comesBack 47 = .ok (.getfield 13, 3) := by decide +kernel
theorem dX10_comesBack_50 : decode cX10_comesBack 50 = .ok (.bipush 6, 2) := by decide +kernel
theorem dX10_comesBack_52 : decode cX10_comesBack 52 = .ok (.iaload, 1) := by decide +kernel
theorem dX10_comesBack_53 : decode cX10_comesBack 53 = .ok (.i2l, 1) := by decide +kernel
theorem dX10_comesBack_54 : decode cX10_comesBack 54 = .ok (.lsub, 1) := by decide +kernel
theorem dX10_comesBack_55 : decode cX10_comesBack 55 = .ok (.lmul, 1) := by decide +kernel
theorem dX10_comesBack_56 : decode cX10_comesBack 56 = .ok (.lstore_n 3, 1) := by decide +kernel
theorem dX10_comesBack_57 : decode cX10_comesBack 57 = .ok (.lload 5, 2) := by decide +kernel
theorem dX10_comesBack_59 : decode cX10_comesBack 59 = .ok (.ldc2_w 476, 3) := by decide +kernel
theorem dX10_comesBack_62 : decode cX10_comesBack 62 = .ok (.lmul, 1) := by decide +kernel
theorem dX10_comesBack_63 : decode cX10_comesBack 63 = .ok (.lstore 5, 2) := by decide +kernel
theorem dX10_comesBack_65 : decode cX10_comesBack 65 = .ok (.iinc 7 1, 3) := by decide +kernel
theorem dX10_comesBack_68 : decode cX10_comesBack 68 = .ok (.goto (-32), 3) := by decide +kernel
theorem dX10_comesBack_71 : decode cX10_comesBack 71 = .ok (.lload_n 3, 1) := by decide +kernel
theorem dX10_comesBack_72 : decode cX10_comesBack 72 = .ok (.lload 5, 2) := by decide +kernel
theorem dX10_comesBack_74 : decode cX10_comesBack 74 = .ok (.invokestatic 478, 3) := by decide +kernel
theorem dX10_comesBack_77 : decode cX10_comesBack 77 = .ok (.lstore 7, 2) := by decide +kernel
theorem dX10_comesBack_79 : decode cX10_comesBack 79 = .ok (.iload_n 2, 1) := by decide +kernel
theorem dX10_comesBack_80 : decode cX10_comesBack 80 = .ok (.ifCond .ne 10, 3) := by decide +kernel
theorem dX10_comesBack_83 : decode cX10_comesBack 83 = .ok (.lload_n 3, 1) := by decide +kernel
theorem dX10_comesBack_84 : decode cX10_comesBack 84 = .ok (.lload 7, 2) := by decide +kernel
theorem dX10_comesBack_86 : decode cX10_comesBack 86 = .ok (.ldiv, 1) := by decide +kernel
theorem dX10_comesBack_87 : decode cX10_comesBack 87 = .ok (.goto 8, 3) := by decide +kernel
theorem dX10_comesBack_90 : decode cX10_comesBack 90 = .ok (.lload 5, 2) := by decide +kernel
theorem dX10_comesBack_92 : decode cX10_comesBack 92 = .ok (.lload 7, 2) := by decide +kernel
theorem dX10_comesBack_94 : decode cX10_comesBack 94 = .ok (.ldiv, 1) := by decide +kernel
theorem dX10_comesBack_95 : decode cX10_comesBack 95 = .ok (.lreturn, 1) := by decide +kernel
theorem dX10_widow_0 : decode cX10_widow 0 = .ok (.aload_n 0, 1) := by decide +kernel
theorem dX10_widow_1 : decode cX10_widow 1 = .ok (.iconst 0, 1) := by decide +kernel
theorem dX10_widow_2 : decode cX10_widow 2 = .ok (.putfield 154, 3) := by decide +kernel
theorem dX10_widow_5 : decode cX10_widow 5 = .ok (.aload_n 0, 1) := by decide +kernel
theorem dX10_widow_6 : decode cX10_widow 6 = .ok (.iload_n 1, 1) := by decide +kernel
theorem dX10_widow_7 : decode cX10_widow 7 = .ok (.invokevirtual 413, 3) := by decide +kernel
theorem dX10_widow_10 : decode cX10_widow 10 = .ok (.ifCond .eq 13, 3) := by decide +kernel
theorem dX10_widow_13 : decode cX10_widow 13 = .ok (.iload_n 2, 1) := by decide +kernel
theorem dX10_widow_14 : decode cX10_widow 14 = .ok (.ifCond .lt 9, 3) := by decide +kernel
theorem dX10_widow_17 : decode cX10_widow 17 = .ok (.iload_n 2, 1) := by decide +kernel
theorem dX10_widow_18 : decode cX10_widow 18 = .ok (.bipush 99, 2) := by decide +kernel
theorem dX10_widow_20 : decode cX10_widow 20 = .ok (.if_icmp .le 5, 3) := by decide +kernel
theorem dX10_widow_23 : decode cX10_widow 23 = .ok (.iconst (-1), 1) := by decide +kernel
theorem dX10_widow_24 : decode cX10_widow 24 = .ok (.ireturn, 1) := by decide +kernel
theorem dX10_widow_25 : decode cX10_widow 25 = .ok (.iconst 0, 1) := by decide +kernel
theorem dX10_widow_26 : decode cX10_widow 26 = .ok (.istore_n 3, 1) := by decide +kernel
theorem dX10_widow_27 : decode cX10_widow 27 = .ok (.aload_n 0, 1) := by decide +kernel
theorem dX10_widow_28 : decode cX10_widow 28 = .ok (.getfield 87, 3) := by decide +kernel
theorem dX10_widow_31 : decode cX10_widow 31 = .ok (.iload_n 1, 1) := by decide +kernel
theorem dX10_widow_32 : decode cX10_widow 32 = .ok (.iaload, 1) := by decide +kernel
theorem dX10_widow_33 : decode cX10_widow 33 = .ok (.istore 4, 2) := by decide +kernel
theorem dX10_widow_35 : decode cX10_widow 35 = .ok (.iconst 0, 1) := by decide +kernel
theorem dX10_widow_36 : decode cX10_widow 36 = .ok (.istore 5, 2) := by decide +kernel
theorem dX10_widow_38 : decode cX10_widow 38 = .ok (.iload 5, 2) := by decide +kernel
theorem dX10_widow_40 : decode cX10_widow 40 = .ok (.iload_n 2, 1) := by decide +kernel
theorem dX10_widow_41 : decode cX10_widow 41 = .ok (.if_icmp .ge 24, 3) := by decide +kernel
theorem dX10_widow_44 : decode cX10_widow 44 = .ok (.iload_n 3, 1) := by decide +kernel
theorem dX10_widow_45 : decode cX10_widow 45 = .ok (.iload 4, 2) := by decide +kernel
theorem dX10_widow_47 : decode cX10_widow 47 = .ok (.iadd, 1) := by decide +kernel
theorem dX10_widow_48 : decode cX10_widow 48 = .ok (.istore_n 3, 1) := by decide +kernel
theorem dX10_widow_49 : decode cX10_widow 49 = .ok (.iload 4, 2) := by decide +kernel
theorem dX10_widow_51 : decode cX10_widow 51 = .ok (.bipush 9, 2) := by decide +kernel
theorem dX10_widow_53 : decode cX10_widow 53 = .ok (.imul, 1) := by decide +kernel
theorem dX10_widow_54 : decode cX10_widow 54 = .ok (.bipush 10, 2) := by decide +kernel
theorem dX10_widow_56 : decode cX10_widow 56 = .ok (.idiv, 1) := by decide +kernel
theorem dX10_widow_57 : decode cX10_widow 57 = .ok (.istore 4, 2) := by decide +kernel
theorem dX10_widow_59 : decode cX10_widow 59 = .ok (.iinc 5 1, 3) := by decide +kernel
theorem dX10_widow_62 : decode cX10_widow 62 = .ok (.goto (-24), 3) := by decide +kernel
theorem dX10_widow_65 : decode cX10_widow 65 = .ok (.iload_n 3, 1) := by decide +kernel
theorem dX10_widow_66 : decode cX10_widow 66 = .ok (.ireturn, 1) := by decide +kernel
theorem dX10_next_0 : decode cX10_next 0 = .ok (.aload_n 0, 1) := by decide +kernel
theorem dX10_next_1 : decode cX10_next 1 = .ok (.iconst 0, 1) := by decide +kernel
theorem dX10_next_2 : decode cX10_next 2 = .ok (.putfield 154, 3) := by decide +kernel
theorem dX10_next_5 : decode cX10_next 5 = .ok (.aload_n 0, 1) := by decide +kernel
theorem dX10_next_6 : decode cX10_next 6 = .ok (.iload_n 1, 1) := by decide +kernel
theorem dX10_next_7 : decode cX10_next 7 = .ok (.invokevirtual 422, 3) := by decide +kernel
theorem dX10_next_10 : decode cX10_next 10 = .ok (.ifCond .ne 5, 3) := by decide +kernel
theorem dX10_next_13 : decode cX10_next 13 = .ok (.iconst (-1), 1) := by decide +kernel
theorem dX10_next_14 : decode cX10_next 14 = .ok (.ireturn, 1) := by decide +kernel
theorem dX10_next_15 : decode cX10_next 15 = .ok (.iconst (-1), 1) := by decide +kernel
theorem dX10_next_16 : decode cX10_next 16 = .ok (.istore_n 2, 1) := by decide +kernel
theorem dX10_next_17 : decode cX10_next 17 = .ok (.iconst 0, 1) := by decide +kernel
theorem dX10_next_18 : decode cX10_next 18 = .ok (.istore_n 3, 1) := by decide +kernel
theorem dX10_next_19 : decode cX10_next 19 = .ok (.iload_n 3, 1) := by decide +kernel
theorem dX10_next_20 : decode cX10_next 20 = .ok (.aload_n 0, 1) := by decide +kernel
theorem dX10_next_21 : decode cX10_next 21 = .ok (.getfield 13, 3) := by decide +kernel
theorem dX10_next_24 : decode cX10_next 24 = .ok (.iconst 0, 1) := by decide +kernel
theorem dX10_next_25 : decode cX10_next 25 = .ok (.iaload, 1) := by decide +kernel
theorem dX10_next_26 : decode cX10_next 26 = .ok (.if_icmp .ge 81, 3) := by decide +kernel
theorem dX10_next_29 : decode cX10_next 29 = .ok (.aload_n 0, 1) := by decide +kernel
theorem dX10_next_30 : decode cX10_next 30 = .ok (.getfield 105, 3) := by decide +kernel
theorem dX10_next_33 : decode cX10_next 33 = .ok (.iload_n 3, 1) := by decide +kernel
theorem dX10_next_34 : decode cX10_next 34 = .ok (.iaload, 1) := by decide +kernel
theorem dX10_next_35 : decode cX10_next 35 = .ok (.istore 4, 2) := by decide +kernel
theorem dX10_next_37 : decode cX10_next 37 = .ok (.aload_n 0, 1) := by decide +kernel
theorem dX10_next_38 : decode cX10_next 38 = .ok (.getfield 93, 3) := by decide +kernel
theorem dX10_next_41 : decode cX10_next 41 = .ok (.iload 4, 2) := by decide +kernel
theorem dX10_next_43 : decode cX10_next 43 = .ok (.iaload, 1) := by decide +kernel
theorem dX10_next_44 : decode cX10_next 44 = .ok (.ifCond .ne 57, 3) := by decide +kernel
theorem dX10_next_47 : decode cX10_next 47 = .ok (.aload_n 0, 1) := by decide +kernel
theorem dX10_next_48 : decode cX10_next 48 = .ok (.getfield 102, 3) := by decide +kernel
theorem dX10_next_51 : decode cX10_next 51 = .ok (.iload 4, 2) := by decide +kernel
theorem dX10_next_53 : decode cX10_next 53 = .ok (.iaload, 1) := by decide +kernel
theorem dX10_next_54 : decode cX10_next 54 = .ok (.iconst 1, 1) := by decide +kernel
theorem dX10_next_55 : decode cX10_next 55 = .ok (.if_icmp .eq 46, 3) := by decide +kernel
theorem dX10_next_58 : decode cX10_next 58 = .ok (.aload_n 0, 1) := by decide +kernel
theorem dX10_next_59 : decode cX10_next 59 = .ok (.getfield 25, 3) := by decide +kernel
theorem dX10_next_62 : decode cX10_next 62 = .ok (.iload 4, 2) := by decide +kernel
theorem dX10_next_64 : decode cX10_next 64 = .ok (.iaload, 1) := by decide +kernel
theorem dX10_next_65 : decode cX10_next 65 = .ok (.aload_n 0, 1) := by decide +kernel
theorem dX10_next_66 : decode cX10_next 66 = .ok (.getfield 34, 3) := by decide +kernel
theorem dX10_next_69 : decode cX10_next 69 = .ok (.iload_n 1, 1) := by decide +kernel
theorem dX10_next_70 : decode cX10_next 70 = .ok (.iaload, 1) := by decide +kernel
theorem dX10_next_71 : decode cX10_next 71 = .ok (.if_icmp .ge 6, 3) := by decide +kernel
theorem dX10_next_74 : decode cX10_next 74 = .ok (.goto 27, 3) := by decide +kernel
theorem dX10_next_77 : decode cX10_next 77 = .ok (.iload_n 2, 1) := by decide +kernel
theorem dX10_next_78 : decode cX10_next 78 = .ok (.iconst (-1), 1) := by decide +kernel
theorem dX10_next_79 : decode cX10_next 79 = .ok (.if_icmp .eq 19, 3) := by decide +kernel
theorem dX10_next_82 : decode cX10_next 82 = .ok (.aload_n 0, 1) := by decide +kernel
theorem dX10_next_83 : decode cX10_next 83 = .ok (.getfield 25, 3) := by decide +kernel
theorem dX10_next_86 : decode cX10_next 86 = .ok (.iload 4, 2) := by decide +kernel
theorem dX10_next_88 : decode cX10_next 88 = .ok (.iaload, 1) := by decide +kernel
theorem dX10_next_89 : decode cX10_next 89 = .ok (.aload_n 0, 1) := by decide +kernel
theorem dX10_next_90 : decode cX10_next 90 = .ok (.getfield 25, 3) := by decide +kernel
theorem dX10_next_93 : decode cX10_next 93 = .ok (.iload_n 2, 1) := by decide +kernel
theorem dX10_next_94 : decode cX10_next 94 = .ok (.iaload, 1) := by decide +kernel
theorem dX10_next_95 : decode cX10_next 95 = .ok (.if_icmp .le 6, 3) := by decide +kernel
theorem dX10_next_98 : decode cX10_next 98 = .ok (.iload 4, 2) := by decide +kernel
theorem dX10_next_100 : decode cX10_next 100 = .ok (.istore_n 2, 1) := by decide +kernel
theorem dX10_next_101 : decode cX10_next 101 = .ok (.iinc 3 1, 3) := by decide +kernel
theorem dX10_next_104 : decode cX10_next 104 = .ok (.goto (-85), 3) := by decide +kernel
theorem dX10_next_107 : decode cX10_next 107 = .ok (.iload_n 2, 1) := by decide +kernel
theorem dX10_next_108 : decode cX10_next 108 = .ok (.invokestatic 416, 3) := by decide +kernel
theorem dX10_next_111 : decode cX10_next 111 = .ok (.ireturn, 1) := by decide +kernel
theorem dX10_see_0 : decode cX10_see 0 = .ok (.aload_n 0, 1) := by decide +kernel
theorem dX10_see_1 : decode cX10_see 1 = .ok (.iconst 0, 1) := by decide +kernel
theorem dX10_see_2 : decode cX10_see 2 = .ok (.putfield 154, 3) := by decide +kernel
theorem dX10_see_5 : decode cX10_see 5 = .ok (.iload_n 1, 1) := by decide +kernel
theorem dX10_see_6 : decode cX10_see 6 = .ok (.iconst 1, 1) := by decide +kernel
theorem dX10_see_7 : decode cX10_see 7 = .ok (.if_icmp .lt 26, 3) := by decide +kernel
theorem dX10_see_10 : decode cX10_see 10 = .ok (.iload_n 1, 1) := by decide +kernel
theorem dX10_see_11 : decode cX10_see 11 = .ok (.bipush 60, 2) := by decide +kernel
theorem dX10_see_13 : decode cX10_see 13 = .ok (.if_icmp .gt 20, 3) := by decide +kernel
theorem dX10_see_16 : decode cX10_see 16 = .ok (.aload_n 0, 1) := by decide +kernel
theorem dX10_see_17 : decode cX10_see 17 = .ok (.iload_n 2, 1) := by decide +kernel
theorem dX10_see_18 : decode cX10_see 18 = .ok (.invokevirtual 422, 3) := by decide +kernel
theorem dX10_see_21 : decode cX10_see 21 = .ok (.ifCond .eq 12, 3) := by decide +kernel
theorem dX10_see_24 : decode cX10_see 24 = .ok (.aload_n 0, 1) := by decide +kernel
theorem dX10_see_25 : decode cX10_see 25 = .ok (.getfield 304, 3) := by decide +kernel
theorem dX10_see_28 : decode cX10_see 28 = .ok (.bipush 24, 2) := by decide +kernel
theorem dX10_see_30 : decode cX10_see 30 = .ok (.if_icmp .ne 5, 3) := by decide +kernel
theorem dX10_see_33 : decode cX10_see 33 = .ok (.iconst (-1), 1) := by decide +kernel
theorem dX10_see_34 : decode cX10_see 34 = .ok (.ireturn, 1) := by decide +kernel
theorem dX10_see_35 : decode cX10_see 35 = .ok (.aload_n 0, 1) := by decide +kernel
theorem dX10_see_36 : decode cX10_see 36 = .ok (.getfield 135, 3) := by decide +kernel
theorem dX10_see_39 : decode cX10_see 39 = .ok (.aload_n 0, 1) := by decide +kernel
theorem dX10_see_40 : decode cX10_see 40 = .ok (.getfield 304, 3) := by decide +kernel
theorem dX10_see_43 : decode cX10_see 43 = .ok (.iload_n 1, 1) := by decide +kernel
theorem dX10_see_44 : decode cX10_see 44 = .ok (.iastore, 1) := by decide +kernel
theorem dX10_see_45 : decode cX10_see 45 = .ok (.aload_n 0, 1) := by decide +kernel
theorem dX10_see_46 : decode cX10_see 46 = .ok (.getfield 138, 3) := by decide +kernel
theorem dX10_see_49 : decode cX10_see 49 = .ok (.aload_n 0, 1) := by decide +kernel
theorem dX10_see_50 : decode cX10_see 50 = .ok (.getfield 304, 3) := by decide +kernel
theorem dX10_see_53 : decode cX10_see 53 = .ok (.iload_n 2, 1) := by decide +kernel
theorem dX10_see_54 : decode cX10_see 54 = .ok (.iastore, 1) := by decide +kernel
theorem dX10_see_55 : decode cX10_see 55 = .ok (.aload_n 0, 1) := by decide +kernel
theorem dX10_see_56 : decode cX10_see 56 = .ok (.getfield 141, 3) := by decide +kernel
theorem dX10_see_59 : decode cX10_see 59 = .ok (.aload_n 0, 1) := by decide +kernel
theorem dX10_see_60 : decode cX10_see 60 = .ok (.getfield 304, 3) := by decide +kernel
theorem dX10_see_63 : decode cX10_see 63 = .ok (.iload_n 3, 1) := by decide +kernel
theorem dX10_see_64 : decode cX10_see 64 = .ok (.bastore, 1) := by decide +kernel
theorem dX10_see_65 : decode cX10_see 65 = .ok (.aload_n 0, 1) := by decide +kernel
theorem dX10_see_66 : decode cX10_see 66 = .ok (.getfield 145, 3) := by decide +kernel
theorem dX10_see_69 : decode cX10_see 69 = .ok (.aload_n 0, 1) := by decide +kernel
theorem dX10_see_70 : decode cX10_see 70 = .ok (.getfield 304, 3) := by decide +kernel
theorem dX10_see_73 : decode cX10_see 73 = .ok (.iconst (-1), 1) := by decide +kernel
theorem dX10_see_74 : decode cX10_see 74 = .ok (.iastore, 1) := by decide +kernel
theorem dX10_see_75 : decode cX10_see 75 = .ok (.aload_n 0, 1) := by decide +kernel
theorem dX10_see_76 : decode cX10_see 76 = .ok (.dup, 1) := by decide +kernel
theorem dX10_see_77 : decode cX10_see 77 = .ok (.getfield 304, 3) := by decide +kernel
theorem dX10_see_80 : decode cX10_see 80 = .ok (.iconst 1, 1) := by decide +kernel
theorem dX10_see_81 : decode cX10_see 81 = .ok (.iadd, 1) := by decide +kernel
theorem dX10_see_82 : decode cX10_see 82 = .ok (.putfield 304, 3) := by decide +kernel
theorem dX10_see_85 : decode cX10_see 85 = .ok (.aload_n 0, 1) := by decide +kernel
theorem dX10_see_86 : decode cX10_see 86 = .ok (.getfield 304, 3) := by decide +kernel
theorem dX10_see_89 : decode cX10_see 89 = .ok (.iconst 1, 1) := by decide +kernel
theorem dX10_see_90 : decode cX10_see 90 = .ok (.isub, 1) := by decide +kernel
theorem dX10_see_91 : decode cX10_see 91 = .ok (.ireturn, 1) := by decide +kernel
theorem dX10_strike_0 : decode cX10_strike 0 = .ok (.aload_n 0, 1) := by decide +kernel
theorem dX10_strike_1 : decode cX10_strike 1 = .ok (.iconst 0, 1) := by decide +kernel
theorem dX10_strike_2 : decode cX10_strike 2 = .ok (.putfield 154, 3) := by decide +kernel
theorem dX10_strike_5 : decode cX10_strike 5 = .ok (.iload_n 1, 1) := by decide +kernel
theorem dX10_strike_6 : decode cX10_strike 6 = .ok (.ifCond .lt 20, 3) := by decide +kernel
theorem dX10_strike_9 : decode cX10_strike 9 = .ok (.iload_n 1, 1) := by decide +kernel
theorem dX10_strike_10 : decode cX10_strike 10 = .ok (.aload_n 0, 1) := by decide +kernel
theorem dX10_strike_11 : decode cX10_strike 11 = .ok (.getfield 304, 3) := by decide +kernel
theorem dX10_strike_14 : decode cX10_strike 14 = .ok (.if_icmp .ge 12, 3) := by decide +kernel
theorem dX10_strike_17 : decode cX10_strike 17 = .ok (.aload_n 0, 1) := by decide +kernel
theorem dX10_strike_18 : decode cX10_strike 18 = .ok (.getfield 304, 3) := by decide +kernel
theorem dX10_strike_21 : decode cX10_strike 21 = .ok (.bipush 24, 2) := by decide +kernel
theorem dX10_strike_23 : decode cX10_strike 23 = .ok (.if_icmp .ne 5, 3) := by decide +kernel
theorem dX10_strike_26 : decode cX10_strike 26 = .ok (.iconst (-1), 1) := by decide +kernel
theorem dX10_strike_27 : decode cX10_strike 27 = .ok (.ireturn, 1) := by decide +kernel
theorem dX10_strike_28 : decode cX10_strike 28 = .ok (.aload_n 0, 1) := by decide +kernel
theorem dX10_strike_29 : decode cX10_strike 29 = .ok (.getfield 145, 3) := by decide +kernel
theorem dX10_strike_32 : decode cX10_strike 32 = .ok (.aload_n 0, 1) := by decide +kernel
theorem dX10_strike_33 : decode cX10_strike 33 = .ok (.getfield 304, 3) := by decide +kernel
theorem dX10_strike_36 : decode cX10_strike 36 = .ok (.iload_n 1, 1) := by decide +kernel
theorem dX10_strike_37 : decode cX10_strike 37 = .ok (.iastore, 1) := by decide +kernel
theorem dX10_strike_38 : decode cX10_strike 38 = .ok (.aload_n 0, 1) := by decide +kernel
theorem dX10_strike_39 : decode cX10_strike 39 = .ok (.dup, 1) := by decide +kernel
theorem dX10_strike_40 : decode cX10_strike 40 = .ok (.getfield 304, 3) := by decide +kernel
theorem dX10_strike_43 : decode cX10_strike 43 = .ok (.iconst 1, 1) := by decide +kernel
theorem dX10_strike_44 : decode cX10_strike 44 = .ok (.iadd, 1) := by decide +kernel
theorem dX10_strike_45 : decode cX10_strike 45 = .ok (.putfield 304, 3) := by decide +kernel
theorem dX10_strike_48 : decode cX10_strike 48 = .ok (.aload_n 0, 1) := by decide +kernel
theorem dX10_strike_49 : decode cX10_strike 49 = .ok (.getfield 304, 3) := by decide +kernel
theorem dX10_strike_52 : decode cX10_strike 52 = .ok (.iconst 1, 1) := by decide +kernel
theorem dX10_strike_53 : decode cX10_strike 53 = .ok (.isub, 1) := by decide +kernel
theorem dX10_strike_54 : decode cX10_strike 54 = .ok (.ireturn, 1) := by decide +kernel
theorem dX10_known_0 : decode cX10_known 0 = .ok (.aload_n 0, 1) := by decide +kernel
theorem dX10_known_1 : decode cX10_known 1 = .ok (.iconst 0, 1) := by decide +kernel
theorem dX10_known_2 : decode cX10_known 2 = .ok (.putfield 154, 3) := by decide +kernel
theorem dX10_known_5 : decode cX10_known 5 = .ok (.iload_n 1, 1) := by decide +kernel
theorem dX10_known_6 : decode cX10_known 6 = .ok (.iconst (-1), 1) := by decide +kernel
theorem dX10_known_7 : decode cX10_known 7 = .ok (.if_icmp .lt 11, 3) := by decide +kernel
theorem dX10_known_10 : decode cX10_known 10 = .ok (.iload_n 1, 1) := by decide +kernel
theorem dX10_known_11 : decode cX10_known 11 = .ok (.aload_n 0, 1) := by decide +kernel
theorem dX10_known_12 : decode cX10_known 12 = .ok (.getfield 304, 3) := by decide +kernel
theorem dX10_known_15 : decode cX10_known 15 = .ok (.if_icmp .le 5, 3) := by decide +kernel
theorem dX10_known_18 : decode cX10_known 18 = .ok (.iconst 0, 1) := by decide +kernel
theorem dX10_known_19 : decode cX10_known 19 = .ok (.ireturn, 1) := by decide +kernel
theorem dX10_known_20 : decode cX10_known 20 = .ok (.aload_n 0, 1) := by decide +kernel
theorem dX10_known_21 : decode cX10_known 21 = .ok (.iload_n 1, 1) := by decide +kernel
theorem dX10_known_22 : decode cX10_known 22 = .ok (.putfield 132, 3) := by decide +kernel
theorem dX10_known_25 : decode cX10_known 25 = .ok (.iconst 1, 1) := by decide +kernel
theorem dX10_known_26 : decode cX10_known 26 = .ok (.ireturn, 1) := by decide +kernel
theorem dX10_knownMany_0 : decode cX10_knownMany 0 = .ok (.aload_n 0, 1) := by decide +kernel
theorem dX10_knownMany_1 : decode cX10_knownMany 1 = .ok (.getfield 132, 3) := by decide +kernel
theorem dX10_knownMany_4 : decode cX10_knownMany 4 = .ok (.iconst (-1), 1) := by decide +kernel
theorem dX10_knownMany_5 : decode cX10_knownMany 5 = .ok (.if_icmp .ne 10, 3) := by decide +kernel
theorem dX10_knownMany_8 : decode cX10_knownMany 8 = .ok (.aload_n 0, 1) := by decide +kernel
theorem dX10_knownMany_9 : decode cX10_knownMany 9 = .ok (.getfield 304, 3) := by decide +kernel
theorem dX10_knownMany_12 : decode cX10_knownMany 12 = .ok (.goto 7, 3) := by decide +kernel
theorem dX10_knownMany_15 : decode cX10_knownMany 15 = .ok (.aload_n 0, 1) := by decide +kernel
theorem dX10_knownMany_16 : decode cX10_knownMany 16 = .ok (.getfield 132, 3) := by decide +kernel
theorem dX10_knownMany_19 : decode cX10_knownMany 19 = .ok (.ireturn, 1) := by decide +kernel
theorem dX10_isSo_0 : decode cX10_isSo 0 = .ok (.iconst 0, 1) := by decide +kernel
theorem dX10_isSo_1 : decode cX10_isSo 1 = .ok (.istore_n 2, 1) := by decide +kernel
theorem dX10_isSo_2 : decode cX10_isSo 2 = .ok (.iload_n 2, 1) := by decide +kernel
theorem dX10_isSo_3 : decode cX10_isSo 3 = .ok (.aload_n 0, 1) := by decide +kernel
theorem dX10_isSo_4 : decode cX10_isSo 4 = .ok (.invokevirtual 481, 3) := by decide +kernel
theorem dX10_isSo_7 : decode cX10_isSo 7 = .ok (.if_icmp .ge 75, 3) := by decide +kernel
theorem dX10_isSo_10 : decode cX10_isSo 10 = .ok (.aload_n 0, 1) := by decide +kernel
theorem dX10_isSo_11 : decode cX10_isSo 11 = .ok (.getfield 148, 3) := by decide +kernel
theorem dX10_isSo_14 : decode cX10_isSo 14 = .ok (.iload_n 2, 1) := by decide +kernel
theorem dX10_isSo_15 : decode cX10_isSo 15 = .ok (.baload, 1) := by decide +kernel
theorem dX10_isSo_16 : decode cX10_isSo 16 = .ok (.ifCond .ne 60, 3) := by decide +kernel
theorem dX10_isSo_19 : decode cX10_isSo 19 = .ok (.aload_n 0, 1) := by decide +kernel
theorem dX10_isSo_20 : decode cX10_isSo 20 = .ok (.getfield 145, 3) := by decide +kernel
theorem dX10_isSo_23 : decode cX10_isSo 23 = .ok (.iload_n 2, 1) := by decide +kernel
theorem dX10_isSo_24 : decode cX10_isSo 24 = .ok (.iaload, 1) := by decide +kernel
theorem dX10_isSo_25 : decode cX10_isSo 25 = .ok (.iconst (-1), 1) := by decide +kernel
theorem dX10_isSo_26 : decode cX10_isSo 26 = .ok (.if_icmp .ne 50, 3) := by decide +kernel
theorem dX10_isSo_29 : decode cX10_isSo 29 = .ok (.aload_n 0, 1) := by decide +kernel
theorem dX10_isSo_30 : decode cX10_isSo 30 = .ok (.getfield 135, 3) := by decide +kernel
theorem dX10_isSo_33 : decode cX10_isSo 33 = .ok (.iload_n 2, 1) := by decide +kernel
theorem dX10_isSo_34 : decode cX10_isSo 34 = .ok (.iaload, 1) := by decide +kernel
theorem dX10_isSo_35 : decode cX10_isSo 35 = .ok (.iload_n 1, 1) := by decide +kernel
theorem dX10_isSo_36 : decode cX10_isSo 36 = .ok (.if_icmp .eq 6, 3) := by decide +kernel
theorem dX10_isSo_39 : decode cX10_isSo 39 = .ok (.goto 37, 3) := by decide +kernel
theorem dX10_isSo_42 : decode cX10_isSo 42 = .ok (.aload_n 0, 1) := by decide +kernel
theorem dX10_isSo_43 : decode cX10_isSo 43 = .ok (.getfield 108, 3) := by decide +kernel
theorem dX10_isSo_46 : decode cX10_isSo 46 = .ok (.bipush 8, 2) := by decide +kernel
theorem dX10_isSo_48 : decode cX10_isSo 48 = .ok (.aload_n 0, 1) := by decide +kernel
theorem dX10_isSo_49 : decode cX10_isSo 49 = .ok (.getfield 138, 3) := by decide +kernel
theorem dX10_isSo_52 : decode cX10_isSo 52 = .ok (.iload_n 2, 1) := by decide +kernel
theorem dX10_isSo_53 : decode cX10_isSo 53 = .ok (.iaload, 1) := by decide +kernel
theorem dX10_isSo_54 : decode cX10_isSo 54 = .ok (.iadd, 1) := by decide +kernel
theorem dX10_isSo_55 : decode cX10_isSo 55 = .ok (.iaload, 1) := by decide +kernel
theorem dX10_isSo_56 : decode cX10_isSo 56 = .ok (.iconst 2, 1) := by decide +kernel
theorem dX10_isSo_57 : decode cX10_isSo 57 = .ok (.if_icmp .ne 7, 3) := by decide +kernel
theorem dX10_isSo_60 : decode cX10_isSo 60 = .ok (.iconst 1, 1) := by decide +kernel
theorem dX10_isSo_61 : decode cX10_isSo 61 = .ok (.goto 4, 3) := by decide +kernel
theorem dX10_isSo_64 : decode cX10_isSo 64 = .ok (.iconst 0, 1) := by decide +kernel
theorem dX10_isSo_65 : decode cX10_isSo 65 = .ok (.aload_n 0, 1) := by decide +kernel
theorem dX10_isSo_66 : decode cX10_isSo 66 = .ok (.getfield 141, 3) := by decide +kernel
theorem dX10_isSo_69 : decode cX10_isSo 69 = .ok (.iload_n 2, 1) := by decide +kernel
theorem dX10_isSo_70 : decode cX10_isSo 70 = .ok (.baload, 1) := by decide +kernel
theorem dX10_isSo_71 : decode cX10_isSo 71 = .ok (.if_icmp .eq 5, 3) := by decide +kernel
theorem dX10_isSo_74 : decode cX10_isSo 74 = .ok (.iconst 0, 1) := by decide +kernel
theorem dX10_isSo_75 : decode cX10_isSo 75 = .ok (.ireturn, 1) := by decide +kernel
theorem dX10_isSo_76 : decode cX10_isSo 76 = .ok (.iinc 2 1, 3) := by decide +kernel
theorem dX10_isSo_79 : decode cX10_isSo 79 = .ok (.goto (-77), 3) := by decide +kernel
theorem dX10_isSo_82 : decode cX10_isSo 82 = .ok (.iconst 1, 1) := by decide +kernel
theorem dX10_isSo_83 : decode cX10_isSo 83 = .ok (.ireturn, 1) := by decide +kernel
theorem dX10_fitsRue_0 : decode cX10_fitsRue 0 = .ok (.aload_n 0, 1) := by decide +kernel
theorem dX10_fitsRue_1 : decode cX10_fitsRue 1 = .ok (.iconst 1, 1) := by decide +kernel
theorem dX10_fitsRue_2 : decode cX10_fitsRue 2 = .ok (.invokevirtual 334, 3) := by decide +kernel
theorem dX10_fitsRue_5 : decode cX10_fitsRue 5 = .ok (.aload_n 0, 1) := by decide +kernel
theorem dX10_fitsRue_6 : decode cX10_fitsRue 6 = .ok (.getfield 87, 3) := by decide +kernel
theorem dX10_fitsRue_9 : decode cX10_fitsRue 9 = .ok (.bipush 6, 2) := by decide +kernel
theorem dX10_fitsRue_11 : decode cX10_fitsRue 11 = .ok (.iload_n 1, 1) := by decide +kernel
theorem dX10_fitsRue_12 : decode cX10_fitsRue 12 = .ok (.iadd, 1) := by decide +kernel
theorem dX10_fitsRue_13 : decode cX10_fitsRue 13 = .ok (.iload_n 2, 1) := by decide +kernel
theorem dX10_fitsRue_14 : decode cX10_fitsRue 14 = .ok (.iastore, 1) := by decide +kernel
theorem dX10_fitsRue_15 : decode cX10_fitsRue 15 = .ok (.iconst 1, 1) := by decide +kernel
theorem dX10_fitsRue_16 : decode cX10_fitsRue 16 = .ok (.istore 4, 2) := by decide +kernel
theorem dX10_fitsRue_18 : decode cX10_fitsRue 18 = .ok (.iload 4, 2) := by decide +kernel
theorem dX10_fitsRue_20 : decode cX10_fitsRue 20 = .ok (.iload_n 3, 1) := by decide +kernel
theorem dX10_fitsRue_21 : decode cX10_fitsRue 21 = .ok (.if_icmp .gt 26, 3) := by decide +kernel
theorem dX10_fitsRue_24 : decode cX10_fitsRue 24 = .ok (.aload_n 0, 1) := by decide +kernel
theorem dX10_fitsRue_25 : decode cX10_fitsRue 25 = .ok (.iconst 1, 1) := by decide +kernel
theorem dX10_fitsRue_26 : decode cX10_fitsRue 26 = .ok (.iconst 0, 1) := by decide +kernel
theorem dX10_fitsRue_27 : decode cX10_fitsRue 27 = .ok (.invokevirtual 403, 3) := by decide +kernel
theorem dX10_fitsRue_30 : decode cX10_fitsRue 30 = .ok (.aload_n 0, 1) := by decide +kernel
theorem dX10_fitsRue_31 : decode cX10_fitsRue 31 = .ok (.iload 4, 2) := by decide +kernel
theorem dX10_fitsRue_33 : decode cX10_fitsRue 33 = .ok (.invokevirtual 484, 3) := by decide +kernel
theorem dX10_fitsRue_36 : decode cX10_fitsRue 36 = .ok (.ifCond .ne 5, 3) := by decide +kernel
theorem dX10_fitsRue_39 : decode cX10_fitsRue 39 = .ok (.iconst 0, 1) := by decide +kernel
theorem dX10_fitsRue_40 : decode cX10_fitsRue 40 = .ok (.ireturn, 1) := by decide +kernel
theorem dX10_fitsRue_41 : decode cX10_fitsRue 41 = .ok (.iinc 4 1, 3) := by decide +kernel
theorem dX10_fitsRue_44 : decode cX10_fitsRue 44 = .ok (.goto (-26), 3) := by decide +kernel
theorem dX10_fitsRue_47 : decode cX10_fitsRue 47 = .ok (.iconst 1, 1) := by decide +kernel
theorem dX10_fitsRue_48 : decode cX10_fitsRue 48 = .ok (.ireturn, 1) := by decide +kernel
theorem dX10_rues_0 : decode cX10_rues 0 = .ok (.aload_n 0, 1) := by decide +kernel
theorem dX10_rues_1 : decode cX10_rues 1 = .ok (.iconst 0, 1) := by decide +kernel
theorem dX10_rues_2 : decode cX10_rues 2 = .ok (.putfield 154, 3) := by decide +kernel
theorem dX10_rues_5 : decode cX10_rues 5 = .ok (.aload_n 0, 1) := by decide +kernel
theorem dX10_rues_6 : decode cX10_rues 6 = .ok (.iload_n 1, 1) := by decide +kernel
theorem dX10_rues_7 : decode cX10_rues 7 = .ok (.invokevirtual 413, 3) := by decide +kernel
theorem dX10_rues_10 : decode cX10_rues 10 = .ok (.ifCond .ne 5, 3) := by decide +kernel
theorem dX10_rues_13 : decode cX10_rues 13 = .ok (.iconst (-1), 1) := by decide +kernel
theorem dX10_rues_14 : decode cX10_rues 14 = .ok (.ireturn, 1) := by decide +kernel
theorem dX10_rues_15 : decode cX10_rues 15 = .ok (.iconst 0, 1) := by decide +kernel
theorem dX10_rues_16 : decode cX10_rues 16 = .ok (.istore_n 2, 1) := by decide +kernel
theorem dX10_rues_17 : decode cX10_rues 17 = .ok (.iconst 0, 1) := by decide +kernel
theorem dX10_rues_18 : decode cX10_rues 18 = .ok (.istore_n 3, 1) := by decide +kernel
theorem dX10_rues_19 : decode cX10_rues 19 = .ok (.iload_n 3, 1) := by decide +kernel
theorem dX10_rues_20 : decode cX10_rues 20 = .ok (.aload_n 0, 1) := by decide +kernel
theorem dX10_rues_21 : decode cX10_rues 21 = .ok (.invokevirtual 481, 3) := by decide +kernel
theorem dX10_rues_24 : decode cX10_rues 24 = .ok (.if_icmp .ge 16, 3) := by decide +kernel
theorem dX10_rues_27 : decode cX10_rues 27 = .ok (.aload_n 0, 1) := by decide +kernel
theorem dX10_rues_28 : decode cX10_rues 28 = .ok (.getfield 148, 3) := by decide +kernel
theorem dX10_rues_31 : decode cX10_rues 31 = .ok (.iload_n 3, 1) := by decide +kernel
theorem dX10_rues_32 : decode cX10_rues 32 = .ok (.iconst 0, 1) := by decide +kernel
theorem dX10_rues_33 : decode cX10_rues 33 = .ok (.bastore, 1) := by decide +kernel
theorem dX10_rues_34 : decode cX10_rues 34 = .ok (.iinc 3 1, 3) := by decide +kernel
theorem dX10_rues_37 : decode cX10_rues 37 = .ok (.goto (-18), 3) := by decide +kernel
theorem dX10_rues_40 : decode cX10_rues 40 = .ok (.aload_n 0, 1) := by decide +kernel
theorem dX10_rues_41 : decode cX10_rues 41 = .ok (.invokevirtual 481, 3) := by decide +kernel
theorem dX10_rues_44 : decode cX10_rues 44 = .ok (.iconst 1, 1) := by decide +kernel
theorem dX10_rues_45 : decode cX10_rues 45 = .ok (.isub, 1) := by decide +kernel
theorem dX10_rues_46 : decode cX10_rues 46 = .ok (.istore_n 3, 1) := by decide +kernel
theorem dX10_rues_47 : decode cX10_rues 47 = .ok (.iload_n 3, 1) := by decide +kernel
theorem dX10_rues_48 : decode cX10_rues 48 = .ok (.ifCond .lt 40, 3) := by decide +kernel
theorem dX10_rues_51 : decode cX10_rues 51 = .ok (.aload_n 0, 1) := by decide +kernel
theorem dX10_rues_52 : decode cX10_rues 52 = .ok (.getfield 148, 3) := by decide +kernel
theorem dX10_rues_55 : decode cX10_rues 55 = .ok (.iload_n 3, 1) := by decide +kernel
theorem dX10_rues_56 : decode cX10_rues 56 = .ok (.baload, 1) := by decide +kernel
theorem dX10_rues_57 : decode cX10_rues 57 = .ok (.ifCond .ne 25, 3) := by decide +kernel
theorem dX10_rues_60 : decode cX10_rues 60 = .ok (.aload_n 0, 1) := by decide +kernel
theorem dX10_rues_61 : decode cX10_rues 61 = .ok (.getfield 145, 3) := by decide +kernel
theorem dX10_rues_64 : decode cX10_rues 64 = .ok (.iload_n 3, 1) := by decide +kernel
theorem dX10_rues_65 : decode cX10_rues 65 = .ok (.iaload, 1) := by decide +kernel
theorem dX10_rues_66 : decode cX10_rues 66 = .ok (.iconst (-1), 1) := by decide +kernel
theorem dX10_rues_67 : decode cX10_rues 67 = .ok (.if_icmp .eq 15, 3) := by decide +kernel
theorem dX10_rues_70 : decode cX10_rues 70 = .ok (.aload_n 0, 1) := by decide +kernel
theorem dX10_rues_71 : decode cX10_rues 71 = .ok (.getfield 148, 3) := by decide +kernel
theorem dX10_rues_74 : decode cX10_rues 74 = .ok (.aload_n 0, 1) := by decide +kernel
theorem dX10_rues_75 : decode cX10_rues 75 = .ok (.getfield 145, 3) := by decide +kernel
theorem dX10_rues_78 : decode cX10_rues 78 = .ok (.iload_n 3, 1) := by decide +kernel
theorem dX10_rues_79 : decode cX10_rues 79 = .ok (.iaload, 1) := by decide +kernel
theorem dX10_rues_80 : decode cX10_rues 80 = .ok (.iconst 1, 1) := by decide +kernel
theorem dX10_rues_81 : decode cX10_rues 81 = .ok (.bastore, 1) := by decide +kernel
theorem dX10_rues_82 : decode cX10_rues 82 = .ok (.iinc 3 (-1), 3) := by decide +kernel
theorem dX10_rues_85 : decode cX10_rues 85 = .ok (.goto (-38), 3) := by decide +kernel
theorem dX10_rues_88 : decode cX10_rues 88 = .ok (.iconst 0, 1) := by decide +kernel
theorem dX10_rues_89 : decode cX10_rues 89 = .ok (.istore_n 3, 1) := by decide +kernel
theorem dX10_rues_90 : decode cX10_rues 90 = .ok (.iload_n 3, 1) := by decide +kernel
theorem dX10_rues_91 : decode cX10_rues 91 = .ok (.aload_n 0, 1) := by decide +kernel
theorem dX10_rues_92 : decode cX10_rues 92 = .ok (.invokevirtual 481, 3) := by decide +kernel
theorem dX10_rues_95 : decode cX10_rues 95 = .ok (.if_icmp .ge 39, 3) := by decide +kernel
theorem dX10_rues_98 : decode cX10_rues 98 = .ok (.aload_n 0, 1) := by decide +kernel
theorem dX10_rues_99 : decode cX10_rues 99 = .ok (.getfield 148, 3) := by decide +kernel
theorem dX10_rues_102 : decode cX10_rues 102 = .ok (.iload_n 3, 1) := by decide +kernel
theorem dX10_rues_103 : decode cX10_rues 103 = .ok (.baload, 1) := by decide +kernel
theorem dX10_rues_104 : decode cX10_rues 104 = .ok (.ifCond .ne 24, 3) := by decide +kernel
theorem dX10_rues_107 : decode cX10_rues 107 = .ok (.aload_n 0, 1) := by decide +kernel
theorem dX10_rues_108 : decode cX10_rues 108 = .ok (.getfield 145, 3) := by decide +kernel
theorem dX10_rues_111 : decode cX10_rues 111 = .ok (.iload_n 3, 1) := by decide +kernel
theorem dX10_rues_112 : decode cX10_rues 112 = .ok (.iaload, 1) := by decide +kernel
theorem dX10_rues_113 : decode cX10_rues 113 = .ok (.iconst (-1), 1) := by decide +kernel
theorem dX10_rues_114 : decode cX10_rues 114 = .ok (.if_icmp .ne 14, 3) := by decide +kernel
theorem dX10_rues_117 : decode cX10_rues 117 = .ok (.iload_n 2, 1) := by decide +kernel
theorem dX10_rues_118 : decode cX10_rues 118 = .ok (.aload_n 0, 1) := by decide +kernel
theorem dX10_rues_119 : decode cX10_rues 119 = .ok (.getfield 135, 3) := by decide +kernel
theorem dX10_rues_122 : decode cX10_rues 122 = .ok (.iload_n 3, 1) := by decide +kernel
theorem dX10_rues_123 : decode cX10_rues 123 = .ok (.iaload, 1) := by decide +kernel
theorem dX10_rues_124 : decode cX10_rues 124 = .ok (.invokestatic 391, 3) := by decide +kernel
theorem dX10_rues_127 : decode cX10_rues 127 = .ok (.istore_n 2, 1) := by decide +kernel
theorem dX10_rues_128 : decode cX10_rues 128 = .ok (.iinc 3 1, 3) := by decide +kernel
theorem dX10_rues_131 : decode cX10_rues 131 = .ok (.goto (-41), 3) := by decide +kernel
theorem dX10_rues_134 : decode cX10_rues 134 = .ok (.iconst 0, 1) := by decide +kernel
theorem dX10_rues_135 : decode cX10_rues 135 = .ok (.istore_n 3, 1) := by decide +kernel
theorem dX10_rues_136 : decode cX10_rues 136 = .ok (.iconst 0, 1) := by decide +kernel
theorem dX10_rues_137 : decode cX10_rues 137 = .ok (.istore 4, 2) := by decide +kernel
theorem dX10_rues_139 : decode cX10_rues 139 = .ok (.iload 4, 2) := by decide +kernel
theorem dX10_rues_141 : decode cX10_rues 141 = .ok (.bipush 10, 2) := by decide +kernel
theorem dX10_rues_143 : decode cX10_rues 143 = .ok (.if_icmp .ge 34, 3) := by decide +kernel
theorem dX10_rues_146 : decode cX10_rues 146 = .ok (.iload_n 3, 1) := by decide +kernel
theorem dX10_rues_147 : decode cX10_rues 147 = .ok (.aload_n 0, 1) := by decide +kernel
theorem dX10_rues_148 : decode cX10_rues 148 = .ok (.iload_n 1, 1) := by decide +kernel
theorem dX10_rues_149 : decode cX10_rues 149 = .ok (.bipush 10, 2) := by decide +kernel
theorem dX10_rues_151 : decode cX10_rues 151 = .ok (.iload 4, 2) := by decide +kernel
theorem dX10_rues_153 : decode cX10_rues 153 = .ok (.imul, 1) := by decide +kernel
theorem dX10_rues_154 : decode cX10_rues 154 = .ok (.iload_n 2, 1) := by decide +kernel
theorem dX10_rues_155 : decode cX10_rues 155 = .ok (.invokevirtual 487, 3) := by decide +kernel
theorem dX10_rues_158 : decode cX10_rues 158 = .ok (.ifCond .eq 10, 3) := by decide +kernel
theorem dX10_rues_161 : decode cX10_rues 161 = .ok (.iconst 1, 1) := by decide +kernel
theorem dX10_rues_162 : decode cX10_rues 162 = .ok (.iload 4, 2) := by decide +kernel
theorem dX10_rues_164 : decode cX10_rues 164 = .ok (.ishl, 1) := by decide +kernel
theorem dX10_rues_165 : decode cX10_rues 165 = .ok (.goto 4, 3) := by decide +kernel
theorem dX10_rues_168 : decode cX10_rues 168 = .ok (.iconst 0, 1) := by decide +kernel
theorem dX10_rues_169 : decode cX10_rues 169 = .ok (.ior, 1) := by decide +kernel
theorem dX10_rues_170 : decode cX10_rues 170 = .ok (.istore_n 3, 1) := by decide +kernel
theorem dX10_rues_171 : decode cX10_rues 171 = .ok (.iinc 4 1, 3) := by decide +kernel
theorem dX10_rues_174 : decode cX10_rues 174 = .ok (.goto (-35), 3) := by decide +kernel
theorem dX10_rues_177 : decode cX10_rues 177 = .ok (.iload_n 3, 1) := by decide +kernel
theorem dX10_rues_178 : decode cX10_rues 178 = .ok (.ireturn, 1) := by decide +kernel
theorem dX10_chance_0 : decode cX10_chance 0 = .ok (.aload_n 0, 1) := by decide +kernel
theorem dX10_chance_1 : decode cX10_chance 1 = .ok (.iconst 0, 1) := by decide +kernel
theorem dX10_chance_2 : decode cX10_chance 2 = .ok (.putfield 154, 3) := by decide +kernel
theorem dX10_chance_5 : decode cX10_chance 5 = .ok (.iload_n 1, 1) := by decide +kernel
theorem dX10_chance_6 : decode cX10_chance 6 = .ok (.ifCond .lt 24, 3) := by decide +kernel
theorem dX10_chance_9 : decode cX10_chance 9 = .ok (.iload_n 2, 1) := by decide +kernel
theorem dX10_chance_10 : decode cX10_chance 10 = .ok (.iconst 1, 1) := by decide +kernel
theorem dX10_chance_11 : decode cX10_chance 11 = .ok (.if_icmp .lt 19, 3) := by decide +kernel
theorem dX10_chance_14 : decode cX10_chance 14 = .ok (.iload_n 2, 1) := by decide +kernel
theorem dX10_chance_15 : decode cX10_chance 15 = .ok (.bipush 99, 2) := by decide +kernel
theorem dX10_chance_17 : decode cX10_chance 17 = .ok (.if_icmp .gt 13, 3) := by decide +kernel
theorem dX10_chance_20 : decode cX10_chance 20 = .ok (.iload_n 3, 1) := by decide +kernel
theorem dX10_chance_21 : decode cX10_chance 21 = .ok (.ifCond .lt 9, 3) := by decide +kernel
theorem dX10_chance_24 : decode cX10_chance 24 = .ok (.iload_n 3, 1) := by decide +kernel
theorem dX10_chance_25 : decode cX10_chance 25 = .ok (.bipush 8, 2) := by decide +kernel
theorem dX10_chance_27 : decode cX10_chance 27 = .ok (.if_icmp .le 5, 3) := by decide +kernel
theorem dX10_chance_30 : decode cX10_chance 30 = .ok (.iconst (-1), 1) := by decide +kernel
theorem dX10_chance_31 : decode cX10_chance 31 = .ok (.ireturn, 1) := by decide +kernel
theorem dX10_chance_32 : decode cX10_chance 32 = .ok (.iload_n 1, 1) := by decide +kernel
theorem dX10_chance_33 : decode cX10_chance 33 = .ok (.istore 4, 2) := by decide +kernel
theorem dX10_chance_35 : decode cX10_chance 35 = .ok (.iconst 0, 1) := by decide +kernel
theorem dX10_chance_36 : decode cX10_chance 36 = .ok (.istore 5, 2) := by decide +kernel
theorem dX10_chance_38 : decode cX10_chance 38 = .ok (.iconst 0, 1) := by decide +kernel
theorem dX10_chance_39 : decode cX10_chance 39 = .ok (.istore 6, 2) := by decide +kernel
theorem dX10_chance_41 : decode cX10_chance 41 = .ok (.iload 6, 2) := by decide +kernel
theorem dX10_chance_43 : decode cX10_chance 43 = .ok (.bipush 10, 2) := by decide +kernel
theorem dX10_chance_45 : decode cX10_chance 45 = .ok (.if_icmp .ge 72, 3) := by decide +kernel
theorem dX10_chance_48 : decode cX10_chance 48 = .ok (.aload_n 0, 1) := by decide +kernel
theorem dX10_chance_49 : decode cX10_chance 49 = .ok (.iconst 1, 1) := by decide +kernel
theorem dX10_chance_50 : decode cX10_chance 50 = .ok (.iconst 0, 1) := by decide +kernel
theorem dX10_chance_51 : decode cX10_chance 51 = .ok (.invokevirtual 407, 3) := by decide +kernel
theorem dX10_chance_54 : decode cX10_chance 54 = .ok (.aload_n 0, 1) := by decide +kernel
theorem dX10_chance_55 : decode cX10_chance 55 = .ok (.getfield 75, 3) := by decide +kernel
theorem dX10_chance_58 : decode cX10_chance 58 = .ok (.iconst 1, 1) := by decide +kernel
theorem dX10_chance_59 : decode cX10_chance 59 = .ok (.iload 4, 2) := by decide +kernel
theorem dX10_chance_61 : decode cX10_chance 61 = .ok (.iastore, 1) := by decide +kernel
theorem dX10_chance_62 : decode cX10_chance 62 = .ok (.iconst 0, 1) := by decide +kernel
theorem dX10_chance_63 : decode cX10_chance 63 = .ok (.istore 7, 2) := by decide +kernel
theorem dX10_chance_65 : decode cX10_chance 65 = .ok (.iload 7, 2) := by decide +kernel
theorem dX10_chance_67 : decode cX10_chance 67 = .ok (.iload_n 2, 1) := by decide +kernel
theorem dX10_chance_68 : decode cX10_chance 68 = .ok (.if_icmp .ge 15, 3) := by decide +kernel
theorem dX10_chance_71 : decode cX10_chance 71 = .ok (.aload_n 0, 1) := by decide +kernel
theorem dX10_chance_72 : decode cX10_chance 72 = .ok (.iconst 1, 1) := by decide +kernel
theorem dX10_chance_73 : decode cX10_chance 73 = .ok (.iconst 1, 1) := by decide +kernel
theorem dX10_chance_74 : decode cX10_chance 74 = .ok (.invokevirtual 403, 3) := by decide +kernel
theorem dX10_chance_77 : decode cX10_chance 77 = .ok (.iinc 7 1, 3) := by decide +kernel
theorem dX10_chance_80 : decode cX10_chance 80 = .ok (.goto (-15), 3) := by decide +kernel
theorem dX10_chance_83 : decode cX10_chance 83 = .ok (.aload_n 0, 1) := by decide +kernel
theorem dX10_chance_84 : decode cX10_chance 84 = .ok (.getfield 75, 3) := by decide +kernel
theorem dX10_chance_87 : decode cX10_chance 87 = .ok (.iconst 1, 1) := by decide +kernel
theorem dX10_chance_88 : decode cX10_chance 88 = .ok (.iaload, 1) := by decide +kernel
theorem dX10_chance_89 : decode cX10_chance 89 = .ok (.istore 4, 2) := by decide +kernel
theorem dX10_chance_91 : decode cX10_chance 91 = .ok (.iload 5, 2) := by decide +kernel
theorem dX10_chance_93 : decode cX10_chance 93 = .ok (.aload_n 0, 1) := by decide +kernel
theorem dX10_chance_94 : decode cX10_chance 94 = .ok (.iconst 1, 1) := by decide +kernel
theorem dX10_chance_95 : decode cX10_chance 95 = .ok (.iconst 2, 1) := by decide +kernel
theorem dX10_chance_96 : decode cX10_chance 96 = .ok (.invokevirtual 435, 3) := by decide +kernel
theorem dX10_chance_99 : decode cX10_chance 99 = .ok (.iload_n 3, 1) := by decide +kernel
theorem dX10_chance_100 : decode cX10_chance 100 = .ok (.if_icmp .lt 7, 3) := by decide +kernel
theorem dX10_chance_103 : decode cX10_chance 103 = .ok (.iconst 1, 1) := by decide +kernel
theorem dX10_chance_104 : decode cX10_chance 104 = .ok (.goto 4, 3) := by decide +kernel
theorem dX10_chance_107 : decode cX10_chance 107 = .ok (.iconst 0, 1) := by decide +kernel
theorem dX10_chance_108 : decode cX10_chance 108 = .ok (.iadd, 1) := by decide +kernel
theorem dX10_chance_109 : decode cX10_chance 109 = .ok (.istore 5, 2) := by decide +kernel
theorem dX10_chance_111 : decode cX10_chance 111 = .ok (.iinc 6 1, 3) := by decide +kernel
theorem dX10_chance_114 : decode cX10_chance 114 = .ok (.goto (-73), 3) := by decide +kernel
theorem dX10_chance_117 : decode cX10_chance 117 = .ok (.iload 5, 2) := by decide +kernel
theorem dX10_chance_119 : decode cX10_chance 119 = .ok (.ireturn, 1) := by decide +kernel
theorem dX10_tried_0 : decode cX10_tried 0 = .ok (.aload_n 0, 1) := by decide +kernel
theorem dX10_tried_1 : decode cX10_tried 1 = .ok (.iconst 0, 1) := by decide +kernel
theorem dX10_tried_2 : decode cX10_tried 2 = .ok (.putfield 154, 3) := by decide +kernel
theorem dX10_tried_5 : decode cX10_tried 5 = .ok (.iload_n 1, 1) := by decide +kernel
theorem dX10_tried_6 : decode cX10_tried 6 = .ok (.iconst 2, 1) := by decide +kernel
theorem dX10_tried_7 : decode cX10_tried 7 = .ok (.if_icmp .ne 11, 3) := by decide +kernel
theorem dX10_tried_10 : decode cX10_tried 10 = .ok (.aload_n 0, 1) := by decide +kernel
theorem dX10_tried_11 : decode cX10_tried 11 = .ok (.iload_n 2, 1) := by decide +kernel
theorem dX10_tried_12 : decode cX10_tried 12 = .ok (.invokevirtual 413, 3) := by decide +kernel
theorem dX10_tried_15 : decode cX10_tried 15 = .ok (.goto 21, 3) := by decide +kernel
theorem dX10_tried_18 : decode cX10_tried 18 = .ok (.iload_n 1, 1) := by decide +kernel
theorem dX10_tried_19 : decode cX10_tried 19 = .ok (.ifCond .lt 16, 3) := by decide +kernel
theorem dX10_tried_22 : decode cX10_tried 22 = .ok (.iload_n 1, 1) := by decide +kernel
theorem dX10_tried_23 : decode cX10_tried 23 = .ok (.iconst 5, 1) := by decide +kernel
theorem dX10_tried_24 : decode cX10_tried 24 = .ok (.if_icmp .gt 11, 3) := by decide +kernel
theorem dX10_tried_27 : decode cX10_tried 27 = .ok (.iload_n 2, 1) := by decide +kernel
theorem dX10_tried_28 : decode cX10_tried 28 = .ok (.ifCond .ne 7, 3) := by decide +kernel
theorem dX10_tried_31 : decode cX10_tried 31 = .ok (.iconst 1, 1) := by decide +kernel
theorem dX10_tried_32 : decode cX10_tried 32 = .ok (.goto 4, 3) := by decide +kernel
theorem dX10_tried_35 : decode cX10_tried 35 = .ok (.iconst 0, 1) := by decide +kernel
theorem dX10_tried_36 : decode cX10_tried 36 = .ok (.istore 4, 2) := by decide +kernel
theorem dX10_tried_38 : decode cX10_tried 38 = .ok (.iload 4, 2) := by decide +kernel
theorem dX10_tried_40 : decode cX10_tried 40 = .ok (.ifCond .eq 13, 3) := by decide +kernel
theorem dX10_tried_43 : decode cX10_tried 43 = .ok (.iload_n 3, 1) := by decide +kernel
theorem dX10_tried_44 : decode cX10_tried 44 = .ok (.ifCond .lt 9, 3) := by decide +kernel
theorem dX10_tried_47 : decode cX10_tried 47 = .ok (.iload_n 3, 1) := by decide +kernel
theorem dX10_tried_48 : decode cX10_tried 48 = .ok (.bipush 99, 2) := by decide +kernel
theorem dX10_tried_50 : decode cX10_tried 50 = .ok (.if_icmp .le 5, 3) := by decide +kernel
theorem dX10_tried_53 : decode cX10_tried 53 = .ok (.iconst (-1), 1) := by decide +kernel
theorem dX10_tried_54 : decode cX10_tried 54 = .ok (.ireturn, 1) := by decide +kernel
theorem dX10_tried_55 : decode cX10_tried 55 = .ok (.aload_n 0, 1) := by decide +kernel
theorem dX10_tried_56 : decode cX10_tried 56 = .ok (.iload_n 1, 1) := by decide +kernel
theorem dX10_tried_57 : decode cX10_tried 57 = .ok (.putfield 360, 3) := by decide +kernel
theorem dX10_tried_60 : decode cX10_tried 60 = .ok (.aload_n 0, 1) := by decide +kernel
theorem dX10_tried_61 : decode cX10_tried 61 = .ok (.iload_n 2, 1) := by decide +kernel
theorem dX10_tried_62 : decode cX10_tried 62 = .ok (.putfield 114, 3) := by decide +kernel
theorem dX10_tried_65 : decode cX10_tried 65 = .ok (.aload_n 0, 1) := by decide +kernel
theorem dX10_tried_66 : decode cX10_tried 66 = .ok (.iload_n 3, 1) := by decide +kernel
theorem dX10_tried_67 : decode cX10_tried 67 = .ok (.invokevirtual 432, 3) := by decide +kernel
theorem dX10_tried_70 : decode cX10_tried 70 = .ok (.aload_n 0, 1) := by decide +kernel
theorem dX10_tried_71 : decode cX10_tried 71 = .ok (.iconst 0, 1) := by decide +kernel
theorem dX10_tried_72 : decode cX10_tried 72 = .ok (.putfield 360, 3) := by decide +kernel
theorem dX10_tried_75 : decode cX10_tried 75 = .ok (.aload_n 0, 1) := by decide +kernel
theorem dX10_tried_76 : decode cX10_tried 76 = .ok (.iconst (-1), 1) := by decide +kernel
theorem dX10_tried_77 : decode cX10_tried 77 = .ok (.putfield 114, 3) := by decide +kernel
theorem dX10_tried_80 : decode cX10_tried 80 = .ok (.aload_n 0, 1) := by decide +kernel
theorem dX10_tried_81 : decode cX10_tried 81 = .ok (.iconst 1, 1) := by decide +kernel
theorem dX10_tried_82 : decode cX10_tried 82 = .ok (.iconst 2, 1) := by decide +kernel
theorem dX10_tried_83 : decode cX10_tried 83 = .ok (.invokevirtual 435, 3) := by decide +kernel
theorem dX10_tried_86 : decode cX10_tried 86 = .ok (.aload_n 0, 1) := by decide +kernel
theorem dX10_tried_87 : decode cX10_tried 87 = .ok (.iconst 0, 1) := by decide +kernel
