theorem dX2_init_0 : decode cX2_init 0 = .ok (.aload_n 0, 1) := by decide +kernel
theorem dX2_init_1 : decode cX2_init 1 = .ok (.invokespecial 3, 3) := by decide +kernel
theorem dX2_init_4 : decode cX2_init 4 = .ok (.aload_n 0, 1) := by decide +kernel
theorem dX2_init_5 : decode cX2_init 5 = .ok (.sipush 1792, 3) := by decide +kernel
theorem dX2_init_8 : decode cX2_init 8 = .ok (.newarray .int, 2) := by decide +kernel
theorem dX2_init_10 : decode cX2_init 10 = .ok (.putfield 11, 3) := by decide +kernel
theorem dX2_init_13 : decode cX2_init 13 = .ok (.aload_n 0, 1) := by decide +kernel
theorem dX2_init_14 : decode cX2_init 14 = .ok (.bipush 6, 2) := by decide +kernel
theorem dX2_init_16 : decode cX2_init 16 = .ok (.newarray .int, 2) := by decide +kernel
theorem dX2_init_18 : decode cX2_init 18 = .ok (.putfield 15, 3) := by decide +kernel
theorem dX2_init_21 : decode cX2_init 21 = .ok (.return_, 1) := by decide +kernel
theorem dX2_solve_0 : decode cX2_solve 0 = .ok (.aload_n 1, 1) := by decide +kernel
theorem dX2_solve_1 : decode cX2_solve 1 = .ok (.getfield 18, 3) := by decide +kernel
theorem dX2_solve_4 : decode cX2_solve 4 = .ok (.getfield 24, 3) := by decide +kernel
theorem dX2_solve_7 : decode cX2_solve 7 = .ok (.bipush 6, 2) := by decide +kernel
theorem dX2_solve_9 : decode cX2_solve 9 = .ok (.invokestatic 30, 3) := by decide +kernel
theorem dX2_solve_12 : decode cX2_solve 12 = .ok (.istore_n 2, 1) := by decide +kernel
theorem dX2_solve_13 : decode cX2_solve 13 = .ok (.iconst 1, 1) := by decide +kernel
theorem dX2_solve_14 : decode cX2_solve 14 = .ok (.aload_n 1, 1) := by decide +kernel
theorem dX2_solve_15 : decode cX2_solve 15 = .ok (.getfield 18, 3) := by decide +kernel
theorem dX2_solve_18 : decode cX2_solve 18 = .ok (.getfield 36, 3) := by decide +kernel
theorem dX2_solve_21 : decode cX2_solve 21 = .ok (.bipush 8, 2) := by decide +kernel
theorem dX2_solve_23 : decode cX2_solve 23 = .ok (.invokestatic 30, 3) := by decide +kernel
theorem dX2_solve_26 : decode cX2_solve 26 = .ok (.ishl, 1) := by decide +kernel
theorem dX2_solve_27 : decode cX2_solve 27 = .ok (.istore_n 3, 1) := by decide +kernel
theorem dX2_solve_28 : decode cX2_solve 28 = .ok (.iconst 0, 1) := by decide +kernel
theorem dX2_solve_29 : decode cX2_solve 29 = .ok (.istore 4, 2) := by decide +kernel
theorem dX2_solve_31 : decode cX2_solve 31 = .ok (.iload 4, 2) := by decide +kernel
theorem dX2_solve_33 : decode cX2_solve 33 = .ok (.iload_n 3, 1) := by decide +kernel
theorem dX2_solve_34 : decode cX2_solve 34 = .ok (.if_icmp .ge 23, 3) := by decide +kernel
theorem dX2_solve_37 : decode cX2_solve 37 = .ok (.aload_n 0, 1) := by decide +kernel
theorem dX2_solve_38 : decode cX2_solve 38 = .ok (.getfield 11, 3) := by decide +kernel
theorem dX2_solve_41 : decode cX2_solve 41 = .ok (.iload_n 2, 1) := by decide +kernel
theorem dX2_solve_42 : decode cX2_solve 42 = .ok (.sipush 256, 3) := by decide +kernel
theorem dX2_solve_45 : decode cX2_solve 45 = .ok (.imul, 1) := by decide +kernel
theorem dX2_solve_46 : decode cX2_solve 46 = .ok (.iload 4, 2) := by decide +kernel
theorem dX2_solve_48 : decode cX2_solve 48 = .ok (.iadd, 1) := by decide +kernel
theorem dX2_solve_49 : decode cX2_solve 49 = .ok (.iconst 0, 1) := by decide +kernel
theorem dX2_solve_50 : decode cX2_solve 50 = .ok (.iastore, 1) := by decide +kernel
theorem dX2_solve_51 : decode cX2_solve 51 = .ok (.iinc 4 1, 3) := by decide +kernel
theorem dX2_solve_54 : decode cX2_solve 54 = .ok (.goto (-23), 3) := by decide +kernel
theorem dX2_solve_57 : decode cX2_solve 57 = .ok (.iload_n 2, 1) := by decide +kernel
theorem dX2_solve_58 : decode cX2_solve 58 = .ok (.iconst 1, 1) := by decide +kernel
theorem dX2_solve_59 : decode cX2_solve 59 = .ok (.isub, 1) := by decide +kernel
theorem dX2_solve_60 : decode cX2_solve 60 = .ok (.istore 4, 2) := by decide +kernel
theorem dX2_solve_62 : decode cX2_solve 62 = .ok (.iload 4, 2) := by decide +kernel
theorem dX2_solve_64 : decode cX2_solve 64 = .ok (.ifCond .lt 47, 3) := by decide +kernel
theorem dX2_solve_67 : decode cX2_solve 67 = .ok (.iconst 0, 1) := by decide +kernel
theorem dX2_solve_68 : decode cX2_solve 68 = .ok (.istore 5, 2) := by decide +kernel
theorem dX2_solve_70 : decode cX2_solve 70 = .ok (.iload 5, 2) := by decide +kernel
theorem dX2_solve_72 : decode cX2_solve 72 = .ok (.iload_n 3, 1) := by decide +kernel
theorem dX2_solve_73 : decode cX2_solve 73 = .ok (.if_icmp .ge 32, 3) := by decide +kernel
theorem dX2_solve_76 : decode cX2_solve 76 = .ok (.aload_n 0, 1) := by decide +kernel
theorem dX2_solve_77 : decode cX2_solve 77 = .ok (.getfield 11, 3) := by decide +kernel
theorem dX2_solve_80 : decode cX2_solve 80 = .ok (.iload 4, 2) := by decide +kernel
theorem dX2_solve_82 : decode cX2_solve 82 = .ok (.sipush 256, 3) := by decide +kernel
theorem dX2_solve_85 : decode cX2_solve 85 = .ok (.imul, 1) := by decide +kernel
theorem dX2_solve_86 : decode cX2_solve 86 = .ok (.iload 5, 2) := by decide +kernel
theorem dX2_solve_88 : decode cX2_solve 88 = .ok (.iadd, 1) := by decide +kernel
theorem dX2_solve_89 : decode cX2_solve 89 = .ok (.aload_n 0, 1) := by decide +kernel
theorem dX2_solve_90 : decode cX2_solve 90 = .ok (.aload_n 1, 1) := by decide +kernel
theorem dX2_solve_91 : decode cX2_solve 91 = .ok (.iload 4, 2) := by decide +kernel
theorem dX2_solve_93 : decode cX2_solve 93 = .ok (.iload 5, 2) := by decide +kernel
theorem dX2_solve_95 : decode cX2_solve 95 = .ok (.invokevirtual 39, 3) := by decide +kernel
theorem dX2_solve_98 : decode cX2_solve 98 = .ok (.iastore, 1) := by decide +kernel
theorem dX2_solve_99 : decode cX2_solve 99 = .ok (.iinc 5 1, 3) := by decide +kernel
theorem dX2_solve_102 : decode cX2_solve 102 = .ok (.goto (-32), 3) := by decide +kernel
theorem dX2_solve_105 : decode cX2_solve 105 = .ok (.iinc 4 (-1), 3) := by decide +kernel
theorem dX2_solve_108 : decode cX2_solve 108 = .ok (.goto (-46), 3) := by decide +kernel
theorem dX2_solve_111 : decode cX2_solve 111 = .ok (.aload_n 0, 1) := by decide +kernel
theorem dX2_solve_112 : decode cX2_solve 112 = .ok (.aload_n 1, 1) := by decide +kernel
theorem dX2_solve_113 : decode cX2_solve 113 = .ok (.iload_n 2, 1) := by decide +kernel
theorem dX2_solve_114 : decode cX2_solve 114 = .ok (.invokevirtual 43, 3) := by decide +kernel
theorem dX2_solve_117 : decode cX2_solve 117 = .ok (.aload_n 0, 1) := by decide +kernel
theorem dX2_solve_118 : decode cX2_solve 118 = .ok (.getfield 11, 3) := by decide +kernel
theorem dX2_solve_121 : decode cX2_solve 121 = .ok (.iconst 0, 1) := by decide +kernel
theorem dX2_solve_122 : decode cX2_solve 122 = .ok (.iaload, 1) := by decide +kernel
theorem dX2_solve_123 : decode cX2_solve 123 = .ok (.ireturn, 1) := by decide +kernel
theorem dX2_mostOf_0 : decode cX2_mostOf 0 = .ok (.aload_n 0, 1) := by decide +kernel
theorem dX2_mostOf_1 : decode cX2_mostOf 1 = .ok (.getfield 11, 3) := by decide +kernel
theorem dX2_mostOf_4 : decode cX2_mostOf 4 = .ok (.iload_n 2, 1) := by decide +kernel
theorem dX2_mostOf_5 : decode cX2_mostOf 5 = .ok (.iconst 1, 1) := by decide +kernel
theorem dX2_mostOf_6 : decode cX2_mostOf 6 = .ok (.iadd, 1) := by decide +kernel
theorem dX2_mostOf_7 : decode cX2_mostOf 7 = .ok (.sipush 256, 3) := by decide +kernel
theorem dX2_mostOf_10 : decode cX2_mostOf 10 = .ok (.imul, 1) := by decide +kernel
theorem dX2_mostOf_11 : decode cX2_mostOf 11 = .ok (.iload_n 3, 1) := by decide +kernel
theorem dX2_mostOf_12 : decode cX2_mostOf 12 = .ok (.iadd, 1) := by decide +kernel
theorem dX2_mostOf_13 : decode cX2_mostOf 13 = .ok (.iaload, 1) := by decide +kernel
theorem dX2_mostOf_14 : decode cX2_mostOf 14 = .ok (.istore 4, 2) := by decide +kernel
theorem dX2_mostOf_16 : decode cX2_mostOf 16 = .ok (.iconst 0, 1) := by decide +kernel
theorem dX2_mostOf_17 : decode cX2_mostOf 17 = .ok (.istore 5, 2) := by decide +kernel
theorem dX2_mostOf_19 : decode cX2_mostOf 19 = .ok (.iload 5, 2) := by decide +kernel
theorem dX2_mostOf_21 : decode cX2_mostOf 21 = .ok (.aload_n 1, 1) := by decide +kernel
theorem dX2_mostOf_22 : decode cX2_mostOf 22 = .ok (.getfield 18, 3) := by decide +kernel
theorem dX2_mostOf_25 : decode cX2_mostOf 25 = .ok (.getfield 36, 3) := by decide +kernel
theorem dX2_mostOf_28 : decode cX2_mostOf 28 = .ok (.if_icmp .ge 43, 3) := by decide +kernel
theorem dX2_mostOf_31 : decode cX2_mostOf 31 = .ok (.iload 5, 2) := by decide +kernel
theorem dX2_mostOf_33 : decode cX2_mostOf 33 = .ok (.bipush 8, 2) := by decide +kernel
theorem dX2_mostOf_35 : decode cX2_mostOf 35 = .ok (.if_icmp .ge 36, 3) := by decide +kernel
theorem dX2_mostOf_38 : decode cX2_mostOf 38 = .ok (.aload_n 1, 1) := by decide +kernel
theorem dX2_mostOf_39 : decode cX2_mostOf 39 = .ok (.iload_n 2, 1) := by decide +kernel
theorem dX2_mostOf_40 : decode cX2_mostOf 40 = .ok (.iload 5, 2) := by decide +kernel
theorem dX2_mostOf_42 : decode cX2_mostOf 42 = .ok (.iload_n 3, 1) := by decide +kernel
theorem dX2_mostOf_43 : decode cX2_mostOf 43 = .ok (.invokestatic 47, 3) := by decide +kernel
theorem dX2_mostOf_46 : decode cX2_mostOf 46 = .ok (.ifCond .eq 19, 3) := by decide +kernel
theorem dX2_mostOf_49 : decode cX2_mostOf 49 = .ok (.iload 4, 2) := by decide +kernel
theorem dX2_mostOf_51 : decode cX2_mostOf 51 = .ok (.aload_n 0, 1) := by decide +kernel
theorem dX2_mostOf_52 : decode cX2_mostOf 52 = .ok (.aload_n 1, 1) := by decide +kernel
theorem dX2_mostOf_53 : decode cX2_mostOf 53 = .ok (.iload_n 2, 1) := by decide +kernel
theorem dX2_mostOf_54 : decode cX2_mostOf 54 = .ok (.iload 5, 2) := by decide +kernel
theorem dX2_mostOf_56 : decode cX2_mostOf 56 = .ok (.iload_n 3, 1) := by decide +kernel
theorem dX2_mostOf_57 : decode cX2_mostOf 57 = .ok (.invokevirtual 51, 3) := by decide +kernel
theorem dX2_mostOf_60 : decode cX2_mostOf 60 = .ok (.invokestatic 55, 3) := by decide +kernel
theorem dX2_mostOf_63 : decode cX2_mostOf 63 = .ok (.istore 4, 2) := by decide +kernel
theorem dX2_mostOf_65 : decode cX2_mostOf 65 = .ok (.iinc 5 1, 3) := by decide +kernel
theorem dX2_mostOf_68 : decode cX2_mostOf 68 = .ok (.goto (-49), 3) := by decide +kernel
theorem dX2_mostOf_71 : decode cX2_mostOf 71 = .ok (.iload 4, 2) := by decide +kernel
theorem dX2_mostOf_73 : decode cX2_mostOf 73 = .ok (.ireturn, 1) := by decide +kernel
theorem dX2_worthWith_0 : decode cX2_worthWith 0 = .ok (.aload_n 1, 1) := by decide +kernel
theorem dX2_worthWith_1 : decode cX2_worthWith 1 = .ok (.getfield 18, 3) := by decide +kernel
theorem dX2_worthWith_4 : decode cX2_worthWith 4 = .ok (.getfield 58, 3) := by decide +kernel
theorem dX2_worthWith_7 : decode cX2_worthWith 7 = .ok (.iload_n 3, 1) := by decide +kernel
theorem dX2_worthWith_8 : decode cX2_worthWith 8 = .ok (.iaload, 1) := by decide +kernel
theorem dX2_worthWith_9 : decode cX2_worthWith 9 = .ok (.aload_n 0, 1) := by decide +kernel
theorem dX2_worthWith_10 : decode cX2_worthWith 10 = .ok (.getfield 11, 3) := by decide +kernel
theorem dX2_worthWith_13 : decode cX2_worthWith 13 = .ok (.iload_n 2, 1) := by decide +kernel
theorem dX2_worthWith_14 : decode cX2_worthWith 14 = .ok (.iconst 1, 1) := by decide +kernel
theorem dX2_worthWith_15 : decode cX2_worthWith 15 = .ok (.iadd, 1) := by decide +kernel
theorem dX2_worthWith_16 : decode cX2_worthWith 16 = .ok (.sipush 256, 3) := by decide +kernel
theorem dX2_worthWith_19 : decode cX2_worthWith 19 = .ok (.imul, 1) := by decide +kernel
theorem dX2_worthWith_20 : decode cX2_worthWith 20 = .ok (.iload 4, 2) := by decide +kernel
theorem dX2_worthWith_22 : decode cX2_worthWith 22 = .ok (.iconst 1, 1) := by decide +kernel
theorem dX2_worthWith_23 : decode cX2_worthWith 23 = .ok (.iload_n 3, 1) := by decide +kernel
theorem dX2_worthWith_24 : decode cX2_worthWith 24 = .ok (.ishl, 1) := by decide +kernel
theorem dX2_worthWith_25 : decode cX2_worthWith 25 = .ok (.ior, 1) := by decide +kernel
theorem dX2_worthWith_26 : decode cX2_worthWith 26 = .ok (.iadd, 1) := by decide +kernel
theorem dX2_worthWith_27 : decode cX2_worthWith 27 = .ok (.iaload, 1) := by decide +kernel
theorem dX2_worthWith_28 : decode cX2_worthWith 28 = .ok (.iadd, 1) := by decide +kernel
theorem dX2_worthWith_29 : decode cX2_worthWith 29 = .ok (.ireturn, 1) := by decide +kernel
theorem dX2_mayHave_0 : decode cX2_mayHave 0 = .ok (.iload_n 3, 1) := by decide +kernel
theorem dX2_mayHave_1 : decode cX2_mayHave 1 = .ok (.iload_n 2, 1) := by decide +kernel
theorem dX2_mayHave_2 : decode cX2_mayHave 2 = .ok (.ishr, 1) := by decide +kernel
theorem dX2_mayHave_3 : decode cX2_mayHave 3 = .ok (.iconst 1, 1) := by decide +kernel
theorem dX2_mayHave_4 : decode cX2_mayHave 4 = .ok (.iand, 1) := by decide +kernel
theorem dX2_mayHave_5 : decode cX2_mayHave 5 = .ok (.ifCond .ne 47, 3) := by decide +kernel
theorem dX2_mayHave_8 : decode cX2_mayHave 8 = .ok (.aload_n 0, 1) := by decide +kernel
theorem dX2_mayHave_9 : decode cX2_mayHave 9 = .ok (.getfield 61, 3) := by decide +kernel
theorem dX2_mayHave_12 : decode cX2_mayHave 12 = .ok (.iload_n 1, 1) := by decide +kernel
theorem dX2_mayHave_13 : decode cX2_mayHave 13 = .ok (.iaload, 1) := by decide +kernel
theorem dX2_mayHave_14 : decode cX2_mayHave 14 = .ok (.iconst 2, 1) := by decide +kernel
theorem dX2_mayHave_15 : decode cX2_mayHave 15 = .ok (.if_icmp .eq 37, 3) := by decide +kernel
theorem dX2_mayHave_18 : decode cX2_mayHave 18 = .ok (.aload_n 0, 1) := by decide +kernel
theorem dX2_mayHave_19 : decode cX2_mayHave 19 = .ok (.getfield 64, 3) := by decide +kernel
theorem dX2_mayHave_22 : decode cX2_mayHave 22 = .ok (.iload_n 2, 1) := by decide +kernel
theorem dX2_mayHave_23 : decode cX2_mayHave 23 = .ok (.iaload, 1) := by decide +kernel
theorem dX2_mayHave_24 : decode cX2_mayHave 24 = .ok (.ifCond .ne 28, 3) := by decide +kernel
theorem dX2_mayHave_27 : decode cX2_mayHave 27 = .ok (.aload_n 0, 1) := by decide +kernel
theorem dX2_mayHave_28 : decode cX2_mayHave 28 = .ok (.getfield 18, 3) := by decide +kernel
theorem dX2_mayHave_31 : decode cX2_mayHave 31 = .ok (.getfield 67, 3) := by decide +kernel
theorem dX2_mayHave_34 : decode cX2_mayHave 34 = .ok (.iload_n 2, 1) := by decide +kernel
theorem dX2_mayHave_35 : decode cX2_mayHave 35 = .ok (.iaload, 1) := by decide +kernel
theorem dX2_mayHave_36 : decode cX2_mayHave 36 = .ok (.aload_n 0, 1) := by decide +kernel
theorem dX2_mayHave_37 : decode cX2_mayHave 37 = .ok (.getfield 18, 3) := by decide +kernel
theorem dX2_mayHave_40 : decode cX2_mayHave 40 = .ok (.getfield 70, 3) := by decide +kernel
theorem dX2_mayHave_43 : decode cX2_mayHave 43 = .ok (.iload_n 1, 1) := by decide +kernel
theorem dX2_mayHave_44 : decode cX2_mayHave 44 = .ok (.iaload, 1) := by decide +kernel
theorem dX2_mayHave_45 : decode cX2_mayHave 45 = .ok (.if_icmp .gt 7, 3) := by decide +kernel
theorem dX2_mayHave_48 : decode cX2_mayHave 48 = .ok (.iconst 1, 1) := by decide +kernel
theorem dX2_mayHave_49 : decode cX2_mayHave 49 = .ok (.goto 4, 3) := by decide +kernel
theorem dX2_mayHave_52 : decode cX2_mayHave 52 = .ok (.iconst 0, 1) := by decide +kernel
theorem dX2_mayHave_53 : decode cX2_mayHave 53 = .ok (.ireturn, 1) := by decide +kernel
theorem dX2_choose_0 : decode cX2_choose 0 = .ok (.iconst 0, 1) := by decide +kernel
theorem dX2_choose_1 : decode cX2_choose 1 = .ok (.istore_n 3, 1) := by decide +kernel
theorem dX2_choose_2 : decode cX2_choose 2 = .ok (.iconst 0, 1) := by decide +kernel
theorem dX2_choose_3 : decode cX2_choose 3 = .ok (.istore 4, 2) := by decide +kernel
theorem dX2_choose_5 : decode cX2_choose 5 = .ok (.iload 4, 2) := by decide +kernel
theorem dX2_choose_7 : decode cX2_choose 7 = .ok (.bipush 6, 2) := by decide +kernel
theorem dX2_choose_9 : decode cX2_choose 9 = .ok (.if_icmp .ge 96, 3) := by decide +kernel
theorem dX2_choose_12 : decode cX2_choose 12 = .ok (.aload_n 0, 1) := by decide +kernel
theorem dX2_choose_13 : decode cX2_choose 13 = .ok (.getfield 15, 3) := by decide +kernel
theorem dX2_choose_16 : decode cX2_choose 16 = .ok (.iload 4, 2) := by decide +kernel
theorem dX2_choose_18 : decode cX2_choose 18 = .ok (.bipush (-2), 2) := by decide +kernel
theorem dX2_choose_20 : decode cX2_choose 20 = .ok (.iastore, 1) := by decide +kernel
theorem dX2_choose_21 : decode cX2_choose 21 = .ok (.iload 4, 2) := by decide +kernel
theorem dX2_choose_23 : decode cX2_choose 23 = .ok (.iload_n 2, 1) := by decide +kernel
theorem dX2_choose_24 : decode cX2_choose 24 = .ok (.if_icmp .ge 75, 3) := by decide +kernel
theorem dX2_choose_27 : decode cX2_choose 27 = .ok (.aload_n 0, 1) := by decide +kernel
theorem dX2_choose_28 : decode cX2_choose 28 = .ok (.getfield 11, 3) := by decide +kernel
theorem dX2_choose_31 : decode cX2_choose 31 = .ok (.iload 4, 2) := by decide +kernel
theorem dX2_choose_33 : decode cX2_choose 33 = .ok (.iconst 1, 1) := by decide +kernel
theorem dX2_choose_34 : decode cX2_choose 34 = .ok (.iadd, 1) := by decide +kernel
theorem dX2_choose_35 : decode cX2_choose 35 = .ok (.sipush 256, 3) := by decide +kernel
theorem dX2_choose_38 : decode cX2_choose 38 = .ok (.imul, 1) := by decide +kernel
theorem dX2_choose_39 : decode cX2_choose 39 = .ok (.iload_n 3, 1) := by decide +kernel
theorem dX2_choose_40 : decode cX2_choose 40 = .ok (.iadd, 1) := by decide +kernel
theorem dX2_choose_41 : decode cX2_choose 41 = .ok (.iaload, 1) := by decide +kernel
theorem dX2_choose_42 : decode cX2_choose 42 = .ok (.aload_n 0, 1) := by decide +kernel
theorem dX2_choose_43 : decode cX2_choose 43 = .ok (.getfield 11, 3) := by decide +kernel
theorem dX2_choose_46 : decode cX2_choose 46 = .ok (.iload 4, 2) := by decide +kernel
theorem dX2_choose_48 : decode cX2_choose 48 = .ok (.sipush 256, 3) := by decide +kernel
theorem dX2_choose_51 : decode cX2_choose 51 = .ok (.imul, 1) := by decide +kernel
theorem dX2_choose_52 : decode cX2_choose 52 = .ok (.iload_n 3, 1) := by decide +kernel
theorem dX2_choose_53 : decode cX2_choose 53 = .ok (.iadd, 1) := by decide +kernel
theorem dX2_choose_54 : decode cX2_choose 54 = .ok (.iaload, 1) := by decide +kernel
theorem dX2_choose_55 : decode cX2_choose 55 = .ok (.if_icmp .eq 44, 3) := by decide +kernel
theorem dX2_choose_58 : decode cX2_choose 58 = .ok (.aload_n 0, 1) := by decide +kernel
theorem dX2_choose_59 : decode cX2_choose 59 = .ok (.getfield 15, 3) := by decide +kernel
theorem dX2_choose_62 : decode cX2_choose 62 = .ok (.iload 4, 2) := by decide +kernel
theorem dX2_choose_64 : decode cX2_choose 64 = .ok (.aload_n 0, 1) := by decide +kernel
theorem dX2_choose_65 : decode cX2_choose 65 = .ok (.aload_n 1, 1) := by decide +kernel
theorem dX2_choose_66 : decode cX2_choose 66 = .ok (.iload 4, 2) := by decide +kernel
theorem dX2_choose_68 : decode cX2_choose 68 = .ok (.iload_n 3, 1) := by decide +kernel
theorem dX2_choose_69 : decode cX2_choose 69 = .ok (.invokevirtual 73, 3) := by decide +kernel
theorem dX2_choose_72 : decode cX2_choose 72 = .ok (.iastore, 1) := by decide +kernel
theorem dX2_choose_73 : decode cX2_choose 73 = .ok (.iload_n 3, 1) := by decide +kernel
theorem dX2_choose_74 : decode cX2_choose 74 = .ok (.aload_n 0, 1) := by decide +kernel
theorem dX2_choose_75 : decode cX2_choose 75 = .ok (.getfield 15, 3) := by decide +kernel
theorem dX2_choose_78 : decode cX2_choose 78 = .ok (.iload 4, 2) := by decide +kernel
theorem dX2_choose_80 : decode cX2_choose 80 = .ok (.iaload, 1) := by decide +kernel
theorem dX2_choose_81 : decode cX2_choose 81 = .ok (.ifCond .lt 15, 3) := by decide +kernel
theorem dX2_choose_84 : decode cX2_choose 84 = .ok (.iconst 1, 1) := by decide +kernel
theorem dX2_choose_85 : decode cX2_choose 85 = .ok (.aload_n 0, 1) := by decide +kernel
theorem dX2_choose_86 : decode cX2_choose 86 = .ok (.getfield 15, 3) := by decide +kernel
theorem dX2_choose_89 : decode cX2_choose 89 = .ok (.iload 4, 2) := by decide +kernel
theorem dX2_choose_91 : decode cX2_choose 91 = .ok (.iaload, 1) := by decide +kernel
theorem dX2_choose_92 : decode cX2_choose 92 = .ok (.ishl, 1) := by decide +kernel
theorem dX2_choose_93 : decode cX2_choose 93 = .ok (.goto 4, 3) := by decide +kernel
theorem dX2_choose_96 : decode cX2_choose 96 = .ok (.iconst 0, 1) := by decide +kernel
theorem dX2_choose_97 : decode cX2_choose 97 = .ok (.ior, 1) := by decide +kernel
theorem dX2_choose_98 : decode cX2_choose 98 = .ok (.istore_n 3, 1) := by decide +kernel
theorem dX2_choose_99 : decode cX2_choose 99 = .ok (.iinc 4 1, 3) := by decide +kernel
theorem dX2_choose_102 : decode cX2_choose 102 = .ok (.goto (-97), 3) := by decide +kernel
theorem dX2_choose_105 : decode cX2_choose 105 = .ok (.return_, 1) := by decide +kernel
theorem dX2_firstOf_0 : decode cX2_firstOf 0 = .ok (.iconst 0, 1) := by decide +kernel
theorem dX2_firstOf_1 : decode cX2_firstOf 1 = .ok (.istore 4, 2) := by decide +kernel
theorem dX2_firstOf_3 : decode cX2_firstOf 3 = .ok (.iload 4, 2) := by decide +kernel
theorem dX2_firstOf_5 : decode cX2_firstOf 5 = .ok (.aload_n 1, 1) := by decide +kernel
theorem dX2_firstOf_6 : decode cX2_firstOf 6 = .ok (.getfield 18, 3) := by decide +kernel
theorem dX2_firstOf_9 : decode cX2_firstOf 9 = .ok (.getfield 36, 3) := by decide +kernel
theorem dX2_firstOf_12 : decode cX2_firstOf 12 = .ok (.if_icmp .ge 54, 3) := by decide +kernel
theorem dX2_firstOf_15 : decode cX2_firstOf 15 = .ok (.iload 4, 2) := by decide +kernel
theorem dX2_firstOf_17 : decode cX2_firstOf 17 = .ok (.bipush 8, 2) := by decide +kernel
theorem dX2_firstOf_19 : decode cX2_firstOf 19 = .ok (.if_icmp .ge 47, 3) := by decide +kernel
theorem dX2_firstOf_22 : decode cX2_firstOf 22 = .ok (.aload_n 1, 1) := by decide +kernel
theorem dX2_firstOf_23 : decode cX2_firstOf 23 = .ok (.iload_n 2, 1) := by decide +kernel
theorem dX2_firstOf_24 : decode cX2_firstOf 24 = .ok (.iload 4, 2) := by decide +kernel
theorem dX2_firstOf_26 : decode cX2_firstOf 26 = .ok (.iload_n 3, 1) := by decide +kernel
theorem dX2_firstOf_27 : decode cX2_firstOf 27 = .ok (.invokestatic 47, 3) := by decide +kernel
theorem dX2_firstOf_30 : decode cX2_firstOf 30 = .ok (.ifCond .eq 30, 3) := by decide +kernel
theorem dX2_firstOf_33 : decode cX2_firstOf 33 = .ok (.aload_n 0, 1) := by decide +kernel
theorem dX2_firstOf_34 : decode cX2_firstOf 34 = .ok (.aload_n 1, 1) := by decide +kernel
theorem dX2_firstOf_35 : decode cX2_firstOf 35 = .ok (.iload_n 2, 1) := by decide +kernel
theorem dX2_firstOf_36 : decode cX2_firstOf 36 = .ok (.iload 4, 2) := by decide +kernel
theorem dX2_firstOf_38 : decode cX2_firstOf 38 = .ok (.iload_n 3, 1) := by decide +kernel
theorem dX2_firstOf_39 : decode cX2_firstOf 39 = .ok (.invokevirtual 51, 3) := by decide +kernel
theorem dX2_firstOf_42 : decode cX2_firstOf 42 = .ok (.aload_n 0, 1) := by decide +kernel
theorem dX2_firstOf_43 : decode cX2_firstOf 43 = .ok (.getfield 11, 3) := by decide +kernel
theorem dX2_firstOf_46 : decode cX2_firstOf 46 = .ok (.iload_n 2, 1) := by decide +kernel
theorem dX2_firstOf_47 : decode cX2_firstOf 47 = .ok (.sipush 256, 3) := by decide +kernel
theorem dX2_firstOf_50 : decode cX2_firstOf 50 = .ok (.imul, 1) := by decide +kernel
theorem dX2_firstOf_51 : decode cX2_firstOf 51 = .ok (.iload_n 3, 1) := by decide +kernel
theorem dX2_firstOf_52 : decode cX2_firstOf 52 = .ok (.iadd, 1) := by decide +kernel
theorem dX2_firstOf_53 : decode cX2_firstOf 53 = .ok (.iaload, 1) := by decide +kernel
theorem dX2_firstOf_54 : decode cX2_firstOf 54 = .ok (.if_icmp .ne 6, 3) := by decide +kernel
theorem dX2_firstOf_57 : decode cX2_firstOf 57 = .ok (.iload 4, 2) := by decide +kernel
theorem dX2_firstOf_59 : decode cX2_firstOf 59 = .ok (.ireturn, 1) := by decide +kernel
theorem dX2_firstOf_60 : decode cX2_firstOf 60 = .ok (.iinc 4 1, 3) := by decide +kernel
theorem dX2_firstOf_63 : decode cX2_firstOf 63 = .ok (.goto (-60), 3) := by decide +kernel
theorem dX2_firstOf_66 : decode cX2_firstOf 66 = .ok (.bipush (-2), 2) := by decide +kernel
theorem dX2_firstOf_68 : decode cX2_firstOf 68 = .ok (.ireturn, 1) := by decide +kernel
