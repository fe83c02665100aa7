theorem dX9_order_75 : decode cX9_order 75 = .ok (.if_icmp .le 20, 3) := by decide +kernel
theorem dX9_order_78 : decode cX9_order 78 = .ok (.iload 5, 2) := by decide +kernel
theorem dX9_order_80 : decode cX9_order 80 = .ok (.istore_n 3, 1) := by decide +kernel
theorem dX9_order_81 : decode cX9_order 81 = .ok (.aload_n 0, 1) := by decide +kernel
theorem dX9_order_82 : decode cX9_order 82 = .ok (.getfield 72, 3) := by decide +kernel
theorem dX9_order_85 : decode cX9_order 85 = .ok (.iconst 0, 1) := by decide +kernel
theorem dX9_order_86 : decode cX9_order 86 = .ok (.aload_n 0, 1) := by decide +kernel
theorem dX9_order_87 : decode cX9_order 87 = .ok (.getfield 76, 3) := by decide +kernel
theorem dX9_order_90 : decode cX9_order 90 = .ok (.iconst 0, 1) := by decide +kernel
theorem dX9_order_91 : decode cX9_order 91 = .ok (.iload_n 2, 1) := by decide +kernel
theorem dX9_order_92 : decode cX9_order 92 = .ok (.invokestatic 318, 3) := by decide +kernel
theorem dX9_order_95 : decode cX9_order 95 = .ok (.aload_n 0, 1) := by decide +kernel
theorem dX9_order_96 : decode cX9_order 96 = .ok (.iload_n 2, 1) := by decide +kernel
theorem dX9_order_97 : decode cX9_order 97 = .ok (.invokevirtual 324, 3) := by decide +kernel
theorem dX9_order_100 : decode cX9_order 100 = .ok (.ifCond .ne 6, 3) := by decide +kernel
theorem dX9_order_103 : decode cX9_order 103 = .ok (.goto 9, 3) := by decide +kernel
theorem dX9_order_106 : decode cX9_order 106 = .ok (.iinc 4 1, 3) := by decide +kernel
theorem dX9_order_109 : decode cX9_order 109 = .ok (.goto (-51), 3) := by decide +kernel
theorem dX9_order_112 : decode cX9_order 112 = .ok (.iload_n 1, 1) := by decide +kernel
theorem dX9_order_113 : decode cX9_order 113 = .ok (.iconst 4, 1) := by decide +kernel
theorem dX9_order_114 : decode cX9_order 114 = .ok (.if_icmp .ne 5, 3) := by decide +kernel
theorem dX9_order_117 : decode cX9_order 117 = .ok (.iload_n 3, 1) := by decide +kernel
theorem dX9_order_118 : decode cX9_order 118 = .ok (.ireturn, 1) := by decide +kernel
theorem dX9_order_119 : decode cX9_order 119 = .ok (.iload_n 1, 1) := by decide +kernel
theorem dX9_order_120 : decode cX9_order 120 = .ok (.iload_n 2, 1) := by decide +kernel
theorem dX9_order_121 : decode cX9_order 121 = .ok (.if_icmp .ge 12, 3) := by decide +kernel
theorem dX9_order_124 : decode cX9_order 124 = .ok (.aload_n 0, 1) := by decide +kernel
theorem dX9_order_125 : decode cX9_order 125 = .ok (.getfield 76, 3) := by decide +kernel
theorem dX9_order_128 : decode cX9_order 128 = .ok (.iload_n 1, 1) := by decide +kernel
theorem dX9_order_129 : decode cX9_order 129 = .ok (.iaload, 1) := by decide +kernel
theorem dX9_order_130 : decode cX9_order 130 = .ok (.goto 5, 3) := by decide +kernel
theorem dX9_order_133 : decode cX9_order 133 = .ok (.bipush (-2), 2) := by decide +kernel
theorem dX9_order_135 : decode cX9_order 135 = .ok (.ireturn, 1) := by decide +kernel
theorem dX9_worthOfRow_0 : decode cX9_worthOfRow 0 = .ok (.aload_n 0, 1) := by decide +kernel
theorem dX9_worthOfRow_1 : decode cX9_worthOfRow 1 = .ok (.getfield 45, 3) := by decide +kernel
theorem dX9_worthOfRow_4 : decode cX9_worthOfRow 4 = .ok (.aload_n 0, 1) := by decide +kernel
theorem dX9_worthOfRow_5 : decode cX9_worthOfRow 5 = .ok (.getfield 41, 3) := by decide +kernel
theorem dX9_worthOfRow_8 : decode cX9_worthOfRow 8 = .ok (.invokevirtual 275, 3) := by decide +kernel
theorem dX9_worthOfRow_11 : decode cX9_worthOfRow 11 = .ok (.iconst 0, 1) := by decide +kernel
theorem dX9_worthOfRow_12 : decode cX9_worthOfRow 12 = .ok (.istore_n 2, 1) := by decide +kernel
theorem dX9_worthOfRow_13 : decode cX9_worthOfRow 13 = .ok (.iload_n 2, 1) := by decide +kernel
theorem dX9_worthOfRow_14 : decode cX9_worthOfRow 14 = .ok (.iload_n 1, 1) := by decide +kernel
theorem dX9_worthOfRow_15 : decode cX9_worthOfRow 15 = .ok (.if_icmp .ge 29, 3) := by decide +kernel
theorem dX9_worthOfRow_18 : decode cX9_worthOfRow 18 = .ok (.iload_n 2, 1) := by decide +kernel
theorem dX9_worthOfRow_19 : decode cX9_worthOfRow 19 = .ok (.iconst 4, 1) := by decide +kernel
theorem dX9_worthOfRow_20 : decode cX9_worthOfRow 20 = .ok (.if_icmp .ge 24, 3) := by decide +kernel
theorem dX9_worthOfRow_23 : decode cX9_worthOfRow 23 = .ok (.aload_n 0, 1) := by decide +kernel
theorem dX9_worthOfRow_24 : decode cX9_worthOfRow 24 = .ok (.getfield 45, 3) := by decide +kernel
theorem dX9_worthOfRow_27 : decode cX9_worthOfRow 27 = .ok (.getfield 312, 3) := by decide +kernel
theorem dX9_worthOfRow_30 : decode cX9_worthOfRow 30 = .ok (.iload_n 2, 1) := by decide +kernel
theorem dX9_worthOfRow_31 : decode cX9_worthOfRow 31 = .ok (.aload_n 0, 1) := by decide +kernel
theorem dX9_worthOfRow_32 : decode cX9_worthOfRow 32 = .ok (.getfield 72, 3) := by decide +kernel
theorem dX9_worthOfRow_35 : decode cX9_worthOfRow 35 = .ok (.iload_n 2, 1) := by decide +kernel
theorem dX9_worthOfRow_36 : decode cX9_worthOfRow 36 = .ok (.iaload, 1) := by decide +kernel
theorem dX9_worthOfRow_37 : decode cX9_worthOfRow 37 = .ok (.iastore, 1) := by decide +kernel
theorem dX9_worthOfRow_38 : decode cX9_worthOfRow 38 = .ok (.iinc 2 1, 3) := by decide +kernel
theorem dX9_worthOfRow_41 : decode cX9_worthOfRow 41 = .ok (.goto (-28), 3) := by decide +kernel
theorem dX9_worthOfRow_44 : decode cX9_worthOfRow 44 = .ok (.iconst 0, 1) := by decide +kernel
theorem dX9_worthOfRow_45 : decode cX9_worthOfRow 45 = .ok (.istore_n 2, 1) := by decide +kernel
theorem dX9_worthOfRow_46 : decode cX9_worthOfRow 46 = .ok (.iload_n 2, 1) := by decide +kernel
theorem dX9_worthOfRow_47 : decode cX9_worthOfRow 47 = .ok (.bipush 30, 2) := by decide +kernel
theorem dX9_worthOfRow_49 : decode cX9_worthOfRow 49 = .ok (.if_icmp .ge 17, 3) := by decide +kernel
theorem dX9_worthOfRow_52 : decode cX9_worthOfRow 52 = .ok (.aload_n 0, 1) := by decide +kernel
theorem dX9_worthOfRow_53 : decode cX9_worthOfRow 53 = .ok (.getfield 45, 3) := by decide +kernel
theorem dX9_worthOfRow_56 : decode cX9_worthOfRow 56 = .ok (.iconst 0, 1) := by decide +kernel
theorem dX9_worthOfRow_57 : decode cX9_worthOfRow 57 = .ok (.invokevirtual 271, 3) := by decide +kernel
theorem dX9_worthOfRow_60 : decode cX9_worthOfRow 60 = .ok (.iinc 2 1, 3) := by decide +kernel
theorem dX9_worthOfRow_63 : decode cX9_worthOfRow 63 = .ok (.goto (-17), 3) := by decide +kernel
theorem dX9_worthOfRow_66 : decode cX9_worthOfRow 66 = .ok (.aload_n 0, 1) := by decide +kernel
theorem dX9_worthOfRow_67 : decode cX9_worthOfRow 67 = .ok (.getfield 45, 3) := by decide +kernel
theorem dX9_worthOfRow_70 : decode cX9_worthOfRow 70 = .ok (.invokevirtual 230, 3) := by decide +kernel
theorem dX9_worthOfRow_73 : decode cX9_worthOfRow 73 = .ok (.aload_n 0, 1) := by decide +kernel
theorem dX9_worthOfRow_74 : decode cX9_worthOfRow 74 = .ok (.getfield 41, 3) := by decide +kernel
theorem dX9_worthOfRow_77 : decode cX9_worthOfRow 77 = .ok (.invokevirtual 230, 3) := by decide +kernel
theorem dX9_worthOfRow_80 : decode cX9_worthOfRow 80 = .ok (.isub, 1) := by decide +kernel
theorem dX9_worthOfRow_81 : decode cX9_worthOfRow 81 = .ok (.ireturn, 1) := by decide +kernel
theorem dX9_turnRow_0 : decode cX9_turnRow 0 = .ok (.iload_n 1, 1) := by decide +kernel
theorem dX9_turnRow_1 : decode cX9_turnRow 1 = .ok (.iconst 2, 1) := by decide +kernel
theorem dX9_turnRow_2 : decode cX9_turnRow 2 = .ok (.isub, 1) := by decide +kernel
theorem dX9_turnRow_3 : decode cX9_turnRow 3 = .ok (.istore_n 2, 1) := by decide +kernel
theorem dX9_turnRow_4 : decode cX9_turnRow 4 = .ok (.iload_n 2, 1) := by decide +kernel
theorem dX9_turnRow_5 : decode cX9_turnRow 5 = .ok (.ifCond .lt 26, 3) := by decide +kernel
theorem dX9_turnRow_8 : decode cX9_turnRow 8 = .ok (.aload_n 0, 1) := by decide +kernel
theorem dX9_turnRow_9 : decode cX9_turnRow 9 = .ok (.getfield 72, 3) := by decide +kernel
theorem dX9_turnRow_12 : decode cX9_turnRow 12 = .ok (.iload_n 2, 1) := by decide +kernel
theorem dX9_turnRow_13 : decode cX9_turnRow 13 = .ok (.iaload, 1) := by decide +kernel
theorem dX9_turnRow_14 : decode cX9_turnRow 14 = .ok (.aload_n 0, 1) := by decide +kernel
theorem dX9_turnRow_15 : decode cX9_turnRow 15 = .ok (.getfield 72, 3) := by decide +kernel
theorem dX9_turnRow_18 : decode cX9_turnRow 18 = .ok (.iload_n 2, 1) := by decide +kernel
theorem dX9_turnRow_19 : decode cX9_turnRow 19 = .ok (.iconst 1, 1) := by decide +kernel
theorem dX9_turnRow_20 : decode cX9_turnRow 20 = .ok (.iadd, 1) := by decide +kernel
theorem dX9_turnRow_21 : decode cX9_turnRow 21 = .ok (.iaload, 1) := by decide +kernel
theorem dX9_turnRow_22 : decode cX9_turnRow 22 = .ok (.if_icmp .le 9, 3) := by decide +kernel
theorem dX9_turnRow_25 : decode cX9_turnRow 25 = .ok (.iinc 2 (-1), 3) := by decide +kernel
theorem dX9_turnRow_28 : decode cX9_turnRow 28 = .ok (.goto (-24), 3) := by decide +kernel
theorem dX9_turnRow_31 : decode cX9_turnRow 31 = .ok (.iload_n 2, 1) := by decide +kernel
theorem dX9_turnRow_32 : decode cX9_turnRow 32 = .ok (.ifCond .ge 5, 3) := by decide +kernel
theorem dX9_turnRow_35 : decode cX9_turnRow 35 = .ok (.iconst 0, 1) := by decide +kernel
theorem dX9_turnRow_36 : decode cX9_turnRow 36 = .ok (.ireturn, 1) := by decide +kernel
theorem dX9_turnRow_37 : decode cX9_turnRow 37 = .ok (.iload_n 1, 1) := by decide +kernel
theorem dX9_turnRow_38 : decode cX9_turnRow 38 = .ok (.iconst 1, 1) := by decide +kernel
theorem dX9_turnRow_39 : decode cX9_turnRow 39 = .ok (.isub, 1) := by decide +kernel
theorem dX9_turnRow_40 : decode cX9_turnRow 40 = .ok (.istore_n 3, 1) := by decide +kernel
theorem dX9_turnRow_41 : decode cX9_turnRow 41 = .ok (.iload_n 3, 1) := by decide +kernel
theorem dX9_turnRow_42 : decode cX9_turnRow 42 = .ok (.iload_n 2, 1) := by decide +kernel
theorem dX9_turnRow_43 : decode cX9_turnRow 43 = .ok (.iconst 1, 1) := by decide +kernel
theorem dX9_turnRow_44 : decode cX9_turnRow 44 = .ok (.iadd, 1) := by decide +kernel
theorem dX9_turnRow_45 : decode cX9_turnRow 45 = .ok (.if_icmp .le 24, 3) := by decide +kernel
theorem dX9_turnRow_48 : decode cX9_turnRow 48 = .ok (.aload_n 0, 1) := by decide +kernel
theorem dX9_turnRow_49 : decode cX9_turnRow 49 = .ok (.getfield 72, 3) := by decide +kernel
theorem dX9_turnRow_52 : decode cX9_turnRow 52 = .ok (.iload_n 3, 1) := by decide +kernel
theorem dX9_turnRow_53 : decode cX9_turnRow 53 = .ok (.iaload, 1) := by decide +kernel
theorem dX9_turnRow_54 : decode cX9_turnRow 54 = .ok (.aload_n 0, 1) := by decide +kernel
theorem dX9_turnRow_55 : decode cX9_turnRow 55 = .ok (.getfield 72, 3) := by decide +kernel
theorem dX9_turnRow_58 : decode cX9_turnRow 58 = .ok (.iload_n 2, 1) := by decide +kernel
theorem dX9_turnRow_59 : decode cX9_turnRow 59 = .ok (.iaload, 1) := by decide +kernel
theorem dX9_turnRow_60 : decode cX9_turnRow 60 = .ok (.if_icmp .ge 9, 3) := by decide +kernel
theorem dX9_turnRow_63 : decode cX9_turnRow 63 = .ok (.iinc 3 (-1), 3) := by decide +kernel
theorem dX9_turnRow_66 : decode cX9_turnRow 66 = .ok (.goto (-25), 3) := by decide +kernel
theorem dX9_turnRow_69 : decode cX9_turnRow 69 = .ok (.aload_n 0, 1) := by decide +kernel
theorem dX9_turnRow_70 : decode cX9_turnRow 70 = .ok (.iload_n 2, 1) := by decide +kernel
theorem dX9_turnRow_71 : decode cX9_turnRow 71 = .ok (.iload_n 3, 1) := by decide +kernel
theorem dX9_turnRow_72 : decode cX9_turnRow 72 = .ok (.invokevirtual 327, 3) := by decide +kernel
theorem dX9_turnRow_75 : decode cX9_turnRow 75 = .ok (.iload_n 2, 1) := by decide +kernel
theorem dX9_turnRow_76 : decode cX9_turnRow 76 = .ok (.iconst 1, 1) := by decide +kernel
theorem dX9_turnRow_77 : decode cX9_turnRow 77 = .ok (.iadd, 1) := by decide +kernel
theorem dX9_turnRow_78 : decode cX9_turnRow 78 = .ok (.istore 4, 2) := by decide +kernel
theorem dX9_turnRow_80 : decode cX9_turnRow 80 = .ok (.iload_n 1, 1) := by decide +kernel
theorem dX9_turnRow_81 : decode cX9_turnRow 81 = .ok (.iconst 1, 1) := by decide +kernel
theorem dX9_turnRow_82 : decode cX9_turnRow 82 = .ok (.isub, 1) := by decide +kernel
theorem dX9_turnRow_83 : decode cX9_turnRow 83 = .ok (.istore 5, 2) := by decide +kernel
theorem dX9_turnRow_85 : decode cX9_turnRow 85 = .ok (.iload 4, 2) := by decide +kernel
theorem dX9_turnRow_87 : decode cX9_turnRow 87 = .ok (.iload 5, 2) := by decide +kernel
theorem dX9_turnRow_89 : decode cX9_turnRow 89 = .ok (.if_icmp .ge 20, 3) := by decide +kernel
theorem dX9_turnRow_92 : decode cX9_turnRow 92 = .ok (.aload_n 0, 1) := by decide +kernel
theorem dX9_turnRow_93 : decode cX9_turnRow 93 = .ok (.iload 4, 2) := by decide +kernel
theorem dX9_turnRow_95 : decode cX9_turnRow 95 = .ok (.iload 5, 2) := by decide +kernel
theorem dX9_turnRow_97 : decode cX9_turnRow 97 = .ok (.invokevirtual 327, 3) := by decide +kernel
theorem dX9_turnRow_100 : decode cX9_turnRow 100 = .ok (.iinc 4 1, 3) := by decide +kernel
theorem dX9_turnRow_103 : decode cX9_turnRow 103 = .ok (.iinc 5 (-1), 3) := by decide +kernel
theorem dX9_turnRow_106 : decode cX9_turnRow 106 = .ok (.goto (-21), 3) := by decide +kernel
theorem dX9_turnRow_109 : decode cX9_turnRow 109 = .ok (.iconst 1, 1) := by decide +kernel
theorem dX9_turnRow_110 : decode cX9_turnRow 110 = .ok (.ireturn, 1) := by decide +kernel
theorem dX9_changeInRow_0 : decode cX9_changeInRow 0 = .ok (.iload_n 1, 1) := by decide +kernel
theorem dX9_changeInRow_1 : decode cX9_changeInRow 1 = .ok (.ifCond .lt 17, 3) := by decide +kernel
theorem dX9_changeInRow_4 : decode cX9_changeInRow 4 = .ok (.iload_n 2, 1) := by decide +kernel
theorem dX9_changeInRow_5 : decode cX9_changeInRow 5 = .ok (.ifCond .lt 13, 3) := by decide +kernel
theorem dX9_changeInRow_8 : decode cX9_changeInRow 8 = .ok (.iload_n 1, 1) := by decide +kernel
theorem dX9_changeInRow_9 : decode cX9_changeInRow 9 = .ok (.iconst 4, 1) := by decide +kernel
theorem dX9_changeInRow_10 : decode cX9_changeInRow 10 = .ok (.if_icmp .ge 8, 3) := by decide +kernel
theorem dX9_changeInRow_13 : decode cX9_changeInRow 13 = .ok (.iload_n 2, 1) := by decide +kernel
theorem dX9_changeInRow_14 : decode cX9_changeInRow 14 = .ok (.iconst 4, 1) := by decide +kernel
theorem dX9_changeInRow_15 : decode cX9_changeInRow 15 = .ok (.if_icmp .lt 4, 3) := by decide +kernel
theorem dX9_changeInRow_18 : decode cX9_changeInRow 18 = .ok (.return_, 1) := by decide +kernel
theorem dX9_changeInRow_19 : decode cX9_changeInRow 19 = .ok (.aload_n 0, 1) := by decide +kernel
theorem dX9_changeInRow_20 : decode cX9_changeInRow 20 = .ok (.getfield 72, 3) := by decide +kernel
theorem dX9_changeInRow_23 : decode cX9_changeInRow 23 = .ok (.iload_n 1, 1) := by decide +kernel
theorem dX9_changeInRow_24 : decode cX9_changeInRow 24 = .ok (.iaload, 1) := by decide +kernel
theorem dX9_changeInRow_25 : decode cX9_changeInRow 25 = .ok (.istore_n 3, 1) := by decide +kernel
theorem dX9_changeInRow_26 : decode cX9_changeInRow 26 = .ok (.aload_n 0, 1) := by decide +kernel
theorem dX9_changeInRow_27 : decode cX9_changeInRow 27 = .ok (.getfield 72, 3) := by decide +kernel
theorem dX9_changeInRow_30 : decode cX9_changeInRow 30 = .ok (.iload_n 1, 1) := by decide +kernel
theorem dX9_changeInRow_31 : decode cX9_changeInRow 31 = .ok (.aload_n 0, 1) := by decide +kernel
theorem dX9_changeInRow_32 : decode cX9_changeInRow 32 = .ok (.getfield 72, 3) := by decide +kernel
theorem dX9_changeInRow_35 : decode cX9_changeInRow 35 = .ok (.iload_n 2, 1) := by decide +kernel
theorem dX9_changeInRow_36 : decode cX9_changeInRow 36 = .ok (.iaload, 1) := by decide +kernel
theorem dX9_changeInRow_37 : decode cX9_changeInRow 37 = .ok (.iastore, 1) := by decide +kernel
theorem dX9_changeInRow_38 : decode cX9_changeInRow 38 = .ok (.aload_n 0, 1) := by decide +kernel
theorem dX9_changeInRow_39 : decode cX9_changeInRow 39 = .ok (.getfield 72, 3) := by decide +kernel
theorem dX9_changeInRow_42 : decode cX9_changeInRow 42 = .ok (.iload_n 2, 1) := by decide +kernel
theorem dX9_changeInRow_43 : decode cX9_changeInRow 43 = .ok (.iload_n 3, 1) := by decide +kernel
theorem dX9_changeInRow_44 : decode cX9_changeInRow 44 = .ok (.iastore, 1) := by decide +kernel
theorem dX9_changeInRow_45 : decode cX9_changeInRow 45 = .ok (.return_, 1) := by decide +kernel
theorem dX9_rests_0 : decode cX9_rests 0 = .ok (.aload_n 0, 1) := by decide +kernel
theorem dX9_rests_1 : decode cX9_rests 1 = .ok (.iload_n 1, 1) := by decide +kernel
theorem dX9_rests_2 : decode cX9_rests 2 = .ok (.iload_n 2, 1) := by decide +kernel
theorem dX9_rests_3 : decode cX9_rests 3 = .ok (.invokevirtual 243, 3) := by decide +kernel
theorem dX9_rests_6 : decode cX9_rests 6 = .ok (.ifCond .ne 5, 3) := by decide +kernel
theorem dX9_rests_9 : decode cX9_rests 9 = .ok (.iconst (-1), 1) := by decide +kernel
theorem dX9_rests_10 : decode cX9_rests 10 = .ok (.ireturn, 1) := by decide +kernel
theorem dX9_rests_11 : decode cX9_rests 11 = .ok (.iconst 0, 1) := by decide +kernel
theorem dX9_rests_12 : decode cX9_rests 12 = .ok (.istore_n 3, 1) := by decide +kernel
theorem dX9_rests_13 : decode cX9_rests 13 = .ok (.iconst 0, 1) := by decide +kernel
theorem dX9_rests_14 : decode cX9_rests 14 = .ok (.istore 4, 2) := by decide +kernel
theorem dX9_rests_16 : decode cX9_rests 16 = .ok (.iload 4, 2) := by decide +kernel
theorem dX9_rests_18 : decode cX9_rests 18 = .ok (.iconst 4, 1) := by decide +kernel
theorem dX9_rests_19 : decode cX9_rests 19 = .ok (.if_icmp .ge 23, 3) := by decide +kernel
theorem dX9_rests_22 : decode cX9_rests 22 = .ok (.aload_n 0, 1) := by decide +kernel
theorem dX9_rests_23 : decode cX9_rests 23 = .ok (.iload_n 1, 1) := by decide +kernel
theorem dX9_rests_24 : decode cX9_rests 24 = .ok (.iload_n 2, 1) := by decide +kernel
theorem dX9_rests_25 : decode cX9_rests 25 = .ok (.iload 4, 2) := by decide +kernel
theorem dX9_rests_27 : decode cX9_rests 27 = .ok (.invokevirtual 330, 3) := by decide +kernel
theorem dX9_rests_30 : decode cX9_rests 30 = .ok (.ifCond .eq 6, 3) := by decide +kernel
theorem dX9_rests_33 : decode cX9_rests 33 = .ok (.iinc 3 1, 3) := by decide +kernel
theorem dX9_rests_36 : decode cX9_rests 36 = .ok (.iinc 4 1, 3) := by decide +kernel
theorem dX9_rests_39 : decode cX9_rests 39 = .ok (.goto (-23), 3) := by decide +kernel
theorem dX9_rests_42 : decode cX9_rests 42 = .ok (.iload_n 3, 1) := by decide +kernel
theorem dX9_rests_43 : decode cX9_rests 43 = .ok (.ireturn, 1) := by decide +kernel
theorem dX9_rest_0 : decode cX9_rest 0 = .ok (.aload_n 0, 1) := by decide +kernel
theorem dX9_rest_1 : decode cX9_rest 1 = .ok (.iload_n 1, 1) := by decide +kernel
theorem dX9_rest_2 : decode cX9_rest 2 = .ok (.iload_n 2, 1) := by decide +kernel
theorem dX9_rest_3 : decode cX9_rest 3 = .ok (.invokevirtual 243, 3) := by decide +kernel
theorem dX9_rest_6 : decode cX9_rest 6 = .ok (.ifCond .eq 7, 3) := by decide +kernel
theorem dX9_rest_9 : decode cX9_rest 9 = .ok (.iload_n 3, 1) := by decide +kernel
theorem dX9_rest_10 : decode cX9_rest 10 = .ok (.ifCond .ge 5, 3) := by decide +kernel
theorem dX9_rest_13 : decode cX9_rest 13 = .ok (.iconst (-1), 1) := by decide +kernel
theorem dX9_rest_14 : decode cX9_rest 14 = .ok (.ireturn, 1) := by decide +kernel
theorem dX9_rest_15 : decode cX9_rest 15 = .ok (.iload_n 3, 1) := by decide +kernel
theorem dX9_rest_16 : decode cX9_rest 16 = .ok (.istore 4, 2) := by decide +kernel
theorem dX9_rest_18 : decode cX9_rest 18 = .ok (.iconst 0, 1) := by decide +kernel
theorem dX9_rest_19 : decode cX9_rest 19 = .ok (.istore 5, 2) := by decide +kernel
theorem dX9_rest_21 : decode cX9_rest 21 = .ok (.iload 5, 2) := by decide +kernel
theorem dX9_rest_23 : decode cX9_rest 23 = .ok (.iconst 4, 1) := by decide +kernel
theorem dX9_rest_24 : decode cX9_rest 24 = .ok (.if_icmp .ge 41, 3) := by decide +kernel
theorem dX9_rest_27 : decode cX9_rest 27 = .ok (.aload_n 0, 1) := by decide +kernel
theorem dX9_rest_28 : decode cX9_rest 28 = .ok (.iload_n 1, 1) := by decide +kernel
theorem dX9_rest_29 : decode cX9_rest 29 = .ok (.iload_n 2, 1) := by decide +kernel
theorem dX9_rest_30 : decode cX9_rest 30 = .ok (.iload 5, 2) := by decide +kernel
theorem dX9_rest_32 : decode cX9_rest 32 = .ok (.invokevirtual 330, 3) := by decide +kernel
theorem dX9_rest_35 : decode cX9_rest 35 = .ok (.ifCond .eq 24, 3) := by decide +kernel
theorem dX9_rest_38 : decode cX9_rest 38 = .ok (.iload 4, 2) := by decide +kernel
theorem dX9_rest_40 : decode cX9_rest 40 = .ok (.ifCond .ne 16, 3) := by decide +kernel
theorem dX9_rest_43 : decode cX9_rest 43 = .ok (.bipush 10, 2) := by decide +kernel
theorem dX9_rest_45 : decode cX9_rest 45 = .ok (.iload 5, 2) := by decide +kernel
theorem dX9_rest_47 : decode cX9_rest 47 = .ok (.iconst 1, 1) := by decide +kernel
theorem dX9_rest_48 : decode cX9_rest 48 = .ok (.ishr, 1) := by decide +kernel
theorem dX9_rest_49 : decode cX9_rest 49 = .ok (.imul, 1) := by decide +kernel
theorem dX9_rest_50 : decode cX9_rest 50 = .ok (.iload 5, 2) := by decide +kernel
theorem dX9_rest_52 : decode cX9_rest 52 = .ok (.iconst 1, 1) := by decide +kernel
theorem dX9_rest_53 : decode cX9_rest 53 = .ok (.iand, 1) := by decide +kernel
theorem dX9_rest_54 : decode cX9_rest 54 = .ok (.iadd, 1) := by decide +kernel
theorem dX9_rest_55 : decode cX9_rest 55 = .ok (.ireturn, 1) := by decide +kernel
theorem dX9_rest_56 : decode cX9_rest 56 = .ok (.iinc 4 (-1), 3) := by decide +kernel
theorem dX9_rest_59 : decode cX9_rest 59 = .ok (.iinc 5 1, 3) := by decide +kernel
theorem dX9_rest_62 : decode cX9_rest 62 = .ok (.goto (-41), 3) := by decide +kernel
theorem dX9_rest_65 : decode cX9_rest 65 = .ok (.bipush (-2), 2) := by decide +kernel
theorem dX9_rest_67 : decode cX9_rest 67 = .ok (.ireturn, 1) := by decide +kernel
theorem dX9_isRest_0 : decode cX9_isRest 0 = .ok (.iload_n 3, 1) := by decide +kernel
theorem dX9_isRest_1 : decode cX9_isRest 1 = .ok (.iconst 1, 1) := by decide +kernel
theorem dX9_isRest_2 : decode cX9_isRest 2 = .ok (.ishr, 1) := by decide +kernel
theorem dX9_isRest_3 : decode cX9_isRest 3 = .ok (.istore 4, 2) := by decide +kernel
theorem dX9_isRest_5 : decode cX9_isRest 5 = .ok (.iload_n 3, 1) := by decide +kernel
theorem dX9_isRest_6 : decode cX9_isRest 6 = .ok (.iconst 1, 1) := by decide +kernel
theorem dX9_isRest_7 : decode cX9_isRest 7 = .ok (.iand, 1) := by decide +kernel
theorem dX9_isRest_8 : decode cX9_isRest 8 = .ok (.istore 5, 2) := by decide +kernel
theorem dX9_isRest_10 : decode cX9_isRest 10 = .ok (.aload_n 0, 1) := by decide +kernel
theorem dX9_isRest_11 : decode cX9_isRest 11 = .ok (.iload_n 1, 1) := by decide +kernel
theorem dX9_isRest_12 : decode cX9_isRest 12 = .ok (.iload 4, 2) := by decide +kernel
theorem dX9_isRest_14 : decode cX9_isRest 14 = .ok (.iload 5, 2) := by decide +kernel
theorem dX9_isRest_16 : decode cX9_isRest 16 = .ok (.invokevirtual 333, 3) := by decide +kernel
theorem dX9_isRest_19 : decode cX9_isRest 19 = .ok (.aload_n 0, 1) := by decide +kernel
theorem dX9_isRest_20 : decode cX9_isRest 20 = .ok (.iload_n 1, 1) := by decide +kernel
theorem dX9_isRest_21 : decode cX9_isRest 21 = .ok (.iconst 1, 1) := by decide +kernel
theorem dX9_isRest_22 : decode cX9_isRest 22 = .ok (.iload 4, 2) := by decide +kernel
theorem dX9_isRest_24 : decode cX9_isRest 24 = .ok (.isub, 1) := by decide +kernel
theorem dX9_isRest_25 : decode cX9_isRest 25 = .ok (.iload 5, 2) := by decide +kernel
theorem dX9_isRest_27 : decode cX9_isRest 27 = .ok (.invokevirtual 333, 3) := by decide +kernel
theorem dX9_isRest_30 : decode cX9_isRest 30 = .ok (.if_icmp .lt 30, 3) := by decide +kernel
theorem dX9_isRest_33 : decode cX9_isRest 33 = .ok (.aload_n 0, 1) := by decide +kernel
theorem dX9_isRest_34 : decode cX9_isRest 34 = .ok (.iload_n 2, 1) := by decide +kernel
theorem dX9_isRest_35 : decode cX9_isRest 35 = .ok (.iload 5, 2) := by decide +kernel
theorem dX9_isRest_37 : decode cX9_isRest 37 = .ok (.iload 4, 2) := by decide +kernel
theorem dX9_isRest_39 : decode cX9_isRest 39 = .ok (.invokevirtual 333, 3) := by decide +kernel
theorem dX9_isRest_42 : decode cX9_isRest 42 = .ok (.aload_n 0, 1) := by decide +kernel
theorem dX9_isRest_43 : decode cX9_isRest 43 = .ok (.iload_n 2, 1) := by decide +kernel
theorem dX9_isRest_44 : decode cX9_isRest 44 = .ok (.iconst 1, 1) := by decide +kernel
theorem dX9_isRest_45 : decode cX9_isRest 45 = .ok (.iload 5, 2) := by decide +kernel
theorem dX9_isRest_47 : decode cX9_isRest 47 = .ok (.isub, 1) := by decide +kernel
theorem dX9_isRest_48 : decode cX9_isRest 48 = .ok (.iload 4, 2) := by decide +kernel
theorem dX9_isRest_50 : decode cX9_isRest 50 = .ok (.invokevirtual 333, 3) := by decide +kernel
theorem dX9_isRest_53 : decode cX9_isRest 53 = .ok (.if_icmp .lt 7, 3) := by decide +kernel
theorem dX9_isRest_56 : decode cX9_isRest 56 = .ok (.iconst 1, 1) := by decide +kernel
theorem dX9_isRest_57 : decode cX9_isRest 57 = .ok (.goto 4, 3) := by decide +kernel
theorem dX9_isRest_60 : decode cX9_isRest 60 = .ok (.iconst 0, 1) := by decide +kernel
theorem dX9_isRest_61 : decode cX9_isRest 61 = .ok (.ireturn, 1) := by decide +kernel
theorem dX9_gain_0 : decode cX9_gain 0 = .ok (.aload_n 0, 1) := by decide +kernel
theorem dX9_gain_1 : decode cX9_gain 1 = .ok (.iload_n 1, 1) := by decide +kernel
theorem dX9_gain_2 : decode cX9_gain 2 = .ok (.invokevirtual 129, 3) := by decide +kernel
theorem dX9_gain_5 : decode cX9_gain 5 = .ok (.ifCond .ne 5, 3) := by decide +kernel
theorem dX9_gain_8 : decode cX9_gain 8 = .ok (.iconst 0, 1) := by decide +kernel
theorem dX9_gain_9 : decode cX9_gain 9 = .ok (.ireturn, 1) := by decide +kernel
theorem dX9_gain_10 : decode cX9_gain 10 = .ok (.iload_n 2, 1) := by decide +kernel
theorem dX9_gain_11 : decode cX9_gain 11 = .ok (.ifCond .ne 47, 3) := by decide +kernel
theorem dX9_gain_14 : decode cX9_gain 14 = .ok (.iload_n 3, 1) := by decide +kernel
theorem dX9_gain_15 : decode cX9_gain 15 = .ok (.ifCond .ne 17, 3) := by decide +kernel
theorem dX9_gain_18 : decode cX9_gain 18 = .ok (.aload_n 0, 1) := by decide +kernel
theorem dX9_gain_19 : decode cX9_gain 19 = .ok (.getfield 18, 3) := by decide +kernel
theorem dX9_gain_22 : decode cX9_gain 22 = .ok (.getfield 140, 3) := by decide +kernel
theorem dX9_gain_25 : decode cX9_gain 25 = .ok (.iload_n 1, 1) := by decide +kernel
theorem dX9_gain_26 : decode cX9_gain 26 = .ok (.iaload, 1) := by decide +kernel
theorem dX9_gain_27 : decode cX9_gain 27 = .ok (.iconst 4, 1) := by decide +kernel
theorem dX9_gain_28 : decode cX9_gain 28 = .ok (.idiv, 1) := by decide +kernel
theorem dX9_gain_29 : decode cX9_gain 29 = .ok (.goto 14, 3) := by decide +kernel
theorem dX9_gain_32 : decode cX9_gain 32 = .ok (.aload_n 0, 1) := by decide +kernel
theorem dX9_gain_33 : decode cX9_gain 33 = .ok (.getfield 18, 3) := by decide +kernel
theorem dX9_gain_36 : decode cX9_gain 36 = .ok (.getfield 140, 3) := by decide +kernel
theorem dX9_gain_39 : decode cX9_gain 39 = .ok (.iload_n 1, 1) := by decide +kernel
theorem dX9_gain_40 : decode cX9_gain 40 = .ok (.iaload, 1) := by decide +kernel
theorem dX9_gain_41 : decode cX9_gain 41 = .ok (.iconst 2, 1) := by decide +kernel
theorem dX9_gain_42 : decode cX9_gain 42 = .ok (.idiv, 1) := by decide +kernel
theorem dX9_gain_43 : decode cX9_gain 43 = .ok (.istore 4, 2) := by decide +kernel
theorem dX9_gain_45 : decode cX9_gain 45 = .ok (.aload_n 0, 1) := by decide +kernel
theorem dX9_gain_46 : decode cX9_gain 46 = .ok (.getfield 41, 3) := by decide +kernel
theorem dX9_gain_49 : decode cX9_gain 49 = .ok (.getfield 143, 3) := by decide +kernel
theorem dX9_gain_52 : decode cX9_gain 52 = .ok (.iload_n 1, 1) := by decide +kernel
theorem dX9_gain_53 : decode cX9_gain 53 = .ok (.iaload, 1) := by decide +kernel
theorem dX9_gain_54 : decode cX9_gain 54 = .ok (.iload 4, 2) := by decide +kernel
theorem dX9_gain_56 : decode cX9_gain 56 = .ok (.isub, 1) := by decide +kernel
theorem dX9_gain_57 : decode cX9_gain 57 = .ok (.ireturn, 1) := by decide +kernel
theorem dX9_gain_58 : decode cX9_gain 58 = .ok (.iload_n 3, 1) := by decide +kernel
theorem dX9_gain_59 : decode cX9_gain 59 = .ok (.ifCond .ne 18, 3) := by decide +kernel
theorem dX9_gain_62 : decode cX9_gain 62 = .ok (.aload_n 0, 1) := by decide +kernel
theorem dX9_gain_63 : decode cX9_gain 63 = .ok (.getfield 41, 3) := by decide +kernel
theorem dX9_gain_66 : decode cX9_gain 66 = .ok (.getfield 143, 3) := by decide +kernel
theorem dX9_gain_69 : decode cX9_gain 69 = .ok (.iload_n 1, 1) := by decide +kernel
theorem dX9_gain_70 : decode cX9_gain 70 = .ok (.iaload, 1) := by decide +kernel
theorem dX9_gain_71 : decode cX9_gain 71 = .ok (.iconst 2, 1) := by decide +kernel
theorem dX9_gain_72 : decode cX9_gain 72 = .ok (.idiv, 1) := by decide +kernel
theorem dX9_gain_73 : decode cX9_gain 73 = .ok (.ineg, 1) := by decide +kernel
theorem dX9_gain_74 : decode cX9_gain 74 = .ok (.goto 4, 3) := by decide +kernel
theorem dX9_gain_77 : decode cX9_gain 77 = .ok (.iconst 0, 1) := by decide +kernel
theorem dX9_gain_78 : decode cX9_gain 78 = .ok (.ireturn, 1) := by decide +kernel
theorem dX9_comesBack_0 : decode cX9_comesBack 0 = .ok (.iload_n 1, 1) := by decide +kernel
theorem dX9_comesBack_1 : decode cX9_comesBack 1 = .ok (.ifCond .lt 18, 3) := by decide +kernel
theorem dX9_comesBack_4 : decode cX9_comesBack 4 = .ok (.iload_n 1, 1) := by decide +kernel
theorem dX9_comesBack_5 : decode cX9_comesBack 5 = .ok (.bipush 6, 2) := by decide +kernel
theorem dX9_comesBack_7 : decode cX9_comesBack 7 = .ok (.if_icmp .gt 12, 3) := by decide +kernel
theorem dX9_comesBack_10 : decode cX9_comesBack 10 = .ok (.iload_n 2, 1) := by decide +kernel
theorem dX9_comesBack_11 : decode cX9_comesBack 11 = .ok (.ifCond .lt 8, 3) := by decide +kernel
theorem dX9_comesBack_14 : decode cX9_comesBack 14 = .ok (.iload_n 2, 1) := by decide +kernel
theorem dX9_comesBack_15 : decode cX9_comesBack 15 = .ok (.iconst 1, 1) := by decide +kernel
theorem dX9_comesBack_16 : decode cX9_comesBack 16 = .ok (.if_icmp .le 7, 3) := by decide +kernel
theorem dX9_comesBack_19 : decode cX9_comesBack 19 = .ok (.ldc2_w 337, 3) := by decide +kernel
theorem dX9_comesBack_22 : decode cX9_comesBack 22 = .ok (.lreturn, 1) := by decide +kernel
theorem dX9_comesBack_23 : decode cX9_comesBack 23 = .ok (.bipush 100, 2) := by decide +kernel
theorem dX9_comesBack_25 : decode cX9_comesBack 25 = .ok (.aload_n 0, 1) := by decide +kernel
theorem dX9_comesBack_26 : decode cX9_comesBack 26 = .ok (.getfield 18, 3) := by decide +kernel
theorem dX9_comesBack_29 : decode cX9_comesBack 29 = .ok (.getfield 339, 3) := by decide +kernel
theorem dX9_comesBack_32 : decode cX9_comesBack 32 = .ok (.iconst 3, 1) := by decide +kernel
theorem dX9_comesBack_33 : decode cX9_comesBack 33 = .ok (.iaload, 1) := by decide +kernel
theorem dX9_comesBack_34 : decode cX9_comesBack 34 = .ok (.isub, 1) := by decide +kernel
theorem dX9_comesBack_35 : decode cX9_comesBack 35 = .ok (.istore_n 3, 1) := by decide +kernel
theorem dX9_comesBack_36 : decode cX9_comesBack 36 = .ok (.bipush 100, 2) := by decide +kernel
theorem dX9_comesBack_38 : decode cX9_comesBack 38 = .ok (.iload_n 3, 1) := by decide +kernel
theorem dX9_comesBack_39 : decode cX9_comesBack 39 = .ok (.invokestatic 342, 3) := by decide +kernel
theorem dX9_comesBack_42 : decode cX9_comesBack 42 = .ok (.istore 4, 2) := by decide +kernel
theorem dX9_comesBack_44 : decode cX9_comesBack 44 = .ok (.iload_n 2, 1) := by decide +kernel
theorem dX9_comesBack_45 : decode cX9_comesBack 45 = .ok (.ifCond .ne 7, 3) := by decide +kernel
theorem dX9_comesBack_48 : decode cX9_comesBack 48 = .ok (.iload_n 3, 1) := by decide +kernel
theorem dX9_comesBack_49 : decode cX9_comesBack 49 = .ok (.goto 5, 3) := by decide +kernel
theorem dX9_comesBack_52 : decode cX9_comesBack 52 = .ok (.bipush 100, 2) := by decide +kernel
theorem dX9_comesBack_54 : decode cX9_comesBack 54 = .ok (.istore 5, 2) := by decide +kernel
theorem dX9_comesBack_56 : decode cX9_comesBack 56 = .ok (.iload 4, 2) := by decide +kernel
theorem dX9_comesBack_58 : decode cX9_comesBack 58 = .ok (.ifCond .le 12, 3) := by decide +kernel
theorem dX9_comesBack_61 : decode cX9_comesBack 61 = .ok (.iload 5, 2) := by decide +kernel
theorem dX9_comesBack_63 : decode cX9_comesBack 63 = .ok (.iload 4, 2) := by decide +kernel
theorem dX9_comesBack_65 : decode cX9_comesBack 65 = .ok (.idiv, 1) := by decide +kernel
theorem dX9_comesBack_66 : decode cX9_comesBack 66 = .ok (.i2l, 1) := by decide +kernel
theorem dX9_comesBack_67 : decode cX9_comesBack 67 = .ok (.goto 6, 3) := by decide +kernel
theorem dX9_comesBack_70 : decode cX9_comesBack 70 = .ok (.iload 5, 2) := by decide +kernel
theorem dX9_comesBack_72 : decode cX9_comesBack 72 = .ok (.i2l, 1) := by decide +kernel
theorem dX9_comesBack_73 : decode cX9_comesBack 73 = .ok (.lstore 6, 2) := by decide +kernel
theorem dX9_comesBack_75 : decode cX9_comesBack 75 = .ok (.lconst 1, 1) := by decide +kernel
theorem dX9_comesBack_76 : decode cX9_comesBack 76 = .ok (.lstore 8, 2) := by decide +kernel
theorem dX9_comesBack_78 : decode cX9_comesBack 78 = .ok (.iconst 0, 1) := by decide +kernel
theorem dX9_comesBack_79 : decode cX9_comesBack 79 = .ok (.istore 10, 2) := by decide +kernel
theorem dX9_comesBack_81 : decode cX9_comesBack 81 = .ok (.iload 10, 2) := by decide +kernel
theorem dX9_comesBack_83 : decode cX9_comesBack 83 = .ok (.iload_n 1, 1) := by decide +kernel
theorem dX9_comesBack_84 : decode cX9_comesBack 84 = .ok (.if_icmp .ge 16, 3) := by decide +kernel
theorem dX9_comesBack_87 : decode cX9_comesBack 87 = .ok (.lload 8, 2) := by decide +kernel
theorem dX9_comesBack_89 : decode cX9_comesBack 89 = .ok (.lload 6, 2) := by decide +kernel
theorem dX9_comesBack_91 : decode cX9_comesBack 91 = .ok (.lmul, 1) := by decide +kernel
theorem dX9_comesBack_92 : decode cX9_comesBack 92 = .ok (.lstore 8, 2) := by decide +kernel
theorem dX9_comesBack_94 : decode cX9_comesBack 94 = .ok (.iinc 10 1, 3) := by decide +kernel
theorem dX9_comesBack_97 : decode cX9_comesBack 97 = .ok (.goto (-16), 3) := by decide +kernel
theorem dX9_comesBack_100 : decode cX9_comesBack 100 = .ok (.lload 8, 2) := by decide +kernel
theorem dX9_comesBack_102 : decode cX9_comesBack 102 = .ok (.lreturn, 1) := by decide +kernel
theorem dX9_commonDivisor_0 : decode cX9_commonDivisor 0 = .ok (.iload_n 0, 1) := by decide +kernel
theorem dX9_commonDivisor_1 : decode cX9_commonDivisor 1 = .ok (.istore_n 2, 1) := by decide +kernel
theorem dX9_commonDivisor_2 : decode cX9_commonDivisor 2 = .ok (.iload_n 1, 1) := by decide +kernel
theorem dX9_commonDivisor_3 : decode cX9_commonDivisor 3 = .ok (.istore_n 3, 1) := by decide +kernel
theorem dX9_commonDivisor_4 : decode cX9_commonDivisor 4 = .ok (.iconst 0, 1) := by decide +kernel
theorem dX9_commonDivisor_5 : decode cX9_commonDivisor 5 = .ok (.istore 4, 2) := by decide +kernel
theorem dX9_commonDivisor_7 : decode cX9_commonDivisor 7 = .ok (.iload 4, 2) := by decide +kernel
theorem dX9_commonDivisor_9 : decode cX9_commonDivisor 9 = .ok (.bipush 40, 2) := by decide +kernel
theorem dX9_commonDivisor_11 : decode cX9_commonDivisor 11 = .ok (.if_icmp .ge 23, 3) := by decide +kernel
theorem dX9_commonDivisor_14 : decode cX9_commonDivisor 14 = .ok (.iload_n 3, 1) := by decide +kernel
theorem dX9_commonDivisor_15 : decode cX9_commonDivisor 15 = .ok (.ifCond .eq 19, 3) := by decide +kernel
theorem dX9_commonDivisor_18 : decode cX9_commonDivisor 18 = .ok (.iload_n 2, 1) := by decide +kernel
theorem dX9_commonDivisor_19 : decode cX9_commonDivisor 19 = .ok (.iload_n 3, 1) := by decide +kernel
theorem dX9_commonDivisor_20 : decode cX9_commonDivisor 20 = .ok (.irem, 1) := by decide +kernel
theorem dX9_commonDivisor_21 : decode cX9_commonDivisor 21 = .ok (.istore 5, 2) := by decide +kernel
theorem dX9_commonDivisor_23 : decode cX9_commonDivisor 23 = .ok (.iload_n 3, 1) := by decide +kernel
theorem dX9_commonDivisor_24 : decode cX9_commonDivisor 24 = .ok (.istore_n 2, 1) := by decide +kernel
theorem dX9_commonDivisor_25 : decode cX9_commonDivisor 25 = .ok (.iload 5, 2) := by decide +kernel
theorem dX9_commonDivisor_27 : decode cX9_commonDivisor 27 = .ok (.istore_n 3, 1) := by decide +kernel
theorem dX9_commonDivisor_28 : decode cX9_commonDivisor 28 = .ok (.iinc 4 1, 3) := by decide +kernel
theorem dX9_commonDivisor_31 : decode cX9_commonDivisor 31 = .ok (.goto (-24), 3) := by decide +kernel
theorem dX9_commonDivisor_34 : decode cX9_commonDivisor 34 = .ok (.iload_n 2, 1) := by decide +kernel
theorem dX9_commonDivisor_35 : decode cX9_commonDivisor 35 = .ok (.ireturn, 1) := by decide +kernel
theorem dX9_widow_0 : decode cX9_widow 0 = .ok (.aload_n 0, 1) := by decide +kernel
theorem dX9_widow_1 : decode cX9_widow 1 = .ok (.iload_n 1, 1) := by decide +kernel
theorem dX9_widow_2 : decode cX9_widow 2 = .ok (.invokevirtual 129, 3) := by decide +kernel
theorem dX9_widow_5 : decode cX9_widow 5 = .ok (.ifCond .eq 10, 3) := by decide +kernel
theorem dX9_widow_8 : decode cX9_widow 8 = .ok (.iload_n 2, 1) := by decide +kernel
theorem dX9_widow_9 : decode cX9_widow 9 = .ok (.invokestatic 279, 3) := by decide +kernel
theorem dX9_widow_12 : decode cX9_widow 12 = .ok (.ifCond .ne 5, 3) := by decide +kernel
theorem dX9_widow_15 : decode cX9_widow 15 = .ok (.iconst (-1), 1) := by decide +kernel
theorem dX9_widow_16 : decode cX9_widow 16 = .ok (.ireturn, 1) := by decide +kernel
theorem dX9_widow_17 : decode cX9_widow 17 = .ok (.aload_n 0, 1) := by decide +kernel
theorem dX9_widow_18 : decode cX9_widow 18 = .ok (.getfield 41, 3) := by decide +kernel
theorem dX9_widow_21 : decode cX9_widow 21 = .ok (.getfield 143, 3) := by decide +kernel
theorem dX9_widow_24 : decode cX9_widow 24 = .ok (.iload_n 1, 1) := by decide +kernel
theorem dX9_widow_25 : decode cX9_widow 25 = .ok (.iaload, 1) := by decide +kernel
theorem dX9_widow_26 : decode cX9_widow 26 = .ok (.istore_n 3, 1) := by decide +kernel
theorem dX9_widow_27 : decode cX9_widow 27 = .ok (.iconst 0, 1) := by decide +kernel
theorem dX9_widow_28 : decode cX9_widow 28 = .ok (.istore 4, 2) := by decide +kernel
theorem dX9_widow_30 : decode cX9_widow 30 = .ok (.iconst 0, 1) := by decide +kernel
theorem dX9_widow_31 : decode cX9_widow 31 = .ok (.istore 5, 2) := by decide +kernel
theorem dX9_widow_33 : decode cX9_widow 33 = .ok (.iload 5, 2) := by decide +kernel
theorem dX9_widow_35 : decode cX9_widow 35 = .ok (.iload_n 2, 1) := by decide +kernel
theorem dX9_widow_36 : decode cX9_widow 36 = .ok (.if_icmp .ge 23, 3) := by decide +kernel
theorem dX9_widow_39 : decode cX9_widow 39 = .ok (.iload 4, 2) := by decide +kernel
theorem dX9_widow_41 : decode cX9_widow 41 = .ok (.iload_n 3, 1) := by decide +kernel
theorem dX9_widow_42 : decode cX9_widow 42 = .ok (.iadd, 1) := by decide +kernel
theorem dX9_widow_43 : decode cX9_widow 43 = .ok (.istore 4, 2) := by decide +kernel
theorem dX9_widow_45 : decode cX9_widow 45 = .ok (.iload_n 3, 1) := by decide +kernel
theorem dX9_widow_46 : decode cX9_widow 46 = .ok (.bipush 9, 2) := by decide +kernel
theorem dX9_widow_48 : decode cX9_widow 48 = .ok (.imul, 1) := by decide +kernel
theorem dX9_widow_49 : decode cX9_widow 49 = .ok (.bipush 10, 2) := by decide +kernel
theorem dX9_widow_51 : decode cX9_widow 51 = .ok (.idiv, 1) := by decide +kernel
theorem dX9_widow_52 : decode cX9_widow 52 = .ok (.istore_n 3, 1) := by decide +kernel
theorem dX9_widow_53 : decode cX9_widow 53 = .ok (.iinc 5 1, 3) := by decide +kernel
theorem dX9_widow_56 : decode cX9_widow 56 = .ok (.goto (-23), 3) := by decide +kernel
theorem dX9_widow_59 : decode cX9_widow 59 = .ok (.iload 4, 2) := by decide +kernel
theorem dX9_widow_61 : decode cX9_widow 61 = .ok (.ireturn, 1) := by decide +kernel
theorem dX9_see_0 : decode cX9_see 0 = .ok (.iload_n 1, 1) := by decide +kernel
theorem dX9_see_1 : decode cX9_see 1 = .ok (.iconst 1, 1) := by decide +kernel
theorem dX9_see_2 : decode cX9_see 2 = .ok (.if_icmp .lt 17, 3) := by decide +kernel
theorem dX9_see_5 : decode cX9_see 5 = .ok (.iload_n 1, 1) := by decide +kernel
theorem dX9_see_6 : decode cX9_see 6 = .ok (.bipush 60, 2) := by decide +kernel
theorem dX9_see_8 : decode cX9_see 8 = .ok (.if_icmp .gt 11, 3) := by decide +kernel
theorem dX9_see_11 : decode cX9_see 11 = .ok (.aload_n 0, 1) := by decide +kernel
theorem dX9_see_12 : decode cX9_see 12 = .ok (.iload_n 2, 1) := by decide +kernel
theorem dX9_see_13 : decode cX9_see 13 = .ok (.invokevirtual 174, 3) := by decide +kernel
theorem dX9_see_16 : decode cX9_see 16 = .ok (.ifCond .ne 5, 3) := by decide +kernel
theorem dX9_see_19 : decode cX9_see 19 = .ok (.iconst (-1), 1) := by decide +kernel
theorem dX9_see_20 : decode cX9_see 20 = .ok (.ireturn, 1) := by decide +kernel
theorem dX9_see_21 : decode cX9_see 21 = .ok (.aload_n 0, 1) := by decide +kernel
theorem dX9_see_22 : decode cX9_see 22 = .ok (.getfield 61, 3) := by decide +kernel
theorem dX9_see_25 : decode cX9_see 25 = .ok (.iload_n 1, 1) := by decide +kernel
theorem dX9_see_26 : decode cX9_see 26 = .ok (.iload_n 2, 1) := by decide +kernel
theorem dX9_see_27 : decode cX9_see 27 = .ok (.iload_n 3, 1) := by decide +kernel
theorem dX9_see_28 : decode cX9_see 28 = .ok (.iconst (-1), 1) := by decide +kernel
theorem dX9_see_29 : decode cX9_see 29 = .ok (.invokevirtual 345, 3) := by decide +kernel
theorem dX9_see_32 : decode cX9_see 32 = .ok (.ireturn, 1) := by decide +kernel
theorem dX9_strike_0 : decode cX9_strike 0 = .ok (.iload_n 1, 1) := by decide +kernel
theorem dX9_strike_1 : decode cX9_strike 1 = .ok (.ifCond .lt 14, 3) := by decide +kernel
theorem dX9_strike_4 : decode cX9_strike 4 = .ok (.iload_n 1, 1) := by decide +kernel
theorem dX9_strike_5 : decode cX9_strike 5 = .ok (.aload_n 0, 1) := by decide +kernel
theorem dX9_strike_6 : decode cX9_strike 6 = .ok (.getfield 61, 3) := by decide +kernel
theorem dX9_strike_9 : decode cX9_strike 9 = .ok (.getfield 236, 3) := by decide +kernel
theorem dX9_strike_12 : decode cX9_strike 12 = .ok (.if_icmp .lt 5, 3) := by decide +kernel
theorem dX9_strike_15 : decode cX9_strike 15 = .ok (.iconst (-1), 1) := by decide +kernel
theorem dX9_strike_16 : decode cX9_strike 16 = .ok (.ireturn, 1) := by decide +kernel
theorem dX9_strike_17 : decode cX9_strike 17 = .ok (.aload_n 0, 1) := by decide +kernel
theorem dX9_strike_18 : decode cX9_strike 18 = .ok (.getfield 61, 3) := by decide +kernel
theorem dX9_strike_21 : decode cX9_strike 21 = .ok (.iconst 0, 1) := by decide +kernel
theorem dX9_strike_22 : decode cX9_strike 22 = .ok (.iconst 0, 1) := by decide +kernel
theorem dX9_strike_23 : decode cX9_strike 23 = .ok (.iconst 0, 1) := by decide +kernel
theorem dX9_strike_24 : decode cX9_strike 24 = .ok (.iload_n 1, 1) := by decide +kernel
theorem dX9_strike_25 : decode cX9_strike 25 = .ok (.invokevirtual 345, 3) := by decide +kernel
theorem dX9_strike_28 : decode cX9_strike 28 = .ok (.ireturn, 1) := by decide +kernel
theorem dX9_known_0 : decode cX9_known 0 = .ok (.iload_n 1, 1) := by decide +kernel
theorem dX9_known_1 : decode cX9_known 1 = .ok (.iconst (-1), 1) := by decide +kernel
theorem dX9_known_2 : decode cX9_known 2 = .ok (.if_icmp .lt 14, 3) := by decide +kernel
theorem dX9_known_5 : decode cX9_known 5 = .ok (.iload_n 1, 1) := by decide +kernel
theorem dX9_known_6 : decode cX9_known 6 = .ok (.aload_n 0, 1) := by decide +kernel
theorem dX9_known_7 : decode cX9_known 7 = .ok (.getfield 61, 3) := by decide +kernel
theorem dX9_known_10 : decode cX9_known 10 = .ok (.getfield 236, 3) := by decide +kernel
theorem dX9_known_13 : decode cX9_known 13 = .ok (.if_icmp .le 5, 3) := by decide +kernel
theorem dX9_known_16 : decode cX9_known 16 = .ok (.iconst 0, 1) := by decide +kernel
theorem dX9_known_17 : decode cX9_known 17 = .ok (.ireturn, 1) := by decide +kernel
theorem dX9_known_18 : decode cX9_known 18 = .ok (.aload_n 0, 1) := by decide +kernel
theorem dX9_known_19 : decode cX9_known 19 = .ok (.getfield 61, 3) := by decide +kernel
theorem dX9_known_22 : decode cX9_known 22 = .ok (.iload_n 1, 1) := by decide +kernel
theorem dX9_known_23 : decode cX9_known 23 = .ok (.putfield 348, 3) := by decide +kernel
theorem dX9_known_26 : decode cX9_known 26 = .ok (.iconst 1, 1) := by decide +kernel
theorem dX9_known_27 : decode cX9_known 27 = .ok (.ireturn, 1) := by decide +kernel
theorem dX9_rues_0 : decode cX9_rues 0 = .ok (.aload_n 0, 1) := by decide +kernel
theorem dX9_rues_1 : decode cX9_rues 1 = .ok (.iload_n 1, 1) := by decide +kernel
theorem dX9_rues_2 : decode cX9_rues 2 = .ok (.invokevirtual 129, 3) := by decide +kernel
theorem dX9_rues_5 : decode cX9_rues 5 = .ok (.ifCond .ne 5, 3) := by decide +kernel
theorem dX9_rues_8 : decode cX9_rues 8 = .ok (.iconst (-1), 1) := by decide +kernel
theorem dX9_rues_9 : decode cX9_rues 9 = .ok (.ireturn, 1) := by decide +kernel
theorem dX9_rues_10 : decode cX9_rues 10 = .ok (.aload_n 0, 1) := by decide +kernel
theorem dX9_rues_11 : decode cX9_rues 11 = .ok (.getfield 61, 3) := by decide +kernel
theorem dX9_rues_14 : decode cX9_rues 14 = .ok (.invokevirtual 351, 3) := by decide +kernel
theorem dX9_rues_17 : decode cX9_rues 17 = .ok (.istore_n 2, 1) := by decide +kernel
theorem dX9_rues_18 : decode cX9_rues 18 = .ok (.iconst 0, 1) := by decide +kernel
theorem dX9_rues_19 : decode cX9_rues 19 = .ok (.istore_n 3, 1) := by decide +kernel
theorem dX9_rues_20 : decode cX9_rues 20 = .ok (.iconst 0, 1) := by decide +kernel
theorem dX9_rues_21 : decode cX9_rues 21 = .ok (.istore 4, 2) := by decide +kernel
theorem dX9_rues_23 : decode cX9_rues 23 = .ok (.iload 4, 2) := by decide +kernel
theorem dX9_rues_25 : decode cX9_rues 25 = .ok (.bipush 10, 2) := by decide +kernel
theorem dX9_rues_27 : decode cX9_rues 27 = .ok (.if_icmp .ge 30, 3) := by decide +kernel
theorem dX9_rues_30 : decode cX9_rues 30 = .ok (.aload_n 0, 1) := by decide +kernel
theorem dX9_rues_31 : decode cX9_rues 31 = .ok (.iload_n 1, 1) := by decide +kernel
theorem dX9_rues_32 : decode cX9_rues 32 = .ok (.bipush 10, 2) := by decide +kernel
theorem dX9_rues_34 : decode cX9_rues 34 = .ok (.iload 4, 2) := by decide +kernel
theorem dX9_rues_36 : decode cX9_rues 36 = .ok (.imul, 1) := by decide +kernel
theorem dX9_rues_37 : decode cX9_rues 37 = .ok (.iload_n 2, 1) := by decide +kernel
theorem dX9_rues_38 : decode cX9_rues 38 = .ok (.invokevirtual 354, 3) := by decide +kernel
theorem dX9_rues_41 : decode cX9_rues 41 = .ok (.ifCond .eq 10, 3) := by decide +kernel
theorem dX9_rues_44 : decode cX9_rues 44 = .ok (.iload_n 3, 1) := by decide +kernel
theorem dX9_rues_45 : decode cX9_rues 45 = .ok (.iconst 1, 1) := by decide +kernel
theorem dX9_rues_46 : decode cX9_rues 46 = .ok (.iload 4, 2) := by decide +kernel
theorem dX9_rues_48 : decode cX9_rues 48 = .ok (.ishl, 1) := by decide +kernel
theorem dX9_rues_49 : decode cX9_rues 49 = .ok (.ior, 1) := by decide +kernel
theorem dX9_rues_50 : decode cX9_rues 50 = .ok (.istore_n 3, 1) := by decide +kernel
theorem dX9_rues_51 : decode cX9_rues 51 = .ok (.iinc 4 1, 3) := by decide +kernel
theorem dX9_rues_54 : decode cX9_rues 54 = .ok (.goto (-31), 3) := by decide +kernel
theorem dX9_rues_57 : decode cX9_rues 57 = .ok (.iload_n 3, 1) := by decide +kernel
theorem dX9_rues_58 : decode cX9_rues 58 = .ok (.ireturn, 1) := by decide +kernel
theorem dX9_agrees_0 : decode cX9_agrees 0 = .ok (.aload_n 0, 1) := by decide +kernel
theorem dX9_agrees_1 : decode cX9_agrees 1 = .ok (.getfield 45, 3) := by decide +kernel
theorem dX9_agrees_4 : decode cX9_agrees 4 = .ok (.aload_n 0, 1) := by decide +kernel
theorem dX9_agrees_5 : decode cX9_agrees 5 = .ok (.getfield 18, 3) := by decide +kernel
theorem dX9_agrees_8 : decode cX9_agrees 8 = .ok (.invokevirtual 100, 3) := by decide +kernel
theorem dX9_agrees_11 : decode cX9_agrees 11 = .ok (.aload_n 0, 1) := by decide +kernel
theorem dX9_agrees_12 : decode cX9_agrees 12 = .ok (.getfield 45, 3) := by decide +kernel
theorem dX9_agrees_15 : decode cX9_agrees 15 = .ok (.getfield 143, 3) := by decide +kernel
theorem dX9_agrees_18 : decode cX9_agrees 18 = .ok (.iload_n 1, 1) := by decide +kernel
theorem dX9_agrees_19 : decode cX9_agrees 19 = .ok (.iload_n 2, 1) := by decide +kernel
theorem dX9_agrees_20 : decode cX9_agrees 20 = .ok (.iastore, 1) := by decide +kernel
theorem dX9_agrees_21 : decode cX9_agrees 21 = .ok (.iconst 1, 1) := by decide +kernel
theorem dX9_agrees_22 : decode cX9_agrees 22 = .ok (.istore 4, 2) := by decide +kernel
theorem dX9_agrees_24 : decode cX9_agrees 24 = .ok (.iload 4, 2) := by decide +kernel
theorem dX9_agrees_26 : decode cX9_agrees 26 = .ok (.iload_n 3, 1) := by decide +kernel
theorem dX9_agrees_27 : decode cX9_agrees 27 = .ok (.if_icmp .gt 38, 3) := by decide +kernel
theorem dX9_agrees_30 : decode cX9_agrees 30 = .ok (.aload_n 0, 1) := by decide +kernel
theorem dX9_agrees_31 : decode cX9_agrees 31 = .ok (.getfield 45, 3) := by decide +kernel
theorem dX9_agrees_34 : decode cX9_agrees 34 = .ok (.iconst 0, 1) := by decide +kernel
theorem dX9_agrees_35 : decode cX9_agrees 35 = .ok (.invokevirtual 271, 3) := by decide +kernel
theorem dX9_agrees_38 : decode cX9_agrees 38 = .ok (.aload_n 0, 1) := by decide +kernel
theorem dX9_agrees_39 : decode cX9_agrees 39 = .ok (.getfield 61, 3) := by decide +kernel
theorem dX9_agrees_42 : decode cX9_agrees 42 = .ok (.iload 4, 2) := by decide +kernel
theorem dX9_agrees_44 : decode cX9_agrees 44 = .ok (.aload_n 0, 1) := by decide +kernel
theorem dX9_agrees_45 : decode cX9_agrees 45 = .ok (.getfield 45, 3) := by decide +kernel
theorem dX9_agrees_48 : decode cX9_agrees 48 = .ok (.getfield 186, 3) := by decide +kernel
theorem dX9_agrees_51 : decode cX9_agrees 51 = .ok (.invokevirtual 357, 3) := by decide +kernel
theorem dX9_agrees_54 : decode cX9_agrees 54 = .ok (.ifCond .ne 5, 3) := by decide +kernel
theorem dX9_agrees_57 : decode cX9_agrees 57 = .ok (.iconst 0, 1) := by decide +kernel
theorem dX9_agrees_58 : decode cX9_agrees 58 = .ok (.ireturn, 1) := by decide +kernel
theorem dX9_agrees_59 : decode cX9_agrees 59 = .ok (.iinc 4 1, 3) := by decide +kernel
theorem dX9_agrees_62 : decode cX9_agrees 62 = .ok (.goto (-38), 3) := by decide +kernel
theorem dX9_agrees_65 : decode cX9_agrees 65 = .ok (.iconst 1, 1) := by decide +kernel
theorem dX9_agrees_66 : decode cX9_agrees 66 = .ok (.ireturn, 1) := by decide +kernel
