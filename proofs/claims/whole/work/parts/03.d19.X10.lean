theorem dX10_hold_47 : decode cX10_hold 47 = .ok (.iconst 1, 1) := by decide +kernel
theorem dX10_hold_48 : decode cX10_hold 48 = .ok (.goto 4, 3) := by decide +kernel
theorem dX10_hold_51 : decode cX10_hold 51 = .ok (.iconst 0, 1) := by decide +kernel
theorem dX10_hold_52 : decode cX10_hold 52 = .ok (.iastore, 1) := by decide +kernel
theorem dX10_hold_53 : decode cX10_hold 53 = .ok (.iconst 1, 1) := by decide +kernel
theorem dX10_hold_54 : decode cX10_hold 54 = .ok (.ireturn, 1) := by decide +kernel
theorem dX10_wet_0 : decode cX10_wet 0 = .ok (.aload_n 0, 1) := by decide +kernel
theorem dX10_wet_1 : decode cX10_wet 1 = .ok (.iconst 0, 1) := by decide +kernel
theorem dX10_wet_2 : decode cX10_wet 2 = .ok (.putfield 154, 3) := by decide +kernel
theorem dX10_wet_5 : decode cX10_wet 5 = .ok (.aload_n 0, 1) := by decide +kernel
theorem dX10_wet_6 : decode cX10_wet 6 = .ok (.iload_n 1, 1) := by decide +kernel
theorem dX10_wet_7 : decode cX10_wet 7 = .ok (.invokevirtual 422, 3) := by decide +kernel
theorem dX10_wet_10 : decode cX10_wet 10 = .ok (.ifCond .eq 23, 3) := by decide +kernel
theorem dX10_wet_13 : decode cX10_wet 13 = .ok (.iload_n 2, 1) := by decide +kernel
theorem dX10_wet_14 : decode cX10_wet 14 = .ok (.iconst 1, 1) := by decide +kernel
theorem dX10_wet_15 : decode cX10_wet 15 = .ok (.if_icmp .lt 18, 3) := by decide +kernel
theorem dX10_wet_18 : decode cX10_wet 18 = .ok (.iload_n 2, 1) := by decide +kernel
theorem dX10_wet_19 : decode cX10_wet 19 = .ok (.bipush 20, 2) := by decide +kernel
theorem dX10_wet_21 : decode cX10_wet 21 = .ok (.if_icmp .gt 12, 3) := by decide +kernel
theorem dX10_wet_24 : decode cX10_wet 24 = .ok (.aload_n 0, 1) := by decide +kernel
theorem dX10_wet_25 : decode cX10_wet 25 = .ok (.getfield 108, 3) := by decide +kernel
theorem dX10_wet_28 : decode cX10_wet 28 = .ok (.iload_n 1, 1) := by decide +kernel
theorem dX10_wet_29 : decode cX10_wet 29 = .ok (.iaload, 1) := by decide +kernel
theorem dX10_wet_30 : decode cX10_wet 30 = .ok (.ifCond .eq 5, 3) := by decide +kernel
theorem dX10_wet_33 : decode cX10_wet 33 = .ok (.iconst (-1), 1) := by decide +kernel
theorem dX10_wet_34 : decode cX10_wet 34 = .ok (.ireturn, 1) := by decide +kernel
theorem dX10_wet_35 : decode cX10_wet 35 = .ok (.aload_n 0, 1) := by decide +kernel
theorem dX10_wet_36 : decode cX10_wet 36 = .ok (.invokevirtual 429, 3) := by decide +kernel
theorem dX10_wet_39 : decode cX10_wet 39 = .ok (.aload_n 0, 1) := by decide +kernel
theorem dX10_wet_40 : decode cX10_wet 40 = .ok (.getfield 111, 3) := by decide +kernel
theorem dX10_wet_43 : decode cX10_wet 43 = .ok (.iload_n 1, 1) := by decide +kernel
theorem dX10_wet_44 : decode cX10_wet 44 = .ok (.sipush 999, 3) := by decide +kernel
theorem dX10_wet_47 : decode cX10_wet 47 = .ok (.aload_n 0, 1) := by decide +kernel
theorem dX10_wet_48 : decode cX10_wet 48 = .ok (.getfield 111, 3) := by decide +kernel
theorem dX10_wet_51 : decode cX10_wet 51 = .ok (.iload_n 1, 1) := by decide +kernel
theorem dX10_wet_52 : decode cX10_wet 52 = .ok (.iaload, 1) := by decide +kernel
theorem dX10_wet_53 : decode cX10_wet 53 = .ok (.iload_n 2, 1) := by decide +kernel
theorem dX10_wet_54 : decode cX10_wet 54 = .ok (.iadd, 1) := by decide +kernel
theorem dX10_wet_55 : decode cX10_wet 55 = .ok (.invokestatic 389, 3) := by decide +kernel
theorem dX10_wet_58 : decode cX10_wet 58 = .ok (.iastore, 1) := by decide +kernel
theorem dX10_wet_59 : decode cX10_wet 59 = .ok (.aload_n 0, 1) := by decide +kernel
theorem dX10_wet_60 : decode cX10_wet 60 = .ok (.getfield 111, 3) := by decide +kernel
theorem dX10_wet_63 : decode cX10_wet 63 = .ok (.iload_n 1, 1) := by decide +kernel
theorem dX10_wet_64 : decode cX10_wet 64 = .ok (.iaload, 1) := by decide +kernel
theorem dX10_wet_65 : decode cX10_wet 65 = .ok (.ireturn, 1) := by decide +kernel
theorem dX10_go_0 : decode cX10_go 0 = .ok (.aload_n 0, 1) := by decide +kernel
theorem dX10_go_1 : decode cX10_go 1 = .ok (.iconst 0, 1) := by decide +kernel
theorem dX10_go_2 : decode cX10_go 2 = .ok (.putfield 154, 3) := by decide +kernel
theorem dX10_go_5 : decode cX10_go 5 = .ok (.iload_n 1, 1) := by decide +kernel
theorem dX10_go_6 : decode cX10_go 6 = .ok (.ifCond .lt 23, 3) := by decide +kernel
theorem dX10_go_9 : decode cX10_go 9 = .ok (.iload_n 1, 1) := by decide +kernel
theorem dX10_go_10 : decode cX10_go 10 = .ok (.bipush 99, 2) := by decide +kernel
theorem dX10_go_12 : decode cX10_go 12 = .ok (.if_icmp .gt 17, 3) := by decide +kernel
theorem dX10_go_15 : decode cX10_go 15 = .ok (.aload_n 0, 1) := by decide +kernel
theorem dX10_go_16 : decode cX10_go 16 = .ok (.getfield 72, 3) := by decide +kernel
theorem dX10_go_19 : decode cX10_go 19 = .ok (.iconst 0, 1) := by decide +kernel
theorem dX10_go_20 : decode cX10_go 20 = .ok (.iaload, 1) := by decide +kernel
theorem dX10_go_21 : decode cX10_go 21 = .ok (.iload_n 1, 1) := by decide +kernel
theorem dX10_go_22 : decode cX10_go 22 = .ok (.iadd, 1) := by decide +kernel
theorem dX10_go_23 : decode cX10_go 23 = .ok (.sipush 9900, 3) := by decide +kernel
theorem dX10_go_26 : decode cX10_go 26 = .ok (.if_icmp .le 5, 3) := by decide +kernel
theorem dX10_go_29 : decode cX10_go 29 = .ok (.iconst (-1), 1) := by decide +kernel
theorem dX10_go_30 : decode cX10_go 30 = .ok (.ireturn, 1) := by decide +kernel
theorem dX10_go_31 : decode cX10_go 31 = .ok (.iload_n 1, 1) := by decide +kernel
theorem dX10_go_32 : decode cX10_go 32 = .ok (.ifCond .le 8, 3) := by decide +kernel
theorem dX10_go_35 : decode cX10_go 35 = .ok (.aload_n 0, 1) := by decide +kernel
theorem dX10_go_36 : decode cX10_go 36 = .ok (.iconst 0, 1) := by decide +kernel
theorem dX10_go_37 : decode cX10_go 37 = .ok (.putfield 311, 3) := by decide +kernel
theorem dX10_go_40 : decode cX10_go 40 = .ok (.iconst 0, 1) := by decide +kernel
theorem dX10_go_41 : decode cX10_go 41 = .ok (.istore_n 2, 1) := by decide +kernel
theorem dX10_go_42 : decode cX10_go 42 = .ok (.iload_n 2, 1) := by decide +kernel
theorem dX10_go_43 : decode cX10_go 43 = .ok (.iload_n 1, 1) := by decide +kernel
theorem dX10_go_44 : decode cX10_go 44 = .ok (.if_icmp .ge 15, 3) := by decide +kernel
theorem dX10_go_47 : decode cX10_go 47 = .ok (.aload_n 0, 1) := by decide +kernel
theorem dX10_go_48 : decode cX10_go 48 = .ok (.iconst 0, 1) := by decide +kernel
theorem dX10_go_49 : decode cX10_go 49 = .ok (.iconst 1, 1) := by decide +kernel
theorem dX10_go_50 : decode cX10_go 50 = .ok (.invokevirtual 403, 3) := by decide +kernel
theorem dX10_go_53 : decode cX10_go 53 = .ok (.iinc 2 1, 3) := by decide +kernel
theorem dX10_go_56 : decode cX10_go 56 = .ok (.goto (-14), 3) := by decide +kernel
theorem dX10_go_59 : decode cX10_go 59 = .ok (.aload_n 0, 1) := by decide +kernel
theorem dX10_go_60 : decode cX10_go 60 = .ok (.getfield 72, 3) := by decide +kernel
theorem dX10_go_63 : decode cX10_go 63 = .ok (.iconst 0, 1) := by decide +kernel
theorem dX10_go_64 : decode cX10_go 64 = .ok (.iaload, 1) := by decide +kernel
theorem dX10_go_65 : decode cX10_go 65 = .ok (.ireturn, 1) := by decide +kernel
theorem dX10_ahead_0 : decode cX10_ahead 0 = .ok (.aload_n 0, 1) := by decide +kernel
theorem dX10_ahead_1 : decode cX10_ahead 1 = .ok (.iconst 0, 1) := by decide +kernel
theorem dX10_ahead_2 : decode cX10_ahead 2 = .ok (.putfield 154, 3) := by decide +kernel
theorem dX10_ahead_5 : decode cX10_ahead 5 = .ok (.iload_n 1, 1) := by decide +kernel
theorem dX10_ahead_6 : decode cX10_ahead 6 = .ok (.ifCond .lt 18, 3) := by decide +kernel
theorem dX10_ahead_9 : decode cX10_ahead 9 = .ok (.iload_n 1, 1) := by decide +kernel
theorem dX10_ahead_10 : decode cX10_ahead 10 = .ok (.bipush 99, 2) := by decide +kernel
theorem dX10_ahead_12 : decode cX10_ahead 12 = .ok (.if_icmp .gt 12, 3) := by decide +kernel
theorem dX10_ahead_15 : decode cX10_ahead 15 = .ok (.iload_n 2, 1) := by decide +kernel
theorem dX10_ahead_16 : decode cX10_ahead 16 = .ok (.ifCond .lt 8, 3) := by decide +kernel
theorem dX10_ahead_19 : decode cX10_ahead 19 = .ok (.iload_n 2, 1) := by decide +kernel
theorem dX10_ahead_20 : decode cX10_ahead 20 = .ok (.iconst 4, 1) := by decide +kernel
theorem dX10_ahead_21 : decode cX10_ahead 21 = .ok (.if_icmp .le 5, 3) := by decide +kernel
theorem dX10_ahead_24 : decode cX10_ahead 24 = .ok (.iconst (-1), 1) := by decide +kernel
theorem dX10_ahead_25 : decode cX10_ahead 25 = .ok (.ireturn, 1) := by decide +kernel
theorem dX10_ahead_26 : decode cX10_ahead 26 = .ok (.aload_n 0, 1) := by decide +kernel
theorem dX10_ahead_27 : decode cX10_ahead 27 = .ok (.iload_n 1, 1) := by decide +kernel
theorem dX10_ahead_28 : decode cX10_ahead 28 = .ok (.invokevirtual 432, 3) := by decide +kernel
theorem dX10_ahead_31 : decode cX10_ahead 31 = .ok (.iload_n 2, 1) := by decide +kernel
theorem dX10_ahead_32 : decode cX10_ahead 32 = .ok (.tableswitch 81 0 3 #[32, 46, 60, 74], 32) := by decide +kernel
theorem dX10_ahead_64 : decode cX10_ahead 64 = .ok (.aload_n 0, 1) := by decide +kernel
theorem dX10_ahead_65 : decode cX10_ahead 65 = .ok (.iconst 1, 1) := by decide +kernel
theorem dX10_ahead_66 : decode cX10_ahead 66 = .ok (.iconst 2, 1) := by decide +kernel
theorem dX10_ahead_67 : decode cX10_ahead 67 = .ok (.invokevirtual 435, 3) := by decide +kernel
theorem dX10_ahead_70 : decode cX10_ahead 70 = .ok (.aload_n 0, 1) := by decide +kernel
theorem dX10_ahead_71 : decode cX10_ahead 71 = .ok (.iconst 0, 1) := by decide +kernel
theorem dX10_ahead_72 : decode cX10_ahead 72 = .ok (.iconst 2, 1) := by decide +kernel
theorem dX10_ahead_73 : decode cX10_ahead 73 = .ok (.invokevirtual 435, 3) := by decide +kernel
theorem dX10_ahead_76 : decode cX10_ahead 76 = .ok (.isub, 1) := by decide +kernel
theorem dX10_ahead_77 : decode cX10_ahead 77 = .ok (.ireturn, 1) := by decide +kernel
theorem dX10_ahead_78 : decode cX10_ahead 78 = .ok (.aload_n 0, 1) := by decide +kernel
theorem dX10_ahead_79 : decode cX10_ahead 79 = .ok (.iconst 1, 1) := by decide +kernel
theorem dX10_ahead_80 : decode cX10_ahead 80 = .ok (.iconst 3, 1) := by decide +kernel
theorem dX10_ahead_81 : decode cX10_ahead 81 = .ok (.invokevirtual 435, 3) := by decide +kernel
theorem dX10_ahead_84 : decode cX10_ahead 84 = .ok (.aload_n 0, 1) := by decide +kernel
theorem dX10_ahead_85 : decode cX10_ahead 85 = .ok (.iconst 0, 1) := by decide +kernel
theorem dX10_ahead_86 : decode cX10_ahead 86 = .ok (.iconst 3, 1) := by decide +kernel
theorem dX10_ahead_87 : decode cX10_ahead 87 = .ok (.invokevirtual 435, 3) := by decide +kernel
theorem dX10_ahead_90 : decode cX10_ahead 90 = .ok (.isub, 1) := by decide +kernel
theorem dX10_ahead_91 : decode cX10_ahead 91 = .ok (.ireturn, 1) := by decide +kernel
theorem dX10_ahead_92 : decode cX10_ahead 92 = .ok (.aload_n 0, 1) := by decide +kernel
theorem dX10_ahead_93 : decode cX10_ahead 93 = .ok (.iconst 1, 1) := by decide +kernel
theorem dX10_ahead_94 : decode cX10_ahead 94 = .ok (.iconst 2, 1) := by decide +kernel
theorem dX10_ahead_95 : decode cX10_ahead 95 = .ok (.invokevirtual 438, 3) := by decide +kernel
theorem dX10_ahead_98 : decode cX10_ahead 98 = .ok (.aload_n 0, 1) := by decide +kernel
theorem dX10_ahead_99 : decode cX10_ahead 99 = .ok (.iconst 0, 1) := by decide +kernel
theorem dX10_ahead_100 : decode cX10_ahead 100 = .ok (.iconst 2, 1) := by decide +kernel
theorem dX10_ahead_101 : decode cX10_ahead 101 = .ok (.invokevirtual 438, 3) := by decide +kernel
theorem dX10_ahead_104 : decode cX10_ahead 104 = .ok (.isub, 1) := by decide +kernel
theorem dX10_ahead_105 : decode cX10_ahead 105 = .ok (.ireturn, 1) := by decide +kernel
theorem dX10_ahead_106 : decode cX10_ahead 106 = .ok (.aload_n 0, 1) := by decide +kernel
theorem dX10_ahead_107 : decode cX10_ahead 107 = .ok (.getfield 78, 3) := by decide +kernel
theorem dX10_ahead_110 : decode cX10_ahead 110 = .ok (.iconst 1, 1) := by decide +kernel
theorem dX10_ahead_111 : decode cX10_ahead 111 = .ok (.iaload, 1) := by decide +kernel
theorem dX10_ahead_112 : decode cX10_ahead 112 = .ok (.ireturn, 1) := by decide +kernel
theorem dX10_ahead_113 : decode cX10_ahead 113 = .ok (.aload_n 0, 1) := by decide +kernel
theorem dX10_ahead_114 : decode cX10_ahead 114 = .ok (.getfield 81, 3) := by decide +kernel
theorem dX10_ahead_117 : decode cX10_ahead 117 = .ok (.iconst 1, 1) := by decide +kernel
theorem dX10_ahead_118 : decode cX10_ahead 118 = .ok (.iaload, 1) := by decide +kernel
theorem dX10_ahead_119 : decode cX10_ahead 119 = .ok (.ireturn, 1) := by decide +kernel
theorem dX10_goes_0 : decode cX10_goes 0 = .ok (.aload_n 0, 1) := by decide +kernel
theorem dX10_goes_1 : decode cX10_goes 1 = .ok (.iconst 0, 1) := by decide +kernel
theorem dX10_goes_2 : decode cX10_goes 2 = .ok (.putfield 154, 3) := by decide +kernel
theorem dX10_goes_5 : decode cX10_goes 5 = .ok (.aload_n 0, 1) := by decide +kernel
theorem dX10_goes_6 : decode cX10_goes 6 = .ok (.iload_n 1, 1) := by decide +kernel
theorem dX10_goes_7 : decode cX10_goes 7 = .ok (.invokevirtual 413, 3) := by decide +kernel
theorem dX10_goes_10 : decode cX10_goes 10 = .ok (.ifCond .ne 5, 3) := by decide +kernel
theorem dX10_goes_13 : decode cX10_goes 13 = .ok (.iconst (-1), 1) := by decide +kernel
theorem dX10_goes_14 : decode cX10_goes 14 = .ok (.ireturn, 1) := by decide +kernel
theorem dX10_goes_15 : decode cX10_goes 15 = .ok (.aload_n 0, 1) := by decide +kernel
theorem dX10_goes_16 : decode cX10_goes 16 = .ok (.iconst 1, 1) := by decide +kernel
theorem dX10_goes_17 : decode cX10_goes 17 = .ok (.iconst 0, 1) := by decide +kernel
theorem dX10_goes_18 : decode cX10_goes 18 = .ok (.invokevirtual 407, 3) := by decide +kernel
theorem dX10_goes_21 : decode cX10_goes 21 = .ok (.iconst 1, 1) := by decide +kernel
theorem dX10_goes_22 : decode cX10_goes 22 = .ok (.istore_n 2, 1) := by decide +kernel
theorem dX10_goes_23 : decode cX10_goes 23 = .ok (.iload_n 2, 1) := by decide +kernel
theorem dX10_goes_24 : decode cX10_goes 24 = .ok (.bipush 99, 2) := by decide +kernel
theorem dX10_goes_26 : decode cX10_goes 26 = .ok (.if_icmp .gt 29, 3) := by decide +kernel
theorem dX10_goes_29 : decode cX10_goes 29 = .ok (.aload_n 0, 1) := by decide +kernel
theorem dX10_goes_30 : decode cX10_goes 30 = .ok (.iconst 1, 1) := by decide +kernel
theorem dX10_goes_31 : decode cX10_goes 31 = .ok (.iconst 0, 1) := by decide +kernel
theorem dX10_goes_32 : decode cX10_goes 32 = .ok (.invokevirtual 403, 3) := by decide +kernel
theorem dX10_goes_35 : decode cX10_goes 35 = .ok (.aload_n 0, 1) := by decide +kernel
theorem dX10_goes_36 : decode cX10_goes 36 = .ok (.getfield 367, 3) := by decide +kernel
theorem dX10_goes_39 : decode cX10_goes 39 = .ok (.iload_n 1, 1) := by decide +kernel
theorem dX10_goes_40 : decode cX10_goes 40 = .ok (.ishr, 1) := by decide +kernel
theorem dX10_goes_41 : decode cX10_goes 41 = .ok (.iconst 1, 1) := by decide +kernel
theorem dX10_goes_42 : decode cX10_goes 42 = .ok (.iand, 1) := by decide +kernel
theorem dX10_goes_43 : decode cX10_goes 43 = .ok (.iconst 1, 1) := by decide +kernel
theorem dX10_goes_44 : decode cX10_goes 44 = .ok (.if_icmp .ne 5, 3) := by decide +kernel
theorem dX10_goes_47 : decode cX10_goes 47 = .ok (.iload_n 2, 1) := by decide +kernel
theorem dX10_goes_48 : decode cX10_goes 48 = .ok (.ireturn, 1) := by decide +kernel
theorem dX10_goes_49 : decode cX10_goes 49 = .ok (.iinc 2 1, 3) := by decide +kernel
theorem dX10_goes_52 : decode cX10_goes 52 = .ok (.goto (-29), 3) := by decide +kernel
theorem dX10_goes_55 : decode cX10_goes 55 = .ok (.bipush (-2), 2) := by decide +kernel
theorem dX10_goes_57 : decode cX10_goes 57 = .ok (.ireturn, 1) := by decide +kernel
theorem dX10_out_0 : decode cX10_out 0 = .ok (.aload_n 0, 1) := by decide +kernel
theorem dX10_out_1 : decode cX10_out 1 = .ok (.iconst 0, 1) := by decide +kernel
theorem dX10_out_2 : decode cX10_out 2 = .ok (.putfield 154, 3) := by decide +kernel
theorem dX10_out_5 : decode cX10_out 5 = .ok (.aload_n 0, 1) := by decide +kernel
theorem dX10_out_6 : decode cX10_out 6 = .ok (.iload_n 1, 1) := by decide +kernel
theorem dX10_out_7 : decode cX10_out 7 = .ok (.invokevirtual 422, 3) := by decide +kernel
theorem dX10_out_10 : decode cX10_out 10 = .ok (.ifCond .ne 5, 3) := by decide +kernel
theorem dX10_out_13 : decode cX10_out 13 = .ok (.iconst (-1), 1) := by decide +kernel
theorem dX10_out_14 : decode cX10_out 14 = .ok (.ireturn, 1) := by decide +kernel
theorem dX10_out_15 : decode cX10_out 15 = .ok (.aload_n 0, 1) := by decide +kernel
theorem dX10_out_16 : decode cX10_out 16 = .ok (.iconst 1, 1) := by decide +kernel
theorem dX10_out_17 : decode cX10_out 17 = .ok (.iconst 0, 1) := by decide +kernel
theorem dX10_out_18 : decode cX10_out 18 = .ok (.invokevirtual 407, 3) := by decide +kernel
theorem dX10_out_21 : decode cX10_out 21 = .ok (.iconst 0, 1) := by decide +kernel
theorem dX10_out_22 : decode cX10_out 22 = .ok (.istore_n 2, 1) := by decide +kernel
theorem dX10_out_23 : decode cX10_out 23 = .ok (.iload_n 2, 1) := by decide +kernel
theorem dX10_out_24 : decode cX10_out 24 = .ok (.bipush 99, 2) := by decide +kernel
theorem dX10_out_26 : decode cX10_out 26 = .ok (.if_icmp .gt 30, 3) := by decide +kernel
theorem dX10_out_29 : decode cX10_out 29 = .ok (.aload_n 0, 1) := by decide +kernel
theorem dX10_out_30 : decode cX10_out 30 = .ok (.getfield 108, 3) := by decide +kernel
theorem dX10_out_33 : decode cX10_out 33 = .ok (.bipush 8, 2) := by decide +kernel
theorem dX10_out_35 : decode cX10_out 35 = .ok (.iload_n 1, 1) := by decide +kernel
theorem dX10_out_36 : decode cX10_out 36 = .ok (.iadd, 1) := by decide +kernel
theorem dX10_out_37 : decode cX10_out 37 = .ok (.iaload, 1) := by decide +kernel
theorem dX10_out_38 : decode cX10_out 38 = .ok (.iconst 2, 1) := by decide +kernel
theorem dX10_out_39 : decode cX10_out 39 = .ok (.if_icmp .ne 5, 3) := by decide +kernel
theorem dX10_out_42 : decode cX10_out 42 = .ok (.iload_n 2, 1) := by decide +kernel
theorem dX10_out_43 : decode cX10_out 43 = .ok (.ireturn, 1) := by decide +kernel
theorem dX10_out_44 : decode cX10_out 44 = .ok (.aload_n 0, 1) := by decide +kernel
theorem dX10_out_45 : decode cX10_out 45 = .ok (.iconst 1, 1) := by decide +kernel
theorem dX10_out_46 : decode cX10_out 46 = .ok (.iconst 0, 1) := by decide +kernel
theorem dX10_out_47 : decode cX10_out 47 = .ok (.invokevirtual 403, 3) := by decide +kernel
theorem dX10_out_50 : decode cX10_out 50 = .ok (.iinc 2 1, 3) := by decide +kernel
theorem dX10_out_53 : decode cX10_out 53 = .ok (.goto (-30), 3) := by decide +kernel
theorem dX10_out_56 : decode cX10_out 56 = .ok (.bipush (-2), 2) := by decide +kernel
theorem dX10_out_58 : decode cX10_out 58 = .ok (.ireturn, 1) := by decide +kernel
theorem dX10_premiumOf_0 : decode cX10_premiumOf 0 = .ok (.aload_n 0, 1) := by decide +kernel
theorem dX10_premiumOf_1 : decode cX10_premiumOf 1 = .ok (.iconst 0, 1) := by decide +kernel
theorem dX10_premiumOf_2 : decode cX10_premiumOf 2 = .ok (.invokevirtual 357, 3) := by decide +kernel
theorem dX10_premiumOf_5 : decode cX10_premiumOf 5 = .ok (.istore_n 2, 1) := by decide +kernel
theorem dX10_premiumOf_6 : decode cX10_premiumOf 6 = .ok (.iload_n 2, 1) := by decide +kernel
theorem dX10_premiumOf_7 : decode cX10_premiumOf 7 = .ok (.iconst (-1), 1) := by decide +kernel
theorem dX10_premiumOf_8 : decode cX10_premiumOf 8 = .ok (.if_icmp .eq 12, 3) := by decide +kernel
theorem dX10_premiumOf_11 : decode cX10_premiumOf 11 = .ok (.aload_n 0, 1) := by decide +kernel
theorem dX10_premiumOf_12 : decode cX10_premiumOf 12 = .ok (.getfield 93, 3) := by decide +kernel
theorem dX10_premiumOf_15 : decode cX10_premiumOf 15 = .ok (.iload_n 1, 1) := by decide +kernel
theorem dX10_premiumOf_16 : decode cX10_premiumOf 16 = .ok (.iaload, 1) := by decide +kernel
theorem dX10_premiumOf_17 : decode cX10_premiumOf 17 = .ok (.ifCond .eq 6, 3) := by decide +kernel
theorem dX10_premiumOf_20 : decode cX10_premiumOf 20 = .ok (.bipush (-2), 2) := by decide +kernel
theorem dX10_premiumOf_22 : decode cX10_premiumOf 22 = .ok (.ireturn, 1) := by decide +kernel
theorem dX10_premiumOf_23 : decode cX10_premiumOf 23 = .ok (.iconst 0, 1) := by decide +kernel
theorem dX10_premiumOf_24 : decode cX10_premiumOf 24 = .ok (.istore_n 3, 1) := by decide +kernel
theorem dX10_premiumOf_25 : decode cX10_premiumOf 25 = .ok (.iload_n 3, 1) := by decide +kernel
theorem dX10_premiumOf_26 : decode cX10_premiumOf 26 = .ok (.sipush 200, 3) := by decide +kernel
theorem dX10_premiumOf_29 : decode cX10_premiumOf 29 = .ok (.if_icmp .gt 22, 3) := by decide +kernel
theorem dX10_premiumOf_32 : decode cX10_premiumOf 32 = .ok (.aload_n 0, 1) := by decide +kernel
theorem dX10_premiumOf_33 : decode cX10_premiumOf 33 = .ok (.iconst 0, 1) := by decide +kernel
theorem dX10_premiumOf_34 : decode cX10_premiumOf 34 = .ok (.iload_n 1, 1) := by decide +kernel
theorem dX10_premiumOf_35 : decode cX10_premiumOf 35 = .ok (.iload_n 2, 1) := by decide +kernel
theorem dX10_premiumOf_36 : decode cX10_premiumOf 36 = .ok (.iload_n 3, 1) := by decide +kernel
theorem dX10_premiumOf_37 : decode cX10_premiumOf 37 = .ok (.invokevirtual 363, 3) := by decide +kernel
theorem dX10_premiumOf_40 : decode cX10_premiumOf 40 = .ok (.ifCond .eq 5, 3) := by decide +kernel
theorem dX10_premiumOf_43 : decode cX10_premiumOf 43 = .ok (.iload_n 3, 1) := by decide +kernel
theorem dX10_premiumOf_44 : decode cX10_premiumOf 44 = .ok (.ireturn, 1) := by decide +kernel
theorem dX10_premiumOf_45 : decode cX10_premiumOf 45 = .ok (.iinc 3 1, 3) := by decide +kernel
theorem dX10_premiumOf_48 : decode cX10_premiumOf 48 = .ok (.goto (-23), 3) := by decide +kernel
theorem dX10_premiumOf_51 : decode cX10_premiumOf 51 = .ok (.bipush (-2), 2) := by decide +kernel
theorem dX10_premiumOf_53 : decode cX10_premiumOf 53 = .ok (.ireturn, 1) := by decide +kernel
theorem dX10_premium_0 : decode cX10_premium 0 = .ok (.aload_n 0, 1) := by decide +kernel
theorem dX10_premium_1 : decode cX10_premium 1 = .ok (.iconst 0, 1) := by decide +kernel
theorem dX10_premium_2 : decode cX10_premium 2 = .ok (.putfield 154, 3) := by decide +kernel
theorem dX10_premium_5 : decode cX10_premium 5 = .ok (.aload_n 0, 1) := by decide +kernel
theorem dX10_premium_6 : decode cX10_premium 6 = .ok (.iload_n 1, 1) := by decide +kernel
theorem dX10_premium_7 : decode cX10_premium 7 = .ok (.invokevirtual 413, 3) := by decide +kernel
theorem dX10_premium_10 : decode cX10_premium 10 = .ok (.ifCond .eq 11, 3) := by decide +kernel
theorem dX10_premium_13 : decode cX10_premium 13 = .ok (.aload_n 0, 1) := by decide +kernel
theorem dX10_premium_14 : decode cX10_premium 14 = .ok (.iload_n 1, 1) := by decide +kernel
theorem dX10_premium_15 : decode cX10_premium 15 = .ok (.invokevirtual 441, 3) := by decide +kernel
theorem dX10_premium_18 : decode cX10_premium 18 = .ok (.goto 4, 3) := by decide +kernel
theorem dX10_premium_21 : decode cX10_premium 21 = .ok (.iconst (-1), 1) := by decide +kernel
theorem dX10_premium_22 : decode cX10_premium 22 = .ok (.ireturn, 1) := by decide +kernel
theorem dX10_cover_0 : decode cX10_cover 0 = .ok (.aload_n 0, 1) := by decide +kernel
theorem dX10_cover_1 : decode cX10_cover 1 = .ok (.iconst 0, 1) := by decide +kernel
theorem dX10_cover_2 : decode cX10_cover 2 = .ok (.putfield 154, 3) := by decide +kernel
theorem dX10_cover_5 : decode cX10_cover 5 = .ok (.iload_n 1, 1) := by decide +kernel
theorem dX10_cover_6 : decode cX10_cover 6 = .ok (.ifCond .lt 9, 3) := by decide +kernel
theorem dX10_cover_9 : decode cX10_cover 9 = .ok (.iload_n 1, 1) := by decide +kernel
theorem dX10_cover_10 : decode cX10_cover 10 = .ok (.bipush 6, 2) := by decide +kernel
theorem dX10_cover_12 : decode cX10_cover 12 = .ok (.if_icmp .le 5, 3) := by decide +kernel
theorem dX10_cover_15 : decode cX10_cover 15 = .ok (.iconst (-1), 1) := by decide +kernel
theorem dX10_cover_16 : decode cX10_cover 16 = .ok (.ireturn, 1) := by decide +kernel
theorem dX10_cover_17 : decode cX10_cover 17 = .ok (.iconst 0, 1) := by decide +kernel
theorem dX10_cover_18 : decode cX10_cover 18 = .ok (.istore_n 2, 1) := by decide +kernel
theorem dX10_cover_19 : decode cX10_cover 19 = .ok (.iconst 0, 1) := by decide +kernel
theorem dX10_cover_20 : decode cX10_cover 20 = .ok (.istore_n 3, 1) := by decide +kernel
theorem dX10_cover_21 : decode cX10_cover 21 = .ok (.iload_n 3, 1) := by decide +kernel
theorem dX10_cover_22 : decode cX10_cover 22 = .ok (.aload_n 0, 1) := by decide +kernel
theorem dX10_cover_23 : decode cX10_cover 23 = .ok (.getfield 13, 3) := by decide +kernel
theorem dX10_cover_26 : decode cX10_cover 26 = .ok (.iconst 0, 1) := by decide +kernel
theorem dX10_cover_27 : decode cX10_cover 27 = .ok (.iaload, 1) := by decide +kernel
theorem dX10_cover_28 : decode cX10_cover 28 = .ok (.if_icmp .ge 95, 3) := by decide +kernel
theorem dX10_cover_31 : decode cX10_cover 31 = .ok (.aload_n 0, 1) := by decide +kernel
theorem dX10_cover_32 : decode cX10_cover 32 = .ok (.getfield 102, 3) := by decide +kernel
theorem dX10_cover_35 : decode cX10_cover 35 = .ok (.iload_n 3, 1) := by decide +kernel
theorem dX10_cover_36 : decode cX10_cover 36 = .ok (.iaload, 1) := by decide +kernel
theorem dX10_cover_37 : decode cX10_cover 37 = .ok (.iconst 1, 1) := by decide +kernel
theorem dX10_cover_38 : decode cX10_cover 38 = .ok (.if_icmp .ne 8, 3) := by decide +kernel
theorem dX10_cover_41 : decode cX10_cover 41 = .ok (.bipush (-2), 2) := by decide +kernel
theorem dX10_cover_43 : decode cX10_cover 43 = .ok (.goto 8, 3) := by decide +kernel
theorem dX10_cover_46 : decode cX10_cover 46 = .ok (.aload_n 0, 1) := by decide +kernel
theorem dX10_cover_47 : decode cX10_cover 47 = .ok (.iload_n 3, 1) := by decide +kernel
theorem dX10_cover_48 : decode cX10_cover 48 = .ok (.invokevirtual 441, 3) := by decide +kernel
theorem dX10_cover_51 : decode cX10_cover 51 = .ok (.istore 4, 2) := by decide +kernel
theorem dX10_cover_53 : decode cX10_cover 53 = .ok (.iload 4, 2) := by decide +kernel
theorem dX10_cover_55 : decode cX10_cover 55 = .ok (.ifCond .ge 6, 3) := by decide +kernel
theorem dX10_cover_58 : decode cX10_cover 58 = .ok (.goto 59, 3) := by decide +kernel
theorem dX10_cover_61 : decode cX10_cover 61 = .ok (.iload_n 2, 1) := by decide +kernel
theorem dX10_cover_62 : decode cX10_cover 62 = .ok (.istore 5, 2) := by decide +kernel
theorem dX10_cover_64 : decode cX10_cover 64 = .ok (.iload 5, 2) := by decide +kernel
theorem dX10_cover_66 : decode cX10_cover 66 = .ok (.ifCond .le 39, 3) := by decide +kernel
theorem dX10_cover_69 : decode cX10_cover 69 = .ok (.aload_n 0, 1) := by decide +kernel
theorem dX10_cover_70 : decode cX10_cover 70 = .ok (.getfield 117, 3) := by decide +kernel
theorem dX10_cover_73 : decode cX10_cover 73 = .ok (.iload 5, 2) := by decide +kernel
theorem dX10_cover_75 : decode cX10_cover 75 = .ok (.iconst 1, 1) := by decide +kernel
theorem dX10_cover_76 : decode cX10_cover 76 = .ok (.isub, 1) := by decide +kernel
theorem dX10_cover_77 : decode cX10_cover 77 = .ok (.iaload, 1) := by decide +kernel
theorem dX10_cover_78 : decode cX10_cover 78 = .ok (.iload 4, 2) := by decide +kernel
theorem dX10_cover_80 : decode cX10_cover 80 = .ok (.if_icmp .le 25, 3) := by decide +kernel
theorem dX10_cover_83 : decode cX10_cover 83 = .ok (.aload_n 0, 1) := by decide +kernel
theorem dX10_cover_84 : decode cX10_cover 84 = .ok (.getfield 117, 3) := by decide +kernel
theorem dX10_cover_87 : decode cX10_cover 87 = .ok (.iload 5, 2) := by decide +kernel
theorem dX10_cover_89 : decode cX10_cover 89 = .ok (.aload_n 0, 1) := by decide +kernel
theorem dX10_cover_90 : decode cX10_cover 90 = .ok (.getfield 117, 3) := by decide +kernel
theorem dX10_cover_93 : decode cX10_cover 93 = .ok (.iload 5, 2) := by decide +kernel
theorem dX10_cover_95 : decode cX10_cover 95 = .ok (.iconst 1, 1) := by decide +kernel
theorem dX10_cover_96 : decode cX10_cover 96 = .ok (.isub, 1) := by decide +kernel
theorem dX10_cover_97 : decode cX10_cover 97 = .ok (.iaload, 1) := by decide +kernel
theorem dX10_cover_98 : decode cX10_cover 98 = .ok (.iastore, 1) := by decide +kernel
theorem dX10_cover_99 : decode cX10_cover 99 = .ok (.iinc 5 (-1), 3) := by decide +kernel
theorem dX10_cover_102 : decode cX10_cover 102 = .ok (.goto (-38), 3) := by decide +kernel
theorem dX10_cover_105 : decode cX10_cover 105 = .ok (.aload_n 0, 1) := by decide +kernel
theorem dX10_cover_106 : decode cX10_cover 106 = .ok (.getfield 117, 3) := by decide +kernel
theorem dX10_cover_109 : decode cX10_cover 109 = .ok (.iload 5, 2) := by decide +kernel
theorem dX10_cover_111 : decode cX10_cover 111 = .ok (.iload 4, 2) := by decide +kernel
theorem dX10_cover_113 : decode cX10_cover 113 = .ok (.iastore, 1) := by decide +kernel
theorem dX10_cover_114 : decode cX10_cover 114 = .ok (.iinc 2 1, 3) := by decide +kernel
theorem dX10_cover_117 : decode cX10_cover 117 = .ok (.iinc 3 1, 3) := by decide +kernel
theorem dX10_cover_120 : decode cX10_cover 120 = .ok (.goto (-99), 3) := by decide +kernel
theorem dX10_cover_123 : decode cX10_cover 123 = .ok (.iconst 0, 1) := by decide +kernel
theorem dX10_cover_124 : decode cX10_cover 124 = .ok (.istore_n 3, 1) := by decide +kernel
theorem dX10_cover_125 : decode cX10_cover 125 = .ok (.iconst 0, 1) := by decide +kernel
theorem dX10_cover_126 : decode cX10_cover 126 = .ok (.istore 4, 2) := by decide +kernel
theorem dX10_cover_128 : decode cX10_cover 128 = .ok (.iload 4, 2) := by decide +kernel
theorem dX10_cover_130 : decode cX10_cover 130 = .ok (.iload_n 1, 1) := by decide +kernel
theorem dX10_cover_131 : decode cX10_cover 131 = .ok (.if_icmp .ge 25, 3) := by decide +kernel
theorem dX10_cover_134 : decode cX10_cover 134 = .ok (.iload 4, 2) := by decide +kernel
theorem dX10_cover_136 : decode cX10_cover 136 = .ok (.iload_n 2, 1) := by decide +kernel
theorem dX10_cover_137 : decode cX10_cover 137 = .ok (.if_icmp .ge 19, 3) := by decide +kernel
theorem dX10_cover_140 : decode cX10_cover 140 = .ok (.iload_n 3, 1) := by decide +kernel
theorem dX10_cover_141 : decode cX10_cover 141 = .ok (.aload_n 0, 1) := by decide +kernel
theorem dX10_cover_142 : decode cX10_cover 142 = .ok (.getfield 117, 3) := by decide +kernel
theorem dX10_cover_145 : decode cX10_cover 145 = .ok (.iload 4, 2) := by decide +kernel
theorem dX10_cover_147 : decode cX10_cover 147 = .ok (.iaload, 1) := by decide +kernel
theorem dX10_cover_148 : decode cX10_cover 148 = .ok (.iadd, 1) := by decide +kernel
theorem dX10_cover_149 : decode cX10_cover 149 = .ok (.istore_n 3, 1) := by decide +kernel
theorem dX10_cover_150 : decode cX10_cover 150 = .ok (.iinc 4 1, 3) := by decide +kernel
theorem dX10_cover_153 : decode cX10_cover 153 = .ok (.goto (-25), 3) := by decide +kernel
theorem dX10_cover_156 : decode cX10_cover 156 = .ok (.iload_n 2, 1) := by decide +kernel
theorem dX10_cover_157 : decode cX10_cover 157 = .ok (.iload_n 1, 1) := by decide +kernel
theorem dX10_cover_158 : decode cX10_cover 158 = .ok (.if_icmp .ge 8, 3) := by decide +kernel
theorem dX10_cover_161 : decode cX10_cover 161 = .ok (.bipush (-2), 2) := by decide +kernel
theorem dX10_cover_163 : decode cX10_cover 163 = .ok (.goto 4, 3) := by decide +kernel
theorem dX10_cover_166 : decode cX10_cover 166 = .ok (.iload_n 3, 1) := by decide +kernel
theorem dX10_cover_167 : decode cX10_cover 167 = .ok (.ireturn, 1) := by decide +kernel
theorem dX10_matches_0 : decode cX10_matches 0 = .ok (.iload_n 1, 1) := by decide +kernel
theorem dX10_matches_1 : decode cX10_matches 1 = .ok (.aload_n 0, 1) := by decide +kernel
theorem dX10_matches_2 : decode cX10_matches 2 = .ok (.getfield 13, 3) := by decide +kernel
theorem dX10_matches_5 : decode cX10_matches 5 = .ok (.iconst 0, 1) := by decide +kernel
theorem dX10_matches_6 : decode cX10_matches 6 = .ok (.iaload, 1) := by decide +kernel
theorem dX10_matches_7 : decode cX10_matches 7 = .ok (.if_icmp .ne 47, 3) := by decide +kernel
theorem dX10_matches_10 : decode cX10_matches 10 = .ok (.iload_n 3, 1) := by decide +kernel
theorem dX10_matches_11 : decode cX10_matches 11 = .ok (.aload_n 0, 1) := by decide +kernel
theorem dX10_matches_12 : decode cX10_matches 12 = .ok (.getfield 444, 3) := by decide +kernel
theorem dX10_matches_15 : decode cX10_matches 15 = .ok (.if_icmp .gt 4, 3) := by decide +kernel
theorem dX10_matches_18 : decode cX10_matches 18 = .ok (.return_, 1) := by decide +kernel
theorem dX10_matches_19 : decode cX10_matches 19 = .ok (.aload_n 0, 1) := by decide +kernel
theorem dX10_matches_20 : decode cX10_matches 20 = .ok (.iload_n 3, 1) := by decide +kernel
theorem dX10_matches_21 : decode cX10_matches 21 = .ok (.putfield 444, 3) := by decide +kernel
theorem dX10_matches_24 : decode cX10_matches 24 = .ok (.iconst 0, 1) := by decide +kernel
theorem dX10_matches_25 : decode cX10_matches 25 = .ok (.istore 4, 2) := by decide +kernel
theorem dX10_matches_27 : decode cX10_matches 27 = .ok (.iload 4, 2) := by decide +kernel
theorem dX10_matches_29 : decode cX10_matches 29 = .ok (.iload_n 1, 1) := by decide +kernel
theorem dX10_matches_30 : decode cX10_matches 30 = .ok (.if_icmp .ge 23, 3) := by decide +kernel
theorem dX10_matches_33 : decode cX10_matches 33 = .ok (.aload_n 0, 1) := by decide +kernel
theorem dX10_matches_34 : decode cX10_matches 34 = .ok (.getfield 123, 3) := by decide +kernel
theorem dX10_matches_37 : decode cX10_matches 37 = .ok (.iload 4, 2) := by decide +kernel
theorem dX10_matches_39 : decode cX10_matches 39 = .ok (.aload_n 0, 1) := by decide +kernel
theorem dX10_matches_40 : decode cX10_matches 40 = .ok (.getfield 120, 3) := by decide +kernel
theorem dX10_matches_43 : decode cX10_matches 43 = .ok (.iload 4, 2) := by decide +kernel
theorem dX10_matches_45 : decode cX10_matches 45 = .ok (.iaload, 1) := by decide +kernel
theorem dX10_matches_46 : decode cX10_matches 46 = .ok (.iastore, 1) := by decide +kernel
theorem dX10_matches_47 : decode cX10_matches 47 = .ok (.iinc 4 1, 3) := by decide +kernel
theorem dX10_matches_50 : decode cX10_matches 50 = .ok (.goto (-23), 3) := by decide +kernel
theorem dX10_matches_53 : decode cX10_matches 53 = .ok (.return_, 1) := by decide +kernel
theorem dX10_matches_54 : decode cX10_matches 54 = .ok (.aload_n 0, 1) := by decide +kernel
theorem dX10_matches_55 : decode cX10_matches 55 = .ok (.getfield 120, 3) := by decide +kernel
theorem dX10_matches_58 : decode cX10_matches 58 = .ok (.iload_n 1, 1) := by decide +kernel
theorem dX10_matches_59 : decode cX10_matches 59 = .ok (.bipush (-2), 2) := by decide +kernel
theorem dX10_matches_61 : decode cX10_matches 61 = .ok (.iastore, 1) := by decide +kernel
theorem dX10_matches_62 : decode cX10_matches 62 = .ok (.aload_n 0, 1) := by decide +kernel
theorem dX10_matches_63 : decode cX10_matches 63 = .ok (.iload_n 1, 1) := by decide +kernel
theorem dX10_matches_64 : decode cX10_matches 64 = .ok (.iconst 1, 1) := by decide +kernel
theorem dX10_matches_65 : decode cX10_matches 65 = .ok (.iadd, 1) := by decide +kernel
theorem dX10_matches_66 : decode cX10_matches 66 = .ok (.iload_n 2, 1) := by decide +kernel
theorem dX10_matches_67 : decode cX10_matches 67 = .ok (.iload_n 3, 1) := by decide +kernel
theorem dX10_matches_68 : decode cX10_matches 68 = .ok (.invokevirtual 447, 3) := by decide +kernel
theorem dX10_matches_71 : decode cX10_matches 71 = .ok (.iconst 0, 1) := by decide +kernel
theorem dX10_matches_72 : decode cX10_matches 72 = .ok (.istore 4, 2) := by decide +kernel
theorem dX10_matches_74 : decode cX10_matches 74 = .ok (.iload 4, 2) := by decide +kernel
theorem dX10_matches_76 : decode cX10_matches 76 = .ok (.aload_n 0, 1) := by decide +kernel
theorem dX10_matches_77 : decode cX10_matches 77 = .ok (.getfield 13, 3) := by decide +kernel
theorem dX10_matches_80 : decode cX10_matches 80 = .ok (.iconst 1, 1) := by decide +kernel
theorem dX10_matches_81 : decode cX10_matches 81 = .ok (.iaload, 1) := by decide +kernel
theorem dX10_matches_82 : decode cX10_matches 82 = .ok (.if_icmp .ge 88, 3) := by decide +kernel
theorem dX10_matches_85 : decode cX10_matches 85 = .ok (.aload_n 0, 1) := by decide +kernel
theorem dX10_matches_86 : decode cX10_matches 86 = .ok (.getfield 93, 3) := by decide +kernel
theorem dX10_matches_89 : decode cX10_matches 89 = .ok (.iload_n 1, 1) := by decide +kernel
theorem dX10_matches_90 : decode cX10_matches 90 = .ok (.iaload, 1) := by decide +kernel
theorem dX10_matches_91 : decode cX10_matches 91 = .ok (.iconst 2, 1) := by decide +kernel
theorem dX10_matches_92 : decode cX10_matches 92 = .ok (.if_icmp .eq 78, 3) := by decide +kernel
theorem dX10_matches_95 : decode cX10_matches 95 = .ok (.iload_n 2, 1) := by decide +kernel
theorem dX10_matches_96 : decode cX10_matches 96 = .ok (.iload 4, 2) := by decide +kernel
theorem dX10_matches_98 : decode cX10_matches 98 = .ok (.ishr, 1) := by decide +kernel
theorem dX10_matches_99 : decode cX10_matches 99 = .ok (.iconst 1, 1) := by decide +kernel
theorem dX10_matches_100 : decode cX10_matches 100 = .ok (.iand, 1) := by decide +kernel
theorem dX10_matches_101 : decode cX10_matches 101 = .ok (.iconst 1, 1) := by decide +kernel
theorem dX10_matches_102 : decode cX10_matches 102 = .ok (.if_icmp .eq 62, 3) := by decide +kernel
theorem dX10_matches_105 : decode cX10_matches 105 = .ok (.aload_n 0, 1) := by decide +kernel
theorem dX10_matches_106 : decode cX10_matches 106 = .ok (.getfield 108, 3) := by decide +kernel
theorem dX10_matches_109 : decode cX10_matches 109 = .ok (.iload 4, 2) := by decide +kernel
theorem dX10_matches_111 : decode cX10_matches 111 = .ok (.iaload, 1) := by decide +kernel
theorem dX10_matches_112 : decode cX10_matches 112 = .ok (.ifCond .ne 52, 3) := by decide +kernel
theorem dX10_matches_115 : decode cX10_matches 115 = .ok (.aload_n 0, 1) := by decide +kernel
theorem dX10_matches_116 : decode cX10_matches 116 = .ok (.getfield 34, 3) := by decide +kernel
theorem dX10_matches_119 : decode cX10_matches 119 = .ok (.iload 4, 2) := by decide +kernel
theorem dX10_matches_121 : decode cX10_matches 121 = .ok (.iaload, 1) := by decide +kernel
theorem dX10_matches_122 : decode cX10_matches 122 = .ok (.aload_n 0, 1) := by decide +kernel
theorem dX10_matches_123 : decode cX10_matches 123 = .ok (.getfield 25, 3) := by decide +kernel
theorem dX10_matches_126 : decode cX10_matches 126 = .ok (.iload_n 1, 1) := by decide +kernel
theorem dX10_matches_127 : decode cX10_matches 127 = .ok (.iaload, 1) := by decide +kernel
theorem dX10_matches_128 : decode cX10_matches 128 = .ok (.if_icmp .le 6, 3) := by decide +kernel
theorem dX10_matches_131 : decode cX10_matches 131 = .ok (.goto 33, 3) := by decide +kernel
theorem dX10_matches_134 : decode cX10_matches 134 = .ok (.aload_n 0, 1) := by decide +kernel
theorem dX10_matches_135 : decode cX10_matches 135 = .ok (.getfield 120, 3) := by decide +kernel
theorem dX10_matches_138 : decode cX10_matches 138 = .ok (.iload_n 1, 1) := by decide +kernel
theorem dX10_matches_139 : decode cX10_matches 139 = .ok (.iload 4, 2) := by decide +kernel
theorem dX10_matches_141 : decode cX10_matches 141 = .ok (.iastore, 1) := by decide +kernel
theorem dX10_matches_142 : decode cX10_matches 142 = .ok (.aload_n 0, 1) := by decide +kernel
theorem dX10_matches_143 : decode cX10_matches 143 = .ok (.iload_n 1, 1) := by decide +kernel
theorem dX10_matches_144 : decode cX10_matches 144 = .ok (.iconst 1, 1) := by decide +kernel
theorem dX10_matches_145 : decode cX10_matches 145 = .ok (.iadd, 1) := by decide +kernel
theorem dX10_matches_146 : decode cX10_matches 146 = .ok (.iload_n 2, 1) := by decide +kernel
theorem dX10_matches_147 : decode cX10_matches 147 = .ok (.iconst 1, 1) := by decide +kernel
theorem dX10_matches_148 : decode cX10_matches 148 = .ok (.iload 4, 2) := by decide +kernel
theorem dX10_matches_150 : decode cX10_matches 150 = .ok (.ishl, 1) := by decide +kernel
theorem dX10_matches_151 : decode cX10_matches 151 = .ok (.ior, 1) := by decide +kernel
theorem dX10_matches_152 : decode cX10_matches 152 = .ok (.iload_n 3, 1) := by decide +kernel
theorem dX10_matches_153 : decode cX10_matches 153 = .ok (.aload_n 0, 1) := by decide +kernel
theorem dX10_matches_154 : decode cX10_matches 154 = .ok (.getfield 31, 3) := by decide +kernel
theorem dX10_matches_157 : decode cX10_matches 157 = .ok (.iload 4, 2) := by decide +kernel
theorem dX10_matches_159 : decode cX10_matches 159 = .ok (.iaload, 1) := by decide +kernel
theorem dX10_matches_160 : decode cX10_matches 160 = .ok (.iadd, 1) := by decide +kernel
theorem dX10_matches_161 : decode cX10_matches 161 = .ok (.invokevirtual 447, 3) := by decide +kernel
theorem dX10_matches_164 : decode cX10_matches 164 = .ok (.iinc 4 1, 3) := by decide +kernel
theorem dX10_matches_167 : decode cX10_matches 167 = .ok (.goto (-93), 3) := by decide +kernel
theorem dX10_matches_170 : decode cX10_matches 170 = .ok (.return_, 1) := by decide +kernel
theorem dX10_match_0 : decode cX10_match 0 = .ok (.aload_n 0, 1) := by decide +kernel
theorem dX10_match_1 : decode cX10_match 1 = .ok (.iconst 0, 1) := by decide +kernel
theorem dX10_match_2 : decode cX10_match 2 = .ok (.putfield 154, 3) := by decide +kernel
theorem dX10_match_5 : decode cX10_match 5 = .ok (.iload_n 1, 1) := by decide +kernel
theorem dX10_match_6 : decode cX10_match 6 = .ok (.ifCond .lt 9, 3) := by decide +kernel
theorem dX10_match_9 : decode cX10_match 9 = .ok (.iload_n 1, 1) := by decide +kernel
theorem dX10_match_10 : decode cX10_match 10 = .ok (.bipush 6, 2) := by decide +kernel
theorem dX10_match_12 : decode cX10_match 12 = .ok (.if_icmp .le 5, 3) := by decide +kernel
theorem dX10_match_15 : decode cX10_match 15 = .ok (.iconst (-1), 1) := by decide +kernel
theorem dX10_match_16 : decode cX10_match 16 = .ok (.ireturn, 1) := by decide +kernel
theorem dX10_match_17 : decode cX10_match 17 = .ok (.aload_n 0, 1) := by decide +kernel
theorem dX10_match_18 : decode cX10_match 18 = .ok (.iconst (-1), 1) := by decide +kernel
theorem dX10_match_19 : decode cX10_match 19 = .ok (.putfield 444, 3) := by decide +kernel
theorem dX10_match_22 : decode cX10_match 22 = .ok (.aload_n 0, 1) := by decide +kernel
theorem dX10_match_23 : decode cX10_match 23 = .ok (.iconst 0, 1) := by decide +kernel
theorem dX10_match_24 : decode cX10_match 24 = .ok (.iconst 0, 1) := by decide +kernel
theorem dX10_match_25 : decode cX10_match 25 = .ok (.iconst 0, 1) := by decide +kernel
theorem dX10_match_26 : decode cX10_match 26 = .ok (.invokevirtual 447, 3) := by decide +kernel
theorem dX10_match_29 : decode cX10_match 29 = .ok (.iload_n 1, 1) := by decide +kernel
theorem dX10_match_30 : decode cX10_match 30 = .ok (.bipush 6, 2) := by decide +kernel
theorem dX10_match_32 : decode cX10_match 32 = .ok (.if_icmp .ne 10, 3) := by decide +kernel
theorem dX10_match_35 : decode cX10_match 35 = .ok (.aload_n 0, 1) := by decide +kernel
theorem dX10_match_36 : decode cX10_match 36 = .ok (.getfield 444, 3) := by decide +kernel
theorem dX10_match_39 : decode cX10_match 39 = .ok (.goto 24, 3) := by decide +kernel
theorem dX10_match_42 : decode cX10_match 42 = .ok (.iload_n 1, 1) := by decide +kernel
theorem dX10_match_43 : decode cX10_match 43 = .ok (.aload_n 0, 1) := by decide +kernel
theorem dX10_match_44 : decode cX10_match 44 = .ok (.getfield 13, 3) := by decide +kernel
theorem dX10_match_47 : decode cX10_match 47 = .ok (.iconst 0, 1) := by decide +kernel
theorem dX10_match_48 : decode cX10_match 48 = .ok (.iaload, 1) := by decide +kernel
theorem dX10_match_49 : decode cX10_match 49 = .ok (.if_icmp .ge 12, 3) := by decide +kernel
theorem dX10_match_52 : decode cX10_match 52 = .ok (.aload_n 0, 1) := by decide +kernel
theorem dX10_match_53 : decode cX10_match 53 = .ok (.getfield 123, 3) := by decide +kernel
theorem dX10_match_56 : decode cX10_match 56 = .ok (.iload_n 1, 1) := by decide +kernel
theorem dX10_match_57 : decode cX10_match 57 = .ok (.iaload, 1) := by decide +kernel
theorem dX10_match_58 : decode cX10_match 58 = .ok (.goto 5, 3) := by decide +kernel
theorem dX10_match_61 : decode cX10_match 61 = .ok (.bipush (-2), 2) := by decide +kernel
theorem dX10_match_63 : decode cX10_match 63 = .ok (.ireturn, 1) := by decide +kernel
theorem dX10_rows_0 : decode cX10_rows 0 = .ok (.iload_n 2, 1) := by decide +kernel
theorem dX10_rows_1 : decode cX10_rows 1 = .ok (.ifCond .eq 54, 3) := by decide +kernel
theorem dX10_rows_4 : decode cX10_rows 4 = .ok (.iconst 0, 1) := by decide +kernel
theorem dX10_rows_5 : decode cX10_rows 5 = .ok (.istore_n 3, 1) := by decide +kernel
theorem dX10_rows_6 : decode cX10_rows 6 = .ok (.iload_n 3, 1) := by decide +kernel
theorem dX10_rows_7 : decode cX10_rows 7 = .ok (.aload_n 0, 1) := by decide +kernel
theorem dX10_rows_8 : decode cX10_rows 8 = .ok (.getfield 13, 3) := by decide +kernel
theorem dX10_rows_11 : decode cX10_rows 11 = .ok (.iconst 0, 1) := by decide +kernel
theorem dX10_rows_12 : decode cX10_rows 12 = .ok (.iaload, 1) := by decide +kernel
theorem dX10_rows_13 : decode cX10_rows 13 = .ok (.if_icmp .ge 41, 3) := by decide +kernel
theorem dX10_rows_16 : decode cX10_rows 16 = .ok (.iload_n 2, 1) := by decide +kernel
theorem dX10_rows_17 : decode cX10_rows 17 = .ok (.iload_n 3, 1) := by decide +kernel
theorem dX10_rows_18 : decode cX10_rows 18 = .ok (.ishr, 1) := by decide +kernel
theorem dX10_rows_19 : decode cX10_rows 19 = .ok (.iconst 1, 1) := by decide +kernel
theorem dX10_rows_20 : decode cX10_rows 20 = .ok (.iand, 1) := by decide +kernel
theorem dX10_rows_21 : decode cX10_rows 21 = .ok (.ifCond .ne 6, 3) := by decide +kernel
theorem dX10_rows_24 : decode cX10_rows 24 = .ok (.goto 24, 3) := by decide +kernel
theorem dX10_rows_27 : decode cX10_rows 27 = .ok (.aload_n 0, 1) := by decide +kernel
theorem dX10_rows_28 : decode cX10_rows 28 = .ok (.getfield 126, 3) := by decide +kernel
theorem dX10_rows_31 : decode cX10_rows 31 = .ok (.iload_n 1, 1) := by decide +kernel
theorem dX10_rows_32 : decode cX10_rows 32 = .ok (.iload_n 3, 1) := by decide +kernel
theorem dX10_rows_33 : decode cX10_rows 33 = .ok (.iastore, 1) := by decide +kernel
theorem dX10_rows_34 : decode cX10_rows 34 = .ok (.aload_n 0, 1) := by decide +kernel
theorem dX10_rows_35 : decode cX10_rows 35 = .ok (.iload_n 1, 1) := by decide +kernel
theorem dX10_rows_36 : decode cX10_rows 36 = .ok (.iconst 1, 1) := by decide +kernel
theorem dX10_rows_37 : decode cX10_rows 37 = .ok (.iadd, 1) := by decide +kernel
theorem dX10_rows_38 : decode cX10_rows 38 = .ok (.iload_n 2, 1) := by decide +kernel
theorem dX10_rows_39 : decode cX10_rows 39 = .ok (.iconst 1, 1) := by decide +kernel
theorem dX10_rows_40 : decode cX10_rows 40 = .ok (.iload_n 3, 1) := by decide +kernel
theorem dX10_rows_41 : decode cX10_rows 41 = .ok (.ishl, 1) := by decide +kernel
theorem dX10_rows_42 : decode cX10_rows 42 = .ok (.iconst (-1), 1) := by decide +kernel
theorem dX10_rows_43 : decode cX10_rows 43 = .ok (.ixor, 1) := by decide +kernel
theorem dX10_rows_44 : decode cX10_rows 44 = .ok (.iand, 1) := by decide +kernel
theorem dX10_rows_45 : decode cX10_rows 45 = .ok (.invokevirtual 450, 3) := by decide +kernel
theorem dX10_rows_48 : decode cX10_rows 48 = .ok (.iinc 3 1, 3) := by decide +kernel
theorem dX10_rows_51 : decode cX10_rows 51 = .ok (.goto (-45), 3) := by decide +kernel
theorem dX10_rows_54 : decode cX10_rows 54 = .ok (.return_, 1) := by decide +kernel
theorem dX10_rows_55 : decode cX10_rows 55 = .ok (.aload_n 0, 1) := by decide +kernel
theorem dX10_rows_56 : decode cX10_rows 56 = .ok (.iconst 1, 1) := by decide +kernel
theorem dX10_rows_57 : decode cX10_rows 57 = .ok (.iconst 0, 1) := by decide +kernel
theorem dX10_rows_58 : decode cX10_rows 58 = .ok (.invokevirtual 407, 3) := by decide +kernel
theorem dX10_rows_61 : decode cX10_rows 61 = .ok (.iconst 0, 1) := by decide +kernel
theorem dX10_rows_62 : decode cX10_rows 62 = .ok (.istore_n 3, 1) := by decide +kernel
theorem dX10_rows_63 : decode cX10_rows 63 = .ok (.iload_n 3, 1) := by decide +kernel
theorem dX10_rows_64 : decode cX10_rows 64 = .ok (.iload_n 1, 1) := by decide +kernel
theorem dX10_rows_65 : decode cX10_rows 65 = .ok (.if_icmp .ge 24, 3) := by decide +kernel
theorem dX10_rows_68 : decode cX10_rows 68 = .ok (.aload_n 0, 1) := by decide +kernel
theorem dX10_rows_69 : decode cX10_rows 69 = .ok (.getfield 105, 3) := by decide +kernel
theorem dX10_rows_72 : decode cX10_rows 72 = .ok (.bipush 6, 2) := by decide +kernel
theorem dX10_rows_74 : decode cX10_rows 74 = .ok (.iload_n 3, 1) := by decide +kernel
theorem dX10_rows_75 : decode cX10_rows 75 = .ok (.iadd, 1) := by decide +kernel
theorem dX10_rows_76 : decode cX10_rows 76 = .ok (.aload_n 0, 1) := by decide +kernel
theorem dX10_rows_77 : decode cX10_rows 77 = .ok (.getfield 126, 3) := by decide +kernel
theorem dX10_rows_80 : decode cX10_rows 80 = .ok (.iload_n 3, 1) := by decide +kernel
theorem dX10_rows_81 : decode cX10_rows 81 = .ok (.iaload, 1) := by decide +kernel
theorem dX10_rows_82 : decode cX10_rows 82 = .ok (.iastore, 1) := by decide +kernel
theorem dX10_rows_83 : decode cX10_rows 83 = .ok (.iinc 3 1, 3) := by decide +kernel
theorem dX10_rows_86 : decode cX10_rows 86 = .ok (.goto (-23), 3) := by decide +kernel
theorem dX10_rows_89 : decode cX10_rows 89 = .ok (.aload_n 0, 1) := by decide +kernel
theorem dX10_rows_90 : decode cX10_rows 90 = .ok (.bipush 30, 2) := by decide +kernel
theorem dX10_rows_92 : decode cX10_rows 92 = .ok (.invokevirtual 410, 3) := by decide +kernel
theorem dX10_rows_95 : decode cX10_rows 95 = .ok (.aload_n 0, 1) := by decide +kernel
theorem dX10_rows_96 : decode cX10_rows 96 = .ok (.iconst 1, 1) := by decide +kernel
theorem dX10_rows_97 : decode cX10_rows 97 = .ok (.invokevirtual 453, 3) := by decide +kernel
theorem dX10_rows_100 : decode cX10_rows 100 = .ok (.aload_n 0, 1) := by decide +kernel
theorem dX10_rows_101 : decode cX10_rows 101 = .ok (.iconst 0, 1) := by decide +kernel
theorem dX10_rows_102 : decode cX10_rows 102 = .ok (.invokevirtual 453, 3) := by decide +kernel
theorem dX10_rows_105 : decode cX10_rows 105 = .ok (.isub, 1) := by decide +kernel
theorem dX10_rows_106 : decode cX10_rows 106 = .ok (.istore_n 3, 1) := by decide +kernel
theorem dX10_rows_107 : decode cX10_rows 107 = .ok (.iload_n 3, 1) := by decide +kernel
theorem dX10_rows_108 : decode cX10_rows 108 = .ok (.aload_n 0, 1) := by decide +kernel
theorem dX10_rows_109 : decode cX10_rows 109 = .ok (.getfield 456, 3) := by decide +kernel
theorem dX10_rows_112 : decode cX10_rows 112 = .ok (.if_icmp .gt 4, 3) := by decide +kernel
theorem dX10_rows_115 : decode cX10_rows 115 = .ok (.return_, 1) := by decide +kernel
theorem dX10_rows_116 : decode cX10_rows 116 = .ok (.aload_n 0, 1) := by decide +kernel
theorem dX10_rows_117 : decode cX10_rows 117 = .ok (.iload_n 3, 1) := by decide +kernel
theorem dX10_rows_118 : decode cX10_rows 118 = .ok (.putfield 456, 3) := by decide +kernel
theorem dX10_rows_121 : decode cX10_rows 121 = .ok (.iconst 0, 1) := by decide +kernel
theorem dX10_rows_122 : decode cX10_rows 122 = .ok (.istore 4, 2) := by decide +kernel
theorem dX10_rows_124 : decode cX10_rows 124 = .ok (.iload 4, 2) := by decide +kernel
theorem dX10_rows_126 : decode cX10_rows 126 = .ok (.iload_n 1, 1) := by decide +kernel
theorem dX10_rows_127 : decode cX10_rows 127 = .ok (.if_icmp .ge 23, 3) := by decide +kernel
theorem dX10_rows_130 : decode cX10_rows 130 = .ok (.aload_n 0, 1) := by decide +kernel
theorem dX10_rows_131 : decode cX10_rows 131 = .ok (.getfield 129, 3) := by decide +kernel
theorem dX10_rows_134 : decode cX10_rows 134 = .ok (.iload 4, 2) := by decide +kernel
theorem dX10_rows_136 : decode cX10_rows 136 = .ok (.aload_n 0, 1) := by decide +kernel
theorem dX10_rows_137 : decode cX10_rows 137 = .ok (.getfield 126, 3) := by decide +kernel
theorem dX10_rows_140 : decode cX10_rows 140 = .ok (.iload 4, 2) := by decide +kernel
theorem dX10_rows_142 : decode cX10_rows 142 = .ok (.iaload, 1) := by decide +kernel
theorem dX10_rows_143 : decode cX10_rows 143 = .ok (.iastore, 1) := by decide +kernel
theorem dX10_rows_144 : decode cX10_rows 144 = .ok (.iinc 4 1, 3) := by decide +kernel
theorem dX10_rows_147 : decode cX10_rows 147 = .ok (.goto (-23), 3) := by decide +kernel
theorem dX10_rows_150 : decode cX10_rows 150 = .ok (.return_, 1) := by decide +kernel
theorem dX10_order_0 : decode cX10_order 0 = .ok (.aload_n 0, 1) := by decide +kernel
theorem dX10_order_1 : decode cX10_order 1 = .ok (.iconst 0, 1) := by decide +kernel
theorem dX10_order_2 : decode cX10_order 2 = .ok (.putfield 154, 3) := by decide +kernel
theorem dX10_order_5 : decode cX10_order 5 = .ok (.iload_n 1, 1) := by decide +kernel
theorem dX10_order_6 : decode cX10_order 6 = .ok (.ifCond .lt 8, 3) := by decide +kernel
theorem dX10_order_9 : decode cX10_order 9 = .ok (.iload_n 1, 1) := by decide +kernel
theorem dX10_order_10 : decode cX10_order 10 = .ok (.iconst 4, 1) := by decide +kernel
theorem dX10_order_11 : decode cX10_order 11 = .ok (.if_icmp .le 5, 3) := by decide +kernel
theorem dX10_order_14 : decode cX10_order 14 = .ok (.iconst (-1), 1) := by decide +kernel
theorem dX10_order_15 : decode cX10_order 15 = .ok (.ireturn, 1) := by decide +kernel
theorem dX10_order_16 : decode cX10_order 16 = .ok (.iconst 4, 1) := by decide +kernel
theorem dX10_order_17 : decode cX10_order 17 = .ok (.aload_n 0, 1) := by decide +kernel
theorem dX10_order_18 : decode cX10_order 18 = .ok (.getfield 13, 3) := by decide +kernel
theorem dX10_order_21 : decode cX10_order 21 = .ok (.iconst 0, 1) := by decide +kernel
theorem dX10_order_22 : decode cX10_order 22 = .ok (.iaload, 1) := by decide +kernel
theorem dX10_order_23 : decode cX10_order 23 = .ok (.invokestatic 389, 3) := by decide +kernel
theorem dX10_order_26 : decode cX10_order 26 = .ok (.istore_n 2, 1) := by decide +kernel
theorem dX10_order_27 : decode cX10_order 27 = .ok (.iconst 0, 1) := by decide +kernel
theorem dX10_order_28 : decode cX10_order 28 = .ok (.istore_n 3, 1) := by decide +kernel
theorem dX10_order_29 : decode cX10_order 29 = .ok (.iconst 0, 1) := by decide +kernel
theorem dX10_order_30 : decode cX10_order 30 = .ok (.istore 4, 2) := by decide +kernel
theorem dX10_order_32 : decode cX10_order 32 = .ok (.iload 4, 2) := by decide +kernel
theorem dX10_order_34 : decode cX10_order 34 = .ok (.iload_n 2, 1) := by decide +kernel
theorem dX10_order_35 : decode cX10_order 35 = .ok (.if_icmp .ge 21, 3) := by decide +kernel
theorem dX10_order_38 : decode cX10_order 38 = .ok (.iload_n 3, 1) := by decide +kernel
theorem dX10_order_39 : decode cX10_order 39 = .ok (.iconst 1, 1) := by decide +kernel
theorem dX10_order_40 : decode cX10_order 40 = .ok (.aload_n 0, 1) := by decide +kernel
theorem dX10_order_41 : decode cX10_order 41 = .ok (.getfield 105, 3) := by decide +kernel
theorem dX10_order_44 : decode cX10_order 44 = .ok (.iload 4, 2) := by decide +kernel
theorem dX10_order_46 : decode cX10_order 46 = .ok (.iaload, 1) := by decide +kernel
theorem dX10_order_47 : decode cX10_order 47 = .ok (.ishl, 1) := by decide +kernel
theorem dX10_order_48 : decode cX10_order 48 = .ok (.ior, 1) := by decide +kernel
theorem dX10_order_49 : decode cX10_order 49 = .ok (.istore_n 3, 1) := by decide +kernel
theorem dX10_order_50 : decode cX10_order 50 = .ok (.iinc 4 1, 3) := by decide +kernel
theorem dX10_order_53 : decode cX10_order 53 = .ok (.goto (-21), 3) := by decide +kernel
theorem dX10_order_56 : decode cX10_order 56 = .ok (.aload_n 0, 1) := by decide +kernel
theorem dX10_order_57 : decode cX10_order 57 = .ok (.iconst (-1), 1) := by decide +kernel
theorem dX10_order_58 : decode cX10_order 58 = .ok (.putfield 456, 3) := by decide +kernel
theorem dX10_order_61 : decode cX10_order 61 = .ok (.aload_n 0, 1) := by decide +kernel
theorem dX10_order_62 : decode cX10_order 62 = .ok (.iconst 0, 1) := by decide +kernel
theorem dX10_order_63 : decode cX10_order 63 = .ok (.iload_n 3, 1) := by decide +kernel
theorem dX10_order_64 : decode cX10_order 64 = .ok (.invokevirtual 450, 3) := by decide +kernel
theorem dX10_order_67 : decode cX10_order 67 = .ok (.iload_n 1, 1) := by decide +kernel
theorem dX10_order_68 : decode cX10_order 68 = .ok (.iconst 4, 1) := by decide +kernel
theorem dX10_order_69 : decode cX10_order 69 = .ok (.if_icmp .ne 10, 3) := by decide +kernel
theorem dX10_order_72 : decode cX10_order 72 = .ok (.aload_n 0, 1) := by decide +kernel
theorem dX10_order_73 : decode cX10_order 73 = .ok (.getfield 456, 3) := by decide +kernel
theorem dX10_order_76 : decode cX10_order 76 = .ok (.goto 19, 3) := by decide +kernel
theorem dX10_order_79 : decode cX10_order 79 = .ok (.iload_n 1, 1) := by decide +kernel
theorem dX10_order_80 : decode cX10_order 80 = .ok (.iload_n 2, 1) := by decide +kernel
theorem dX10_order_81 : decode cX10_order 81 = .ok (.if_icmp .ge 12, 3) := by decide +kernel
theorem dX10_order_84 : decode cX10_order 84 = .ok (.aload_n 0, 1) := by decide +kernel
theorem dX10_order_85 : decode cX10_order 85 = .ok (.getfield 129, 3) := by decide +kernel
theorem dX10_order_88 : decode cX10_order 88 = .ok (.iload_n 1, 1) := by decide +kernel
theorem dX10_order_89 : decode cX10_order 89 = .ok (.iaload, 1) := by decide +kernel
theorem dX10_order_90 : decode cX10_order 90 = .ok (.goto 5, 3) := by decide +kernel
theorem dX10_order_93 : decode cX10_order 93 = .ok (.bipush (-2), 2) := by decide +kernel
theorem dX10_order_95 : decode cX10_order 95 = .ok (.ireturn, 1) := by decide +kernel
theorem dX10_hasOf_0 : decode cX10_hasOf 0 = .ok (.iload_n 2, 1) := by decide +kernel
theorem dX10_hasOf_1 : decode cX10_hasOf 1 = .ok (.ifCond .ne 41, 3) := by decide +kernel
theorem dX10_hasOf_4 : decode cX10_hasOf 4 = .ok (.iload_n 3, 1) := by decide +kernel
theorem dX10_hasOf_5 : decode cX10_hasOf 5 = .ok (.ifCond .ne 21, 3) := by decide +kernel
theorem dX10_hasOf_8 : decode cX10_hasOf 8 = .ok (.aload_n 0, 1) := by decide +kernel
theorem dX10_hasOf_9 : decode cX10_hasOf 9 = .ok (.getfield 87, 3) := by decide +kernel
theorem dX10_hasOf_12 : decode cX10_hasOf 12 = .ok (.iload_n 1, 1) := by decide +kernel
theorem dX10_hasOf_13 : decode cX10_hasOf 13 = .ok (.iaload, 1) := by decide +kernel
theorem dX10_hasOf_14 : decode cX10_hasOf 14 = .ok (.aload_n 0, 1) := by decide +kernel
theorem dX10_hasOf_15 : decode cX10_hasOf 15 = .ok (.getfield 19, 3) := by decide +kernel
theorem dX10_hasOf_18 : decode cX10_hasOf 18 = .ok (.iload_n 1, 1) := by decide +kernel
theorem dX10_hasOf_19 : decode cX10_hasOf 19 = .ok (.iaload, 1) := by decide +kernel
theorem dX10_hasOf_20 : decode cX10_hasOf 20 = .ok (.iconst 4, 1) := by decide +kernel
theorem dX10_hasOf_21 : decode cX10_hasOf 21 = .ok (.idiv, 1) := by decide +kernel
theorem dX10_hasOf_22 : decode cX10_hasOf 22 = .ok (.isub, 1) := by decide +kernel
theorem dX10_hasOf_23 : decode cX10_hasOf 23 = .ok (.goto 18, 3) := by decide +kernel
theorem dX10_hasOf_26 : decode cX10_hasOf 26 = .ok (.aload_n 0, 1) := by decide +kernel
theorem dX10_hasOf_27 : decode cX10_hasOf 27 = .ok (.getfield 87, 3) := by decide +kernel
theorem dX10_hasOf_30 : decode cX10_hasOf 30 = .ok (.iload_n 1, 1) := by decide +kernel
theorem dX10_hasOf_31 : decode cX10_hasOf 31 = .ok (.iaload, 1) := by decide +kernel
theorem dX10_hasOf_32 : decode cX10_hasOf 32 = .ok (.aload_n 0, 1) := by decide +kernel
theorem dX10_hasOf_33 : decode cX10_hasOf 33 = .ok (.getfield 19, 3) := by decide +kernel
theorem dX10_hasOf_36 : decode cX10_hasOf 36 = .ok (.iload_n 1, 1) := by decide +kernel
theorem dX10_hasOf_37 : decode cX10_hasOf 37 = .ok (.iaload, 1) := by decide +kernel
theorem dX10_hasOf_38 : decode cX10_hasOf 38 = .ok (.iconst 2, 1) := by decide +kernel
theorem dX10_hasOf_39 : decode cX10_hasOf 39 = .ok (.idiv, 1) := by decide +kernel
theorem dX10_hasOf_40 : decode cX10_hasOf 40 = .ok (.isub, 1) := by decide +kernel
theorem dX10_hasOf_41 : decode cX10_hasOf 41 = .ok (.ireturn, 1) := by decide +kernel
theorem dX10_hasOf_42 : decode cX10_hasOf 42 = .ok (.iload_n 3, 1) := by decide +kernel
theorem dX10_hasOf_43 : decode cX10_hasOf 43 = .ok (.ifCond .ne 15, 3) := by decide +kernel
theorem dX10_hasOf_46 : decode cX10_hasOf 46 = .ok (.aload_n 0, 1) := by decide +kernel
theorem dX10_hasOf_47 : decode cX10_hasOf 47 = .ok (.getfield 87, 3) := by decide +kernel
theorem dX10_hasOf_50 : decode cX10_hasOf 50 = .ok (.iload_n 1, 1) := by decide +kernel
theorem dX10_hasOf_51 : decode cX10_hasOf 51 = .ok (.iaload, 1) := by decide +kernel
theorem dX10_hasOf_52 : decode cX10_hasOf 52 = .ok (.iconst 2, 1) := by decide +kernel
theorem dX10_hasOf_53 : decode cX10_hasOf 53 = .ok (.idiv, 1) := by decide +kernel
theorem dX10_hasOf_54 : decode cX10_hasOf 54 = .ok (.ineg, 1) := by decide +kernel
theorem dX10_hasOf_55 : decode cX10_hasOf 55 = .ok (.goto 4, 3) := by decide +kernel
theorem dX10_hasOf_58 : decode cX10_hasOf 58 = .ok (.iconst 0, 1) := by decide +kernel
theorem dX10_hasOf_59 : decode cX10_hasOf 59 = .ok (.ireturn, 1) := by decide +kernel
theorem dX10_isRest_0 : decode cX10_isRest 0 = .ok (.iload_n 3, 1) := by decide +kernel
theorem dX10_isRest_1 : decode cX10_isRest 1 = .ok (.iconst 2, 1) := by decide +kernel
theorem dX10_isRest_2 : decode cX10_isRest 2 = .ok (.idiv, 1) := by decide +kernel
theorem dX10_isRest_3 : decode cX10_isRest 3 = .ok (.istore 4, 2) := by decide +kernel
theorem dX10_isRest_5 : decode cX10_isRest 5 = .ok (.iload_n 3, 1) := by decide +kernel
theorem dX10_isRest_6 : decode cX10_isRest 6 = .ok (.iconst 2, 1) := by decide +kernel
theorem dX10_isRest_7 : decode cX10_isRest 7 = .ok (.irem, 1) := by decide +kernel
theorem dX10_isRest_8 : decode cX10_isRest 8 = .ok (.istore 5, 2) := by decide +kernel
theorem dX10_isRest_10 : decode cX10_isRest 10 = .ok (.aload_n 0, 1) := by decide +kernel
theorem dX10_isRest_11 : decode cX10_isRest 11 = .ok (.iload_n 1, 1) := by decide +kernel
theorem dX10_isRest_12 : decode cX10_isRest 12 = .ok (.iconst 1, 1) := by decide +kernel
theorem dX10_isRest_13 : decode cX10_isRest 13 = .ok (.iload 4, 2) := by decide +kernel
theorem dX10_isRest_15 : decode cX10_isRest 15 = .ok (.isub, 1) := by decide +kernel
theorem dX10_isRest_16 : decode cX10_isRest 16 = .ok (.iload 5, 2) := by decide +kernel
theorem dX10_isRest_18 : decode cX10_isRest 18 = .ok (.invokevirtual 459, 3) := by decide +kernel
theorem dX10_isRest_21 : decode cX10_isRest 21 = .ok (.aload_n 0, 1) := by decide +kernel
