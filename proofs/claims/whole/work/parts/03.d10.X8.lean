theorem dX8_moveMan_1 : decode cX8_moveMan 1 = .ok (.ifCond .lt 19, 3) := by decide +kernel
theorem dX8_moveMan_4 : decode cX8_moveMan 4 = .ok (.iload_n 1, 1) := by decide +kernel
theorem dX8_moveMan_5 : decode cX8_moveMan 5 = .ok (.bipush 6, 2) := by decide +kernel
theorem dX8_moveMan_7 : decode cX8_moveMan 7 = .ok (.if_icmp .ge 13, 3) := by decide +kernel
theorem dX8_moveMan_10 : decode cX8_moveMan 10 = .ok (.aload_n 0, 1) := by decide +kernel
theorem dX8_moveMan_11 : decode cX8_moveMan 11 = .ok (.getfield 21, 3) := by decide +kernel
theorem dX8_moveMan_14 : decode cX8_moveMan 14 = .ok (.iload_n 1, 1) := by decide +kernel
theorem dX8_moveMan_15 : decode cX8_moveMan 15 = .ok (.iaload, 1) := by decide +kernel
theorem dX8_moveMan_16 : decode cX8_moveMan 16 = .ok (.iconst 1, 1) := by decide +kernel
theorem dX8_moveMan_17 : decode cX8_moveMan 17 = .ok (.if_icmp .eq 4, 3) := by decide +kernel
theorem dX8_moveMan_20 : decode cX8_moveMan 20 = .ok (.return_, 1) := by decide +kernel
theorem dX8_moveMan_21 : decode cX8_moveMan 21 = .ok (.aload_n 0, 1) := by decide +kernel
theorem dX8_moveMan_22 : decode cX8_moveMan 22 = .ok (.getfield 24, 3) := by decide +kernel
theorem dX8_moveMan_25 : decode cX8_moveMan 25 = .ok (.iload_n 1, 1) := by decide +kernel
theorem dX8_moveMan_26 : decode cX8_moveMan 26 = .ok (.iaload, 1) := by decide +kernel
theorem dX8_moveMan_27 : decode cX8_moveMan 27 = .ok (.istore_n 3, 1) := by decide +kernel
theorem dX8_moveMan_28 : decode cX8_moveMan 28 = .ok (.iload_n 3, 1) := by decide +kernel
theorem dX8_moveMan_29 : decode cX8_moveMan 29 = .ok (.ifCond .lt 9, 3) := by decide +kernel
theorem dX8_moveMan_32 : decode cX8_moveMan 32 = .ok (.iload_n 3, 1) := by decide +kernel
theorem dX8_moveMan_33 : decode cX8_moveMan 33 = .ok (.bipush 8, 2) := by decide +kernel
theorem dX8_moveMan_35 : decode cX8_moveMan 35 = .ok (.if_icmp .lt 4, 3) := by decide +kernel
theorem dX8_moveMan_38 : decode cX8_moveMan 38 = .ok (.return_, 1) := by decide +kernel
theorem dX8_moveMan_39 : decode cX8_moveMan 39 = .ok (.aload_n 0, 1) := by decide +kernel
theorem dX8_moveMan_40 : decode cX8_moveMan 40 = .ok (.getfield 27, 3) := by decide +kernel
theorem dX8_moveMan_43 : decode cX8_moveMan 43 = .ok (.iload_n 1, 1) := by decide +kernel
theorem dX8_moveMan_44 : decode cX8_moveMan 44 = .ok (.dup2, 1) := by decide +kernel
theorem dX8_moveMan_45 : decode cX8_moveMan 45 = .ok (.iaload, 1) := by decide +kernel
theorem dX8_moveMan_46 : decode cX8_moveMan 46 = .ok (.iconst 1, 1) := by decide +kernel
theorem dX8_moveMan_47 : decode cX8_moveMan 47 = .ok (.iadd, 1) := by decide +kernel
theorem dX8_moveMan_48 : decode cX8_moveMan 48 = .ok (.iastore, 1) := by decide +kernel
theorem dX8_moveMan_49 : decode cX8_moveMan 49 = .ok (.aload_n 0, 1) := by decide +kernel
theorem dX8_moveMan_50 : decode cX8_moveMan 50 = .ok (.iload_n 1, 1) := by decide +kernel
theorem dX8_moveMan_51 : decode cX8_moveMan 51 = .ok (.iload_n 3, 1) := by decide +kernel
theorem dX8_moveMan_52 : decode cX8_moveMan 52 = .ok (.iload_n 2, 1) := by decide +kernel
theorem dX8_moveMan_53 : decode cX8_moveMan 53 = .ok (.invokevirtual 168, 3) := by decide +kernel
theorem dX8_moveMan_56 : decode cX8_moveMan 56 = .ok (.ifCond .eq 29, 3) := by decide +kernel
theorem dX8_moveMan_59 : decode cX8_moveMan 59 = .ok (.aload_n 0, 1) := by decide +kernel
theorem dX8_moveMan_60 : decode cX8_moveMan 60 = .ok (.iload_n 1, 1) := by decide +kernel
theorem dX8_moveMan_61 : decode cX8_moveMan 61 = .ok (.iconst 2, 1) := by decide +kernel
theorem dX8_moveMan_62 : decode cX8_moveMan 62 = .ok (.invokevirtual 171, 3) := by decide +kernel
theorem dX8_moveMan_65 : decode cX8_moveMan 65 = .ok (.aload_n 0, 1) := by decide +kernel
theorem dX8_moveMan_66 : decode cX8_moveMan 66 = .ok (.getfield 34, 3) := by decide +kernel
theorem dX8_moveMan_69 : decode cX8_moveMan 69 = .ok (.iload_n 3, 1) := by decide +kernel
theorem dX8_moveMan_70 : decode cX8_moveMan 70 = .ok (.iaload, 1) := by decide +kernel
theorem dX8_moveMan_71 : decode cX8_moveMan 71 = .ok (.iconst 1, 1) := by decide +kernel
theorem dX8_moveMan_72 : decode cX8_moveMan 72 = .ok (.if_icmp .ne 92, 3) := by decide +kernel
theorem dX8_moveMan_75 : decode cX8_moveMan 75 = .ok (.aload_n 0, 1) := by decide +kernel
theorem dX8_moveMan_76 : decode cX8_moveMan 76 = .ok (.getfield 34, 3) := by decide +kernel
theorem dX8_moveMan_79 : decode cX8_moveMan 79 = .ok (.iload_n 3, 1) := by decide +kernel
theorem dX8_moveMan_80 : decode cX8_moveMan 80 = .ok (.iconst 3, 1) := by decide +kernel
theorem dX8_moveMan_81 : decode cX8_moveMan 81 = .ok (.iastore, 1) := by decide +kernel
theorem dX8_moveMan_82 : decode cX8_moveMan 82 = .ok (.goto 82, 3) := by decide +kernel
theorem dX8_moveMan_85 : decode cX8_moveMan 85 = .ok (.aload_n 0, 1) := by decide +kernel
theorem dX8_moveMan_86 : decode cX8_moveMan 86 = .ok (.getfield 27, 3) := by decide +kernel
theorem dX8_moveMan_89 : decode cX8_moveMan 89 = .ok (.iload_n 1, 1) := by decide +kernel
theorem dX8_moveMan_90 : decode cX8_moveMan 90 = .ok (.iaload, 1) := by decide +kernel
theorem dX8_moveMan_91 : decode cX8_moveMan 91 = .ok (.aload_n 0, 1) := by decide +kernel
theorem dX8_moveMan_92 : decode cX8_moveMan 92 = .ok (.getfield 40, 3) := by decide +kernel
theorem dX8_moveMan_95 : decode cX8_moveMan 95 = .ok (.getfield 116, 3) := by decide +kernel
theorem dX8_moveMan_98 : decode cX8_moveMan 98 = .ok (.iload_n 3, 1) := by decide +kernel
theorem dX8_moveMan_99 : decode cX8_moveMan 99 = .ok (.iaload, 1) := by decide +kernel
theorem dX8_moveMan_100 : decode cX8_moveMan 100 = .ok (.if_icmp .ne 22, 3) := by decide +kernel
theorem dX8_moveMan_103 : decode cX8_moveMan 103 = .ok (.aload_n 0, 1) := by decide +kernel
theorem dX8_moveMan_104 : decode cX8_moveMan 104 = .ok (.getfield 34, 3) := by decide +kernel
theorem dX8_moveMan_107 : decode cX8_moveMan 107 = .ok (.iload_n 3, 1) := by decide +kernel
theorem dX8_moveMan_108 : decode cX8_moveMan 108 = .ok (.iaload, 1) := by decide +kernel
theorem dX8_moveMan_109 : decode cX8_moveMan 109 = .ok (.ifCond .ne 55, 3) := by decide +kernel
theorem dX8_moveMan_112 : decode cX8_moveMan 112 = .ok (.aload_n 0, 1) := by decide +kernel
theorem dX8_moveMan_113 : decode cX8_moveMan 113 = .ok (.getfield 34, 3) := by decide +kernel
theorem dX8_moveMan_116 : decode cX8_moveMan 116 = .ok (.iload_n 3, 1) := by decide +kernel
theorem dX8_moveMan_117 : decode cX8_moveMan 117 = .ok (.iconst 1, 1) := by decide +kernel
theorem dX8_moveMan_118 : decode cX8_moveMan 118 = .ok (.iastore, 1) := by decide +kernel
theorem dX8_moveMan_119 : decode cX8_moveMan 119 = .ok (.goto 45, 3) := by decide +kernel
theorem dX8_moveMan_122 : decode cX8_moveMan 122 = .ok (.aload_n 0, 1) := by decide +kernel
theorem dX8_moveMan_123 : decode cX8_moveMan 123 = .ok (.getfield 27, 3) := by decide +kernel
theorem dX8_moveMan_126 : decode cX8_moveMan 126 = .ok (.iload_n 1, 1) := by decide +kernel
theorem dX8_moveMan_127 : decode cX8_moveMan 127 = .ok (.iaload, 1) := by decide +kernel
theorem dX8_moveMan_128 : decode cX8_moveMan 128 = .ok (.iconst 2, 1) := by decide +kernel
theorem dX8_moveMan_129 : decode cX8_moveMan 129 = .ok (.aload_n 0, 1) := by decide +kernel
theorem dX8_moveMan_130 : decode cX8_moveMan 130 = .ok (.getfield 40, 3) := by decide +kernel
theorem dX8_moveMan_133 : decode cX8_moveMan 133 = .ok (.getfield 116, 3) := by decide +kernel
theorem dX8_moveMan_136 : decode cX8_moveMan 136 = .ok (.iload_n 3, 1) := by decide +kernel
theorem dX8_moveMan_137 : decode cX8_moveMan 137 = .ok (.iaload, 1) := by decide +kernel
theorem dX8_moveMan_138 : decode cX8_moveMan 138 = .ok (.imul, 1) := by decide +kernel
theorem dX8_moveMan_139 : decode cX8_moveMan 139 = .ok (.if_icmp .ne 25, 3) := by decide +kernel
theorem dX8_moveMan_142 : decode cX8_moveMan 142 = .ok (.aload_n 0, 1) := by decide +kernel
theorem dX8_moveMan_143 : decode cX8_moveMan 143 = .ok (.iload_n 1, 1) := by decide +kernel
theorem dX8_moveMan_144 : decode cX8_moveMan 144 = .ok (.iconst 0, 1) := by decide +kernel
theorem dX8_moveMan_145 : decode cX8_moveMan 145 = .ok (.invokevirtual 171, 3) := by decide +kernel
theorem dX8_moveMan_148 : decode cX8_moveMan 148 = .ok (.aload_n 0, 1) := by decide +kernel
theorem dX8_moveMan_149 : decode cX8_moveMan 149 = .ok (.getfield 34, 3) := by decide +kernel
theorem dX8_moveMan_152 : decode cX8_moveMan 152 = .ok (.iload_n 3, 1) := by decide +kernel
theorem dX8_moveMan_153 : decode cX8_moveMan 153 = .ok (.iaload, 1) := by decide +kernel
theorem dX8_moveMan_154 : decode cX8_moveMan 154 = .ok (.iconst 1, 1) := by decide +kernel
theorem dX8_moveMan_155 : decode cX8_moveMan 155 = .ok (.if_icmp .ne 9, 3) := by decide +kernel
theorem dX8_moveMan_158 : decode cX8_moveMan 158 = .ok (.aload_n 0, 1) := by decide +kernel
theorem dX8_moveMan_159 : decode cX8_moveMan 159 = .ok (.iload_n 1, 1) := by decide +kernel
theorem dX8_moveMan_160 : decode cX8_moveMan 160 = .ok (.iload_n 3, 1) := by decide +kernel
theorem dX8_moveMan_161 : decode cX8_moveMan 161 = .ok (.invokevirtual 174, 3) := by decide +kernel
theorem dX8_moveMan_164 : decode cX8_moveMan 164 = .ok (.return_, 1) := by decide +kernel
theorem dX8_leaveThing_0 : decode cX8_leaveThing 0 = .ok (.aload_n 0, 1) := by decide +kernel
theorem dX8_leaveThing_1 : decode cX8_leaveThing 1 = .ok (.getfield 21, 3) := by decide +kernel
theorem dX8_leaveThing_4 : decode cX8_leaveThing 4 = .ok (.iload_n 1, 1) := by decide +kernel
theorem dX8_leaveThing_5 : decode cX8_leaveThing 5 = .ok (.iload_n 2, 1) := by decide +kernel
theorem dX8_leaveThing_6 : decode cX8_leaveThing 6 = .ok (.iastore, 1) := by decide +kernel
theorem dX8_leaveThing_7 : decode cX8_leaveThing 7 = .ok (.aload_n 0, 1) := by decide +kernel
theorem dX8_leaveThing_8 : decode cX8_leaveThing 8 = .ok (.getfield 24, 3) := by decide +kernel
theorem dX8_leaveThing_11 : decode cX8_leaveThing 11 = .ok (.iload_n 1, 1) := by decide +kernel
theorem dX8_leaveThing_12 : decode cX8_leaveThing 12 = .ok (.bipush (-2), 2) := by decide +kernel
theorem dX8_leaveThing_14 : decode cX8_leaveThing 14 = .ok (.iastore, 1) := by decide +kernel
theorem dX8_leaveThing_15 : decode cX8_leaveThing 15 = .ok (.aload_n 0, 1) := by decide +kernel
theorem dX8_leaveThing_16 : decode cX8_leaveThing 16 = .ok (.getfield 27, 3) := by decide +kernel
theorem dX8_leaveThing_19 : decode cX8_leaveThing 19 = .ok (.iload_n 1, 1) := by decide +kernel
theorem dX8_leaveThing_20 : decode cX8_leaveThing 20 = .ok (.iconst 0, 1) := by decide +kernel
theorem dX8_leaveThing_21 : decode cX8_leaveThing 21 = .ok (.iastore, 1) := by decide +kernel
theorem dX8_leaveThing_22 : decode cX8_leaveThing 22 = .ok (.return_, 1) := by decide +kernel
theorem dX8_isHurt_0 : decode cX8_isHurt 0 = .ok (.iload_n 3, 1) := by decide +kernel
theorem dX8_isHurt_1 : decode cX8_isHurt 1 = .ok (.iconst 4, 1) := by decide +kernel
theorem dX8_isHurt_2 : decode cX8_isHurt 2 = .ok (.iand, 1) := by decide +kernel
theorem dX8_isHurt_3 : decode cX8_isHurt 3 = .ok (.ifCond .eq 5, 3) := by decide +kernel
theorem dX8_isHurt_6 : decode cX8_isHurt 6 = .ok (.iconst 0, 1) := by decide +kernel
theorem dX8_isHurt_7 : decode cX8_isHurt 7 = .ok (.ireturn, 1) := by decide +kernel
theorem dX8_isHurt_8 : decode cX8_isHurt 8 = .ok (.aload_n 0, 1) := by decide +kernel
theorem dX8_isHurt_9 : decode cX8_isHurt 9 = .ok (.iload_n 1, 1) := by decide +kernel
theorem dX8_isHurt_10 : decode cX8_isHurt 10 = .ok (.iload_n 2, 1) := by decide +kernel
theorem dX8_isHurt_11 : decode cX8_isHurt 11 = .ok (.iconst 0, 1) := by decide +kernel
theorem dX8_isHurt_12 : decode cX8_isHurt 12 = .ok (.invokevirtual 119, 3) := by decide +kernel
theorem dX8_isHurt_15 : decode cX8_isHurt 15 = .ok (.aload_n 0, 1) := by decide +kernel
theorem dX8_isHurt_16 : decode cX8_isHurt 16 = .ok (.getfield 40, 3) := by decide +kernel
theorem dX8_isHurt_19 : decode cX8_isHurt 19 = .ok (.getfield 100, 3) := by decide +kernel
theorem dX8_isHurt_22 : decode cX8_isHurt 22 = .ok (.iconst 2, 1) := by decide +kernel
theorem dX8_isHurt_23 : decode cX8_isHurt 23 = .ok (.invokevirtual 123, 3) := by decide +kernel
theorem dX8_isHurt_26 : decode cX8_isHurt 26 = .ok (.lstore 4, 2) := by decide +kernel
theorem dX8_isHurt_28 : decode cX8_isHurt 28 = .ok (.aload_n 0, 1) := by decide +kernel
theorem dX8_isHurt_29 : decode cX8_isHurt 29 = .ok (.lload 4, 2) := by decide +kernel
theorem dX8_isHurt_31 : decode cX8_isHurt 31 = .ok (.ldc2_w 127, 3) := by decide +kernel
theorem dX8_isHurt_34 : decode cX8_isHurt 34 = .ok (.lcmp, 1) := by decide +kernel
theorem dX8_isHurt_35 : decode cX8_isHurt 35 = .ok (.ifCond .ne 16, 3) := by decide +kernel
theorem dX8_isHurt_38 : decode cX8_isHurt 38 = .ok (.aload_n 0, 1) := by decide +kernel
theorem dX8_isHurt_39 : decode cX8_isHurt 39 = .ok (.getfield 40, 3) := by decide +kernel
theorem dX8_isHurt_42 : decode cX8_isHurt 42 = .ok (.getfield 59, 3) := by decide +kernel
theorem dX8_isHurt_45 : decode cX8_isHurt 45 = .ok (.iconst 3, 1) := by decide +kernel
theorem dX8_isHurt_46 : decode cX8_isHurt 46 = .ok (.iaload, 1) := by decide +kernel
theorem dX8_isHurt_47 : decode cX8_isHurt 47 = .ok (.i2l, 1) := by decide +kernel
theorem dX8_isHurt_48 : decode cX8_isHurt 48 = .ok (.goto 5, 3) := by decide +kernel
theorem dX8_isHurt_51 : decode cX8_isHurt 51 = .ok (.lload 4, 2) := by decide +kernel
theorem dX8_isHurt_53 : decode cX8_isHurt 53 = .ok (.iload_n 3, 1) := by decide +kernel
theorem dX8_isHurt_54 : decode cX8_isHurt 54 = .ok (.invokevirtual 177, 3) := by decide +kernel
theorem dX8_isHurt_57 : decode cX8_isHurt 57 = .ok (.ireturn, 1) := by decide +kernel
theorem dX8_saveThing_0 : decode cX8_saveThing 0 = .ok (.aload_n 0, 1) := by decide +kernel
theorem dX8_saveThing_1 : decode cX8_saveThing 1 = .ok (.getfield 34, 3) := by decide +kernel
theorem dX8_saveThing_4 : decode cX8_saveThing 4 = .ok (.iload_n 2, 1) := by decide +kernel
theorem dX8_saveThing_5 : decode cX8_saveThing 5 = .ok (.iconst 2, 1) := by decide +kernel
theorem dX8_saveThing_6 : decode cX8_saveThing 6 = .ok (.iastore, 1) := by decide +kernel
theorem dX8_saveThing_7 : decode cX8_saveThing 7 = .ok (.aload_n 0, 1) := by decide +kernel
theorem dX8_saveThing_8 : decode cX8_saveThing 8 = .ok (.sipush 9999, 3) := by decide +kernel
theorem dX8_saveThing_11 : decode cX8_saveThing 11 = .ok (.aload_n 0, 1) := by decide +kernel
theorem dX8_saveThing_12 : decode cX8_saveThing 12 = .ok (.getfield 62, 3) := by decide +kernel
theorem dX8_saveThing_15 : decode cX8_saveThing 15 = .ok (.aload_n 0, 1) := by decide +kernel
theorem dX8_saveThing_16 : decode cX8_saveThing 16 = .ok (.getfield 40, 3) := by decide +kernel
theorem dX8_saveThing_19 : decode cX8_saveThing 19 = .ok (.getfield 86, 3) := by decide +kernel
theorem dX8_saveThing_22 : decode cX8_saveThing 22 = .ok (.iload_n 2, 1) := by decide +kernel
theorem dX8_saveThing_23 : decode cX8_saveThing 23 = .ok (.iaload, 1) := by decide +kernel
theorem dX8_saveThing_24 : decode cX8_saveThing 24 = .ok (.iadd, 1) := by decide +kernel
theorem dX8_saveThing_25 : decode cX8_saveThing 25 = .ok (.invokestatic 181, 3) := by decide +kernel
theorem dX8_saveThing_28 : decode cX8_saveThing 28 = .ok (.putfield 62, 3) := by decide +kernel
theorem dX8_saveThing_31 : decode cX8_saveThing 31 = .ok (.aload_n 0, 1) := by decide +kernel
theorem dX8_saveThing_32 : decode cX8_saveThing 32 = .ok (.iload_n 1, 1) := by decide +kernel
theorem dX8_saveThing_33 : decode cX8_saveThing 33 = .ok (.iload_n 2, 1) := by decide +kernel
theorem dX8_saveThing_34 : decode cX8_saveThing 34 = .ok (.iconst 0, 1) := by decide +kernel
theorem dX8_saveThing_35 : decode cX8_saveThing 35 = .ok (.invokevirtual 119, 3) := by decide +kernel
theorem dX8_saveThing_38 : decode cX8_saveThing 38 = .ok (.aload_n 0, 1) := by decide +kernel
theorem dX8_saveThing_39 : decode cX8_saveThing 39 = .ok (.getfield 40, 3) := by decide +kernel
theorem dX8_saveThing_42 : decode cX8_saveThing 42 = .ok (.getfield 100, 3) := by decide +kernel
theorem dX8_saveThing_45 : decode cX8_saveThing 45 = .ok (.iconst 1, 1) := by decide +kernel
theorem dX8_saveThing_46 : decode cX8_saveThing 46 = .ok (.invokevirtual 123, 3) := by decide +kernel
theorem dX8_saveThing_49 : decode cX8_saveThing 49 = .ok (.lstore_n 3, 1) := by decide +kernel
theorem dX8_saveThing_50 : decode cX8_saveThing 50 = .ok (.lload_n 3, 1) := by decide +kernel
theorem dX8_saveThing_51 : decode cX8_saveThing 51 = .ok (.ldc2_w 127, 3) := by decide +kernel
theorem dX8_saveThing_54 : decode cX8_saveThing 54 = .ok (.lcmp, 1) := by decide +kernel
theorem dX8_saveThing_55 : decode cX8_saveThing 55 = .ok (.ifCond .eq 43, 3) := by decide +kernel
theorem dX8_saveThing_58 : decode cX8_saveThing 58 = .ok (.ldc2_w 187, 3) := by decide +kernel
theorem dX8_saveThing_61 : decode cX8_saveThing 61 = .ok (.ldc2_w 189, 3) := by decide +kernel
theorem dX8_saveThing_64 : decode cX8_saveThing 64 = .ok (.lload_n 3, 1) := by decide +kernel
theorem dX8_saveThing_65 : decode cX8_saveThing 65 = .ok (.invokestatic 191, 3) := by decide +kernel
theorem dX8_saveThing_68 : decode cX8_saveThing 68 = .ok (.invokestatic 194, 3) := by decide +kernel
theorem dX8_saveThing_71 : decode cX8_saveThing 71 = .ok (.l2i, 1) := by decide +kernel
theorem dX8_saveThing_72 : decode cX8_saveThing 72 = .ok (.istore 5, 2) := by decide +kernel
theorem dX8_saveThing_74 : decode cX8_saveThing 74 = .ok (.aload_n 0, 1) := by decide +kernel
theorem dX8_saveThing_75 : decode cX8_saveThing 75 = .ok (.getfield 15, 3) := by decide +kernel
theorem dX8_saveThing_78 : decode cX8_saveThing 78 = .ok (.iload_n 1, 1) := by decide +kernel
theorem dX8_saveThing_79 : decode cX8_saveThing 79 = .ok (.iconst 0, 1) := by decide +kernel
theorem dX8_saveThing_80 : decode cX8_saveThing 80 = .ok (.bipush 99, 2) := by decide +kernel
theorem dX8_saveThing_82 : decode cX8_saveThing 82 = .ok (.aload_n 0, 1) := by decide +kernel
theorem dX8_saveThing_83 : decode cX8_saveThing 83 = .ok (.getfield 15, 3) := by decide +kernel
theorem dX8_saveThing_86 : decode cX8_saveThing 86 = .ok (.iload_n 1, 1) := by decide +kernel
theorem dX8_saveThing_87 : decode cX8_saveThing 87 = .ok (.iaload, 1) := by decide +kernel
theorem dX8_saveThing_88 : decode cX8_saveThing 88 = .ok (.iload 5, 2) := by decide +kernel
theorem dX8_saveThing_90 : decode cX8_saveThing 90 = .ok (.iadd, 1) := by decide +kernel
theorem dX8_saveThing_91 : decode cX8_saveThing 91 = .ok (.invokestatic 181, 3) := by decide +kernel
theorem dX8_saveThing_94 : decode cX8_saveThing 94 = .ok (.invokestatic 197, 3) := by decide +kernel
theorem dX8_saveThing_97 : decode cX8_saveThing 97 = .ok (.iastore, 1) := by decide +kernel
theorem dX8_saveThing_98 : decode cX8_saveThing 98 = .ok (.return_, 1) := by decide +kernel
theorem dX8_burnThings_0 : decode cX8_burnThings 0 = .ok (.iconst 0, 1) := by decide +kernel
theorem dX8_burnThings_1 : decode cX8_burnThings 1 = .ok (.istore_n 1, 1) := by decide +kernel
theorem dX8_burnThings_2 : decode cX8_burnThings 2 = .ok (.iload_n 1, 1) := by decide +kernel
theorem dX8_burnThings_3 : decode cX8_burnThings 3 = .ok (.aload_n 0, 1) := by decide +kernel
theorem dX8_burnThings_4 : decode cX8_burnThings 4 = .ok (.getfield 40, 3) := by decide +kernel
theorem dX8_burnThings_7 : decode cX8_burnThings 7 = .ok (.getfield 80, 3) := by decide +kernel
theorem dX8_burnThings_10 : decode cX8_burnThings 10 = .ok (.if_icmp .ge 44, 3) := by decide +kernel
theorem dX8_burnThings_13 : decode cX8_burnThings 13 = .ok (.iload_n 1, 1) := by decide +kernel
theorem dX8_burnThings_14 : decode cX8_burnThings 14 = .ok (.bipush 8, 2) := by decide +kernel
theorem dX8_burnThings_16 : decode cX8_burnThings 16 = .ok (.if_icmp .ge 38, 3) := by decide +kernel
theorem dX8_burnThings_19 : decode cX8_burnThings 19 = .ok (.aload_n 0, 1) := by decide +kernel
theorem dX8_burnThings_20 : decode cX8_burnThings 20 = .ok (.getfield 34, 3) := by decide +kernel
theorem dX8_burnThings_23 : decode cX8_burnThings 23 = .ok (.iload_n 1, 1) := by decide +kernel
theorem dX8_burnThings_24 : decode cX8_burnThings 24 = .ok (.iaload, 1) := by decide +kernel
theorem dX8_burnThings_25 : decode cX8_burnThings 25 = .ok (.ifCond .ne 23, 3) := by decide +kernel
theorem dX8_burnThings_28 : decode cX8_burnThings 28 = .ok (.aload_n 0, 1) := by decide +kernel
theorem dX8_burnThings_29 : decode cX8_burnThings 29 = .ok (.getfield 37, 3) := by decide +kernel
theorem dX8_burnThings_32 : decode cX8_burnThings 32 = .ok (.iload_n 1, 1) := by decide +kernel
theorem dX8_burnThings_33 : decode cX8_burnThings 33 = .ok (.iaload, 1) := by decide +kernel
theorem dX8_burnThings_34 : decode cX8_burnThings 34 = .ok (.aload_n 0, 1) := by decide +kernel
theorem dX8_burnThings_35 : decode cX8_burnThings 35 = .ok (.getfield 52, 3) := by decide +kernel
theorem dX8_burnThings_38 : decode cX8_burnThings 38 = .ok (.if_icmp .ne 10, 3) := by decide +kernel
theorem dX8_burnThings_41 : decode cX8_burnThings 41 = .ok (.aload_n 0, 1) := by decide +kernel
theorem dX8_burnThings_42 : decode cX8_burnThings 42 = .ok (.getfield 34, 3) := by decide +kernel
theorem dX8_burnThings_45 : decode cX8_burnThings 45 = .ok (.iload_n 1, 1) := by decide +kernel
theorem dX8_burnThings_46 : decode cX8_burnThings 46 = .ok (.iconst 3, 1) := by decide +kernel
theorem dX8_burnThings_47 : decode cX8_burnThings 47 = .ok (.iastore, 1) := by decide +kernel
theorem dX8_burnThings_48 : decode cX8_burnThings 48 = .ok (.iinc 1 1, 3) := by decide +kernel
theorem dX8_burnThings_51 : decode cX8_burnThings 51 = .ok (.goto (-49), 3) := by decide +kernel
theorem dX8_burnThings_54 : decode cX8_burnThings 54 = .ok (.return_, 1) := by decide +kernel
theorem dX8_growHeat_0 : decode cX8_growHeat 0 = .ok (.aload_n 0, 1) := by decide +kernel
theorem dX8_growHeat_1 : decode cX8_growHeat 1 = .ok (.getfield 40, 3) := by decide +kernel
theorem dX8_growHeat_4 : decode cX8_growHeat 4 = .ok (.getfield 59, 3) := by decide +kernel
theorem dX8_growHeat_7 : decode cX8_growHeat 7 = .ok (.iconst 1, 1) := by decide +kernel
theorem dX8_growHeat_8 : decode cX8_growHeat 8 = .ok (.iaload, 1) := by decide +kernel
theorem dX8_growHeat_9 : decode cX8_growHeat 9 = .ok (.istore_n 2, 1) := by decide +kernel
theorem dX8_growHeat_10 : decode cX8_growHeat 10 = .ok (.iload_n 1, 1) := by decide +kernel
theorem dX8_growHeat_11 : decode cX8_growHeat 11 = .ok (.iconst 2, 1) := by decide +kernel
theorem dX8_growHeat_12 : decode cX8_growHeat 12 = .ok (.iand, 1) := by decide +kernel
theorem dX8_growHeat_13 : decode cX8_growHeat 13 = .ok (.ifCond .ne 24, 3) := by decide +kernel
theorem dX8_growHeat_16 : decode cX8_growHeat 16 = .ok (.aload_n 0, 1) := by decide +kernel
theorem dX8_growHeat_17 : decode cX8_growHeat 17 = .ok (.aload_n 0, 1) := by decide +kernel
theorem dX8_growHeat_18 : decode cX8_growHeat 18 = .ok (.getfield 40, 3) := by decide +kernel
theorem dX8_growHeat_21 : decode cX8_growHeat 21 = .ok (.getfield 59, 3) := by decide +kernel
theorem dX8_growHeat_24 : decode cX8_growHeat 24 = .ok (.iconst 2, 1) := by decide +kernel
theorem dX8_growHeat_25 : decode cX8_growHeat 25 = .ok (.iaload, 1) := by decide +kernel
theorem dX8_growHeat_26 : decode cX8_growHeat 26 = .ok (.i2l, 1) := by decide +kernel
theorem dX8_growHeat_27 : decode cX8_growHeat 27 = .ok (.iload_n 1, 1) := by decide +kernel
theorem dX8_growHeat_28 : decode cX8_growHeat 28 = .ok (.invokevirtual 177, 3) := by decide +kernel
theorem dX8_growHeat_31 : decode cX8_growHeat 31 = .ok (.ifCond .eq 6, 3) := by decide +kernel
theorem dX8_growHeat_34 : decode cX8_growHeat 34 = .ok (.iinc 2 5, 3) := by decide +kernel
theorem dX8_growHeat_37 : decode cX8_growHeat 37 = .ok (.aload_n 0, 1) := by decide +kernel
theorem dX8_growHeat_38 : decode cX8_growHeat 38 = .ok (.sipush 999, 3) := by decide +kernel
theorem dX8_growHeat_41 : decode cX8_growHeat 41 = .ok (.aload_n 0, 1) := by decide +kernel
theorem dX8_growHeat_42 : decode cX8_growHeat 42 = .ok (.getfield 56, 3) := by decide +kernel
theorem dX8_growHeat_45 : decode cX8_growHeat 45 = .ok (.iload_n 2, 1) := by decide +kernel
theorem dX8_growHeat_46 : decode cX8_growHeat 46 = .ok (.iadd, 1) := by decide +kernel
theorem dX8_growHeat_47 : decode cX8_growHeat 47 = .ok (.invokestatic 181, 3) := by decide +kernel
theorem dX8_growHeat_50 : decode cX8_growHeat 50 = .ok (.putfield 56, 3) := by decide +kernel
theorem dX8_growHeat_53 : decode cX8_growHeat 53 = .ok (.return_, 1) := by decide +kernel
theorem dX8_comesTrue_0 : decode cX8_comesTrue 0 = .ok (.lload_n 1, 1) := by decide +kernel
theorem dX8_comesTrue_1 : decode cX8_comesTrue 1 = .ok (.lconst 0, 1) := by decide +kernel
theorem dX8_comesTrue_2 : decode cX8_comesTrue 2 = .ok (.lcmp, 1) := by decide +kernel
theorem dX8_comesTrue_3 : decode cX8_comesTrue 3 = .ok (.ifCond .le 11, 3) := by decide +kernel
theorem dX8_comesTrue_6 : decode cX8_comesTrue 6 = .ok (.lload_n 1, 1) := by decide +kernel
theorem dX8_comesTrue_7 : decode cX8_comesTrue 7 = .ok (.ldc2_w 199, 3) := by decide +kernel
theorem dX8_comesTrue_10 : decode cX8_comesTrue 10 = .ok (.lcmp, 1) := by decide +kernel
theorem dX8_comesTrue_11 : decode cX8_comesTrue 11 = .ok (.ifCond .lt 17, 3) := by decide +kernel
theorem dX8_comesTrue_14 : decode cX8_comesTrue 14 = .ok (.lload_n 1, 1) := by decide +kernel
theorem dX8_comesTrue_15 : decode cX8_comesTrue 15 = .ok (.ldc2_w 199, 3) := by decide +kernel
theorem dX8_comesTrue_18 : decode cX8_comesTrue 18 = .ok (.lcmp, 1) := by decide +kernel
theorem dX8_comesTrue_19 : decode cX8_comesTrue 19 = .ok (.ifCond .lt 7, 3) := by decide +kernel
theorem dX8_comesTrue_22 : decode cX8_comesTrue 22 = .ok (.iconst 1, 1) := by decide +kernel
theorem dX8_comesTrue_23 : decode cX8_comesTrue 23 = .ok (.goto 4, 3) := by decide +kernel
theorem dX8_comesTrue_26 : decode cX8_comesTrue 26 = .ok (.iconst 0, 1) := by decide +kernel
theorem dX8_comesTrue_27 : decode cX8_comesTrue 27 = .ok (.ireturn, 1) := by decide +kernel
theorem dX8_comesTrue_28 : decode cX8_comesTrue 28 = .ok (.iload_n 3, 1) := by decide +kernel
theorem dX8_comesTrue_29 : decode cX8_comesTrue 29 = .ok (.iconst 1, 1) := by decide +kernel
theorem dX8_comesTrue_30 : decode cX8_comesTrue 30 = .ok (.iand, 1) := by decide +kernel
theorem dX8_comesTrue_31 : decode cX8_comesTrue 31 = .ok (.ifCond .ne 17, 3) := by decide +kernel
theorem dX8_comesTrue_34 : decode cX8_comesTrue 34 = .ok (.lload_n 1, 1) := by decide +kernel
theorem dX8_comesTrue_35 : decode cX8_comesTrue 35 = .ok (.ldc2_w 201, 3) := by decide +kernel
theorem dX8_comesTrue_38 : decode cX8_comesTrue 38 = .ok (.lcmp, 1) := by decide +kernel
theorem dX8_comesTrue_39 : decode cX8_comesTrue 39 = .ok (.ifCond .lt 7, 3) := by decide +kernel
theorem dX8_comesTrue_42 : decode cX8_comesTrue 42 = .ok (.iconst 1, 1) := by decide +kernel
theorem dX8_comesTrue_43 : decode cX8_comesTrue 43 = .ok (.goto 4, 3) := by decide +kernel
theorem dX8_comesTrue_46 : decode cX8_comesTrue 46 = .ok (.iconst 0, 1) := by decide +kernel
theorem dX8_comesTrue_47 : decode cX8_comesTrue 47 = .ok (.ireturn, 1) := by decide +kernel
theorem dX8_comesTrue_48 : decode cX8_comesTrue 48 = .ok (.aload_n 0, 1) := by decide +kernel
theorem dX8_comesTrue_49 : decode cX8_comesTrue 49 = .ok (.aload_n 0, 1) := by decide +kernel
theorem dX8_comesTrue_50 : decode cX8_comesTrue 50 = .ok (.getfield 68, 3) := by decide +kernel
theorem dX8_comesTrue_53 : decode cX8_comesTrue 53 = .ok (.ldc 203, 2) := by decide +kernel
theorem dX8_comesTrue_55 : decode cX8_comesTrue 55 = .ok (.imul, 1) := by decide +kernel
theorem dX8_comesTrue_56 : decode cX8_comesTrue 56 = .ok (.sipush 12345, 3) := by decide +kernel
theorem dX8_comesTrue_59 : decode cX8_comesTrue 59 = .ok (.iadd, 1) := by decide +kernel
theorem dX8_comesTrue_60 : decode cX8_comesTrue 60 = .ok (.ldc 204, 2) := by decide +kernel
theorem dX8_comesTrue_62 : decode cX8_comesTrue 62 = .ok (.iand, 1) := by decide +kernel
theorem dX8_comesTrue_63 : decode cX8_comesTrue 63 = .ok (.putfield 68, 3) := by decide +kernel
theorem dX8_comesTrue_66 : decode cX8_comesTrue 66 = .ok (.aload_n 0, 1) := by decide +kernel
theorem dX8_comesTrue_67 : decode cX8_comesTrue 67 = .ok (.getfield 68, 3) := by decide +kernel
theorem dX8_comesTrue_70 : decode cX8_comesTrue 70 = .ok (.bipush 16, 2) := by decide +kernel
theorem dX8_comesTrue_72 : decode cX8_comesTrue 72 = .ok (.ishr, 1) := by decide +kernel
theorem dX8_comesTrue_73 : decode cX8_comesTrue 73 = .ok (.bipush 100, 2) := by decide +kernel
theorem dX8_comesTrue_75 : decode cX8_comesTrue 75 = .ok (.irem, 1) := by decide +kernel
theorem dX8_comesTrue_76 : decode cX8_comesTrue 76 = .ok (.i2l, 1) := by decide +kernel
theorem dX8_comesTrue_77 : decode cX8_comesTrue 77 = .ok (.lload_n 1, 1) := by decide +kernel
theorem dX8_comesTrue_78 : decode cX8_comesTrue 78 = .ok (.lcmp, 1) := by decide +kernel
theorem dX8_comesTrue_79 : decode cX8_comesTrue 79 = .ok (.ifCond .ge 7, 3) := by decide +kernel
theorem dX8_comesTrue_82 : decode cX8_comesTrue 82 = .ok (.iconst 1, 1) := by decide +kernel
theorem dX8_comesTrue_83 : decode cX8_comesTrue 83 = .ok (.goto 4, 3) := by decide +kernel
theorem dX8_comesTrue_86 : decode cX8_comesTrue 86 = .ok (.iconst 0, 1) := by decide +kernel
theorem dX8_comesTrue_87 : decode cX8_comesTrue 87 = .ok (.ireturn, 1) := by decide +kernel
