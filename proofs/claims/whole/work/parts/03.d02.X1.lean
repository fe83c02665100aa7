theorem dX1_init_0 : decode cX1_init 0 = .ok (.aload_n 0, 1) := by decide +kernel
theorem dX1_init_1 : decode cX1_init 1 = .ok (.invokespecial 3, 3) := by decide +kernel
theorem dX1_init_4 : decode cX1_init 4 = .ok (.aload_n 0, 1) := by decide +kernel
theorem dX1_init_5 : decode cX1_init 5 = .ok (.iconst 3, 1) := by decide +kernel
theorem dX1_init_6 : decode cX1_init 6 = .ok (.newarray .int, 2) := by decide +kernel
theorem dX1_init_8 : decode cX1_init 8 = .ok (.dup, 1) := by decide +kernel
theorem dX1_init_9 : decode cX1_init 9 = .ok (.iconst 0, 1) := by decide +kernel
theorem dX1_init_10 : decode cX1_init 10 = .ok (.iconst (-1), 1) := by decide +kernel
theorem dX1_init_11 : decode cX1_init 11 = .ok (.iastore, 1) := by decide +kernel
theorem dX1_init_12 : decode cX1_init 12 = .ok (.dup, 1) := by decide +kernel
theorem dX1_init_13 : decode cX1_init 13 = .ok (.iconst 1, 1) := by decide +kernel
theorem dX1_init_14 : decode cX1_init 14 = .ok (.iconst (-1), 1) := by decide +kernel
theorem dX1_init_15 : decode cX1_init 15 = .ok (.iastore, 1) := by decide +kernel
theorem dX1_init_16 : decode cX1_init 16 = .ok (.dup, 1) := by decide +kernel
theorem dX1_init_17 : decode cX1_init 17 = .ok (.iconst 2, 1) := by decide +kernel
theorem dX1_init_18 : decode cX1_init 18 = .ok (.iconst (-1), 1) := by decide +kernel
theorem dX1_init_19 : decode cX1_init 19 = .ok (.iastore, 1) := by decide +kernel
theorem dX1_init_20 : decode cX1_init 20 = .ok (.putfield 9, 3) := by decide +kernel
theorem dX1_init_23 : decode cX1_init 23 = .ok (.aload_n 0, 1) := by decide +kernel
theorem dX1_init_24 : decode cX1_init 24 = .ok (.iconst 3, 1) := by decide +kernel
theorem dX1_init_25 : decode cX1_init 25 = .ok (.newarray .int, 2) := by decide +kernel
theorem dX1_init_27 : decode cX1_init 27 = .ok (.dup, 1) := by decide +kernel
theorem dX1_init_28 : decode cX1_init 28 = .ok (.iconst 0, 1) := by decide +kernel
theorem dX1_init_29 : decode cX1_init 29 = .ok (.iconst (-1), 1) := by decide +kernel
theorem dX1_init_30 : decode cX1_init 30 = .ok (.iastore, 1) := by decide +kernel
theorem dX1_init_31 : decode cX1_init 31 = .ok (.dup, 1) := by decide +kernel
theorem dX1_init_32 : decode cX1_init 32 = .ok (.iconst 1, 1) := by decide +kernel
theorem dX1_init_33 : decode cX1_init 33 = .ok (.iconst (-1), 1) := by decide +kernel
theorem dX1_init_34 : decode cX1_init 34 = .ok (.iastore, 1) := by decide +kernel
theorem dX1_init_35 : decode cX1_init 35 = .ok (.dup, 1) := by decide +kernel
theorem dX1_init_36 : decode cX1_init 36 = .ok (.iconst 2, 1) := by decide +kernel
theorem dX1_init_37 : decode cX1_init 37 = .ok (.iconst (-1), 1) := by decide +kernel
theorem dX1_init_38 : decode cX1_init 38 = .ok (.iastore, 1) := by decide +kernel
theorem dX1_init_39 : decode cX1_init 39 = .ok (.putfield 15, 3) := by decide +kernel
theorem dX1_init_42 : decode cX1_init 42 = .ok (.aload_n 0, 1) := by decide +kernel
theorem dX1_init_43 : decode cX1_init 43 = .ok (.bipush 64, 2) := by decide +kernel
theorem dX1_init_45 : decode cX1_init 45 = .ok (.newarray .int, 2) := by decide +kernel
theorem dX1_init_47 : decode cX1_init 47 = .ok (.putfield 18, 3) := by decide +kernel
theorem dX1_init_50 : decode cX1_init 50 = .ok (.aload_n 0, 1) := by decide +kernel
theorem dX1_init_51 : decode cX1_init 51 = .ok (.bipush 64, 2) := by decide +kernel
theorem dX1_init_53 : decode cX1_init 53 = .ok (.newarray .int, 2) := by decide +kernel
theorem dX1_init_55 : decode cX1_init 55 = .ok (.putfield 21, 3) := by decide +kernel
theorem dX1_init_58 : decode cX1_init 58 = .ok (.aload_n 0, 1) := by decide +kernel
theorem dX1_init_59 : decode cX1_init 59 = .ok (.bipush 7, 2) := by decide +kernel
theorem dX1_init_61 : decode cX1_init 61 = .ok (.newarray .long, 2) := by decide +kernel
theorem dX1_init_63 : decode cX1_init 63 = .ok (.putfield 26, 3) := by decide +kernel
theorem dX1_init_66 : decode cX1_init 66 = .ok (.aload_n 0, 1) := by decide +kernel
theorem dX1_init_67 : decode cX1_init 67 = .ok (.bipush 64, 2) := by decide +kernel
theorem dX1_init_69 : decode cX1_init 69 = .ok (.newarray .long, 2) := by decide +kernel
theorem dX1_init_71 : decode cX1_init 71 = .ok (.putfield 30, 3) := by decide +kernel
theorem dX1_init_74 : decode cX1_init 74 = .ok (.return_, 1) := by decide +kernel
theorem dX1_clear_0 : decode cX1_clear 0 = .ok (.aload_n 0, 1) := by decide +kernel
theorem dX1_clear_1 : decode cX1_clear 1 = .ok (.iconst 0, 1) := by decide +kernel
theorem dX1_clear_2 : decode cX1_clear 2 = .ok (.putfield 33, 3) := by decide +kernel
theorem dX1_clear_5 : decode cX1_clear 5 = .ok (.aload_n 0, 1) := by decide +kernel
theorem dX1_clear_6 : decode cX1_clear 6 = .ok (.iconst 0, 1) := by decide +kernel
theorem dX1_clear_7 : decode cX1_clear 7 = .ok (.putfield 37, 3) := by decide +kernel
theorem dX1_clear_10 : decode cX1_clear 10 = .ok (.iconst 0, 1) := by decide +kernel
theorem dX1_clear_11 : decode cX1_clear 11 = .ok (.istore_n 1, 1) := by decide +kernel
theorem dX1_clear_12 : decode cX1_clear 12 = .ok (.iload_n 1, 1) := by decide +kernel
theorem dX1_clear_13 : decode cX1_clear 13 = .ok (.iconst 3, 1) := by decide +kernel
theorem dX1_clear_14 : decode cX1_clear 14 = .ok (.if_icmp .ge 23, 3) := by decide +kernel
theorem dX1_clear_17 : decode cX1_clear 17 = .ok (.aload_n 0, 1) := by decide +kernel
theorem dX1_clear_18 : decode cX1_clear 18 = .ok (.getfield 9, 3) := by decide +kernel
theorem dX1_clear_21 : decode cX1_clear 21 = .ok (.iload_n 1, 1) := by decide +kernel
theorem dX1_clear_22 : decode cX1_clear 22 = .ok (.iconst (-1), 1) := by decide +kernel
theorem dX1_clear_23 : decode cX1_clear 23 = .ok (.iastore, 1) := by decide +kernel
theorem dX1_clear_24 : decode cX1_clear 24 = .ok (.aload_n 0, 1) := by decide +kernel
theorem dX1_clear_25 : decode cX1_clear 25 = .ok (.getfield 15, 3) := by decide +kernel
theorem dX1_clear_28 : decode cX1_clear 28 = .ok (.iload_n 1, 1) := by decide +kernel
theorem dX1_clear_29 : decode cX1_clear 29 = .ok (.iconst (-1), 1) := by decide +kernel
theorem dX1_clear_30 : decode cX1_clear 30 = .ok (.iastore, 1) := by decide +kernel
theorem dX1_clear_31 : decode cX1_clear 31 = .ok (.iinc 1 1, 3) := by decide +kernel
theorem dX1_clear_34 : decode cX1_clear 34 = .ok (.goto (-22), 3) := by decide +kernel
theorem dX1_clear_37 : decode cX1_clear 37 = .ok (.return_, 1) := by decide +kernel
theorem dX1_tell_0 : decode cX1_tell 0 = .ok (.aload_n 0, 1) := by decide +kernel
theorem dX1_tell_1 : decode cX1_tell 1 = .ok (.getfield 37, 3) := by decide +kernel
theorem dX1_tell_4 : decode cX1_tell 4 = .ok (.ifCond .lt 42, 3) := by decide +kernel
theorem dX1_tell_7 : decode cX1_tell 7 = .ok (.aload_n 0, 1) := by decide +kernel
theorem dX1_tell_8 : decode cX1_tell 8 = .ok (.getfield 37, 3) := by decide +kernel
theorem dX1_tell_11 : decode cX1_tell 11 = .ok (.bipush 64, 2) := by decide +kernel
theorem dX1_tell_13 : decode cX1_tell 13 = .ok (.if_icmp .ge 33, 3) := by decide +kernel
theorem dX1_tell_16 : decode cX1_tell 16 = .ok (.aload_n 0, 1) := by decide +kernel
theorem dX1_tell_17 : decode cX1_tell 17 = .ok (.getfield 18, 3) := by decide +kernel
theorem dX1_tell_20 : decode cX1_tell 20 = .ok (.aload_n 0, 1) := by decide +kernel
theorem dX1_tell_21 : decode cX1_tell 21 = .ok (.getfield 37, 3) := by decide +kernel
theorem dX1_tell_24 : decode cX1_tell 24 = .ok (.iload_n 1, 1) := by decide +kernel
theorem dX1_tell_25 : decode cX1_tell 25 = .ok (.iastore, 1) := by decide +kernel
theorem dX1_tell_26 : decode cX1_tell 26 = .ok (.aload_n 0, 1) := by decide +kernel
theorem dX1_tell_27 : decode cX1_tell 27 = .ok (.getfield 21, 3) := by decide +kernel
theorem dX1_tell_30 : decode cX1_tell 30 = .ok (.aload_n 0, 1) := by decide +kernel
theorem dX1_tell_31 : decode cX1_tell 31 = .ok (.getfield 37, 3) := by decide +kernel
theorem dX1_tell_34 : decode cX1_tell 34 = .ok (.iload_n 2, 1) := by decide +kernel
theorem dX1_tell_35 : decode cX1_tell 35 = .ok (.iastore, 1) := by decide +kernel
theorem dX1_tell_36 : decode cX1_tell 36 = .ok (.aload_n 0, 1) := by decide +kernel
theorem dX1_tell_37 : decode cX1_tell 37 = .ok (.dup, 1) := by decide +kernel
theorem dX1_tell_38 : decode cX1_tell 38 = .ok (.getfield 37, 3) := by decide +kernel
theorem dX1_tell_41 : decode cX1_tell 41 = .ok (.iconst 1, 1) := by decide +kernel
theorem dX1_tell_42 : decode cX1_tell 42 = .ok (.iadd, 1) := by decide +kernel
theorem dX1_tell_43 : decode cX1_tell 43 = .ok (.putfield 37, 3) := by decide +kernel
theorem dX1_tell_46 : decode cX1_tell 46 = .ok (.return_, 1) := by decide +kernel
theorem dX1_work_0 : decode cX1_work 0 = .ok (.iload_n 1, 1) := by decide +kernel
theorem dX1_work_1 : decode cX1_work 1 = .ok (.ifCond .lt 17, 3) := by decide +kernel
theorem dX1_work_4 : decode cX1_work 4 = .ok (.iload_n 1, 1) := by decide +kernel
theorem dX1_work_5 : decode cX1_work 5 = .ok (.iconst 3, 1) := by decide +kernel
theorem dX1_work_6 : decode cX1_work 6 = .ok (.if_icmp .ge 12, 3) := by decide +kernel
theorem dX1_work_9 : decode cX1_work 9 = .ok (.aload_n 0, 1) := by decide +kernel
theorem dX1_work_10 : decode cX1_work 10 = .ok (.getfield 9, 3) := by decide +kernel
theorem dX1_work_13 : decode cX1_work 13 = .ok (.iload_n 1, 1) := by decide +kernel
theorem dX1_work_14 : decode cX1_work 14 = .ok (.iaload, 1) := by decide +kernel
theorem dX1_work_15 : decode cX1_work 15 = .ok (.ifCond .ge 7, 3) := by decide +kernel
theorem dX1_work_18 : decode cX1_work 18 = .ok (.ldc2_w 40, 3) := by decide +kernel
theorem dX1_work_21 : decode cX1_work 21 = .ok (.lreturn, 1) := by decide +kernel
theorem dX1_work_22 : decode cX1_work 22 = .ok (.iconst 0, 1) := by decide +kernel
theorem dX1_work_23 : decode cX1_work 23 = .ok (.istore_n 2, 1) := by decide +kernel
theorem dX1_work_24 : decode cX1_work 24 = .ok (.aload_n 0, 1) := by decide +kernel
theorem dX1_work_25 : decode cX1_work 25 = .ok (.getfield 9, 3) := by decide +kernel
theorem dX1_work_28 : decode cX1_work 28 = .ok (.iload_n 1, 1) := by decide +kernel
theorem dX1_work_29 : decode cX1_work 29 = .ok (.iaload, 1) := by decide +kernel
theorem dX1_work_30 : decode cX1_work 30 = .ok (.istore_n 3, 1) := by decide +kernel
theorem dX1_work_31 : decode cX1_work 31 = .ok (.iload_n 3, 1) := by decide +kernel
theorem dX1_work_32 : decode cX1_work 32 = .ok (.aload_n 0, 1) := by decide +kernel
theorem dX1_work_33 : decode cX1_work 33 = .ok (.getfield 15, 3) := by decide +kernel
theorem dX1_work_36 : decode cX1_work 36 = .ok (.iload_n 1, 1) := by decide +kernel
theorem dX1_work_37 : decode cX1_work 37 = .ok (.iaload, 1) := by decide +kernel
theorem dX1_work_38 : decode cX1_work 38 = .ok (.if_icmp .ge 164, 3) := by decide +kernel
theorem dX1_work_41 : decode cX1_work 41 = .ok (.iload_n 3, 1) := by decide +kernel
theorem dX1_work_42 : decode cX1_work 42 = .ok (.bipush 64, 2) := by decide +kernel
theorem dX1_work_44 : decode cX1_work 44 = .ok (.if_icmp .ge 158, 3) := by decide +kernel
theorem dX1_work_47 : decode cX1_work 47 = .ok (.aload_n 0, 1) := by decide +kernel
theorem dX1_work_48 : decode cX1_work 48 = .ok (.getfield 18, 3) := by decide +kernel
theorem dX1_work_51 : decode cX1_work 51 = .ok (.iload_n 3, 1) := by decide +kernel
theorem dX1_work_52 : decode cX1_work 52 = .ok (.iaload, 1) := by decide +kernel
theorem dX1_work_53 : decode cX1_work 53 = .ok (.istore 4, 2) := by decide +kernel
theorem dX1_work_55 : decode cX1_work 55 = .ok (.iload 4, 2) := by decide +kernel
theorem dX1_work_57 : decode cX1_work 57 = .ok (.bipush 28, 2) := by decide +kernel
theorem dX1_work_59 : decode cX1_work 59 = .ok (.if_icmp .ne 41, 3) := by decide +kernel
theorem dX1_work_62 : decode cX1_work 62 = .ok (.iload_n 2, 1) := by decide +kernel
theorem dX1_work_63 : decode cX1_work 63 = .ok (.iconst 1, 1) := by decide +kernel
theorem dX1_work_64 : decode cX1_work 64 = .ok (.if_icmp .ge 7, 3) := by decide +kernel
theorem dX1_work_67 : decode cX1_work 67 = .ok (.ldc2_w 40, 3) := by decide +kernel
theorem dX1_work_70 : decode cX1_work 70 = .ok (.lreturn, 1) := by decide +kernel
theorem dX1_work_71 : decode cX1_work 71 = .ok (.aload_n 0, 1) := by decide +kernel
theorem dX1_work_72 : decode cX1_work 72 = .ok (.getfield 30, 3) := by decide +kernel
theorem dX1_work_75 : decode cX1_work 75 = .ok (.iload_n 2, 1) := by decide +kernel
theorem dX1_work_76 : decode cX1_work 76 = .ok (.iconst 1, 1) := by decide +kernel
theorem dX1_work_77 : decode cX1_work 77 = .ok (.isub, 1) := by decide +kernel
theorem dX1_work_78 : decode cX1_work 78 = .ok (.aload_n 0, 1) := by decide +kernel
theorem dX1_work_79 : decode cX1_work 79 = .ok (.getfield 30, 3) := by decide +kernel
theorem dX1_work_82 : decode cX1_work 82 = .ok (.iload_n 2, 1) := by decide +kernel
theorem dX1_work_83 : decode cX1_work 83 = .ok (.iconst 1, 1) := by decide +kernel
theorem dX1_work_84 : decode cX1_work 84 = .ok (.isub, 1) := by decide +kernel
theorem dX1_work_85 : decode cX1_work 85 = .ok (.laload, 1) := by decide +kernel
theorem dX1_work_86 : decode cX1_work 86 = .ok (.lconst 0, 1) := by decide +kernel
theorem dX1_work_87 : decode cX1_work 87 = .ok (.lcmp, 1) := by decide +kernel
theorem dX1_work_88 : decode cX1_work 88 = .ok (.ifCond .ne 7, 3) := by decide +kernel
theorem dX1_work_91 : decode cX1_work 91 = .ok (.lconst 1, 1) := by decide +kernel
theorem dX1_work_92 : decode cX1_work 92 = .ok (.goto 4, 3) := by decide +kernel
theorem dX1_work_95 : decode cX1_work 95 = .ok (.lconst 0, 1) := by decide +kernel
theorem dX1_work_96 : decode cX1_work 96 = .ok (.lastore, 1) := by decide +kernel
theorem dX1_work_97 : decode cX1_work 97 = .ok (.goto 99, 3) := by decide +kernel
theorem dX1_work_100 : decode cX1_work 100 = .ok (.iload 4, 2) := by decide +kernel
theorem dX1_work_102 : decode cX1_work 102 = .ok (.bipush 26, 2) := by decide +kernel
theorem dX1_work_104 : decode cX1_work 104 = .ok (.if_icmp .lt 61, 3) := by decide +kernel
theorem dX1_work_107 : decode cX1_work 107 = .ok (.iload_n 2, 1) := by decide +kernel
theorem dX1_work_108 : decode cX1_work 108 = .ok (.iconst 2, 1) := by decide +kernel
theorem dX1_work_109 : decode cX1_work 109 = .ok (.if_icmp .ge 7, 3) := by decide +kernel
theorem dX1_work_112 : decode cX1_work 112 = .ok (.ldc2_w 40, 3) := by decide +kernel
theorem dX1_work_115 : decode cX1_work 115 = .ok (.lreturn, 1) := by decide +kernel
theorem dX1_work_116 : decode cX1_work 116 = .ok (.iinc 2 (-1), 3) := by decide +kernel
theorem dX1_work_119 : decode cX1_work 119 = .ok (.aload_n 0, 1) := by decide +kernel
theorem dX1_work_120 : decode cX1_work 120 = .ok (.getfield 30, 3) := by decide +kernel
theorem dX1_work_123 : decode cX1_work 123 = .ok (.iload_n 2, 1) := by decide +kernel
theorem dX1_work_124 : decode cX1_work 124 = .ok (.iconst 1, 1) := by decide +kernel
theorem dX1_work_125 : decode cX1_work 125 = .ok (.isub, 1) := by decide +kernel
theorem dX1_work_126 : decode cX1_work 126 = .ok (.iload 4, 2) := by decide +kernel
theorem dX1_work_128 : decode cX1_work 128 = .ok (.aload_n 0, 1) := by decide +kernel
theorem dX1_work_129 : decode cX1_work 129 = .ok (.getfield 30, 3) := by decide +kernel
theorem dX1_work_132 : decode cX1_work 132 = .ok (.iload_n 2, 1) := by decide +kernel
theorem dX1_work_133 : decode cX1_work 133 = .ok (.iconst 1, 1) := by decide +kernel
theorem dX1_work_134 : decode cX1_work 134 = .ok (.isub, 1) := by decide +kernel
theorem dX1_work_135 : decode cX1_work 135 = .ok (.laload, 1) := by decide +kernel
theorem dX1_work_136 : decode cX1_work 136 = .ok (.aload_n 0, 1) := by decide +kernel
theorem dX1_work_137 : decode cX1_work 137 = .ok (.getfield 30, 3) := by decide +kernel
theorem dX1_work_140 : decode cX1_work 140 = .ok (.iload_n 2, 1) := by decide +kernel
theorem dX1_work_141 : decode cX1_work 141 = .ok (.laload, 1) := by decide +kernel
theorem dX1_work_142 : decode cX1_work 142 = .ok (.invokestatic 42, 3) := by decide +kernel
theorem dX1_work_145 : decode cX1_work 145 = .ok (.lastore, 1) := by decide +kernel
theorem dX1_work_146 : decode cX1_work 146 = .ok (.aload_n 0, 1) := by decide +kernel
theorem dX1_work_147 : decode cX1_work 147 = .ok (.getfield 30, 3) := by decide +kernel
theorem dX1_work_150 : decode cX1_work 150 = .ok (.iload_n 2, 1) := by decide +kernel
theorem dX1_work_151 : decode cX1_work 151 = .ok (.iconst 1, 1) := by decide +kernel
theorem dX1_work_152 : decode cX1_work 152 = .ok (.isub, 1) := by decide +kernel
theorem dX1_work_153 : decode cX1_work 153 = .ok (.laload, 1) := by decide +kernel
theorem dX1_work_154 : decode cX1_work 154 = .ok (.ldc2_w 40, 3) := by decide +kernel
theorem dX1_work_157 : decode cX1_work 157 = .ok (.lcmp, 1) := by decide +kernel
theorem dX1_work_158 : decode cX1_work 158 = .ok (.ifCond .ne 38, 3) := by decide +kernel
theorem dX1_work_161 : decode cX1_work 161 = .ok (.ldc2_w 40, 3) := by decide +kernel
theorem dX1_work_164 : decode cX1_work 164 = .ok (.lreturn, 1) := by decide +kernel
theorem dX1_work_165 : decode cX1_work 165 = .ok (.iload_n 2, 1) := by decide +kernel
theorem dX1_work_166 : decode cX1_work 166 = .ok (.bipush 64, 2) := by decide +kernel
theorem dX1_work_168 : decode cX1_work 168 = .ok (.if_icmp .lt 7, 3) := by decide +kernel
theorem dX1_work_171 : decode cX1_work 171 = .ok (.ldc2_w 40, 3) := by decide +kernel
theorem dX1_work_174 : decode cX1_work 174 = .ok (.lreturn, 1) := by decide +kernel
theorem dX1_work_175 : decode cX1_work 175 = .ok (.aload_n 0, 1) := by decide +kernel
theorem dX1_work_176 : decode cX1_work 176 = .ok (.getfield 30, 3) := by decide +kernel
theorem dX1_work_179 : decode cX1_work 179 = .ok (.iload_n 2, 1) := by decide +kernel
theorem dX1_work_180 : decode cX1_work 180 = .ok (.aload_n 0, 1) := by decide +kernel
theorem dX1_work_181 : decode cX1_work 181 = .ok (.iload 4, 2) := by decide +kernel
theorem dX1_work_183 : decode cX1_work 183 = .ok (.aload_n 0, 1) := by decide +kernel
theorem dX1_work_184 : decode cX1_work 184 = .ok (.getfield 21, 3) := by decide +kernel
theorem dX1_work_187 : decode cX1_work 187 = .ok (.iload_n 3, 1) := by decide +kernel
theorem dX1_work_188 : decode cX1_work 188 = .ok (.iaload, 1) := by decide +kernel
theorem dX1_work_189 : decode cX1_work 189 = .ok (.invokevirtual 46, 3) := by decide +kernel
theorem dX1_work_192 : decode cX1_work 192 = .ok (.lastore, 1) := by decide +kernel
theorem dX1_work_193 : decode cX1_work 193 = .ok (.iinc 2 1, 3) := by decide +kernel
theorem dX1_work_196 : decode cX1_work 196 = .ok (.iinc 3 1, 3) := by decide +kernel
theorem dX1_work_199 : decode cX1_work 199 = .ok (.goto (-168), 3) := by decide +kernel
theorem dX1_work_202 : decode cX1_work 202 = .ok (.iload_n 2, 1) := by decide +kernel
theorem dX1_work_203 : decode cX1_work 203 = .ok (.iconst 1, 1) := by decide +kernel
theorem dX1_work_204 : decode cX1_work 204 = .ok (.if_icmp .ne 12, 3) := by decide +kernel
theorem dX1_work_207 : decode cX1_work 207 = .ok (.aload_n 0, 1) := by decide +kernel
theorem dX1_work_208 : decode cX1_work 208 = .ok (.getfield 30, 3) := by decide +kernel
theorem dX1_work_211 : decode cX1_work 211 = .ok (.iconst 0, 1) := by decide +kernel
theorem dX1_work_212 : decode cX1_work 212 = .ok (.laload, 1) := by decide +kernel
theorem dX1_work_213 : decode cX1_work 213 = .ok (.goto 6, 3) := by decide +kernel
theorem dX1_work_216 : decode cX1_work 216 = .ok (.ldc2_w 40, 3) := by decide +kernel
theorem dX1_work_219 : decode cX1_work 219 = .ok (.lreturn, 1) := by decide +kernel
theorem dX1_valueOf_0 : decode cX1_valueOf 0 = .ok (.iload_n 1, 1) := by decide +kernel
theorem dX1_valueOf_1 : decode cX1_valueOf 1 = .ok (.bipush 19, 2) := by decide +kernel
theorem dX1_valueOf_3 : decode cX1_valueOf 3 = .ok (.isub, 1) := by decide +kernel
theorem dX1_valueOf_4 : decode cX1_valueOf 4 = .ok (.istore_n 3, 1) := by decide +kernel
theorem dX1_valueOf_5 : decode cX1_valueOf 5 = .ok (.iload_n 3, 1) := by decide +kernel
theorem dX1_valueOf_6 : decode cX1_valueOf 6 = .ok (.ifCond .lt 21, 3) := by decide +kernel
theorem dX1_valueOf_9 : decode cX1_valueOf 9 = .ok (.iload_n 3, 1) := by decide +kernel
theorem dX1_valueOf_10 : decode cX1_valueOf 10 = .ok (.aload_n 0, 1) := by decide +kernel
theorem dX1_valueOf_11 : decode cX1_valueOf 11 = .ok (.getfield 26, 3) := by decide +kernel
theorem dX1_valueOf_14 : decode cX1_valueOf 14 = .ok (.arraylength, 1) := by decide +kernel
theorem dX1_valueOf_15 : decode cX1_valueOf 15 = .ok (.if_icmp .ge 12, 3) := by decide +kernel
theorem dX1_valueOf_18 : decode cX1_valueOf 18 = .ok (.aload_n 0, 1) := by decide +kernel
theorem dX1_valueOf_19 : decode cX1_valueOf 19 = .ok (.getfield 26, 3) := by decide +kernel
theorem dX1_valueOf_22 : decode cX1_valueOf 22 = .ok (.iload_n 3, 1) := by decide +kernel
theorem dX1_valueOf_23 : decode cX1_valueOf 23 = .ok (.laload, 1) := by decide +kernel
theorem dX1_valueOf_24 : decode cX1_valueOf 24 = .ok (.goto 5, 3) := by decide +kernel
theorem dX1_valueOf_27 : decode cX1_valueOf 27 = .ok (.iload_n 2, 1) := by decide +kernel
theorem dX1_valueOf_28 : decode cX1_valueOf 28 = .ok (.i2l, 1) := by decide +kernel
theorem dX1_valueOf_29 : decode cX1_valueOf 29 = .ok (.lreturn, 1) := by decide +kernel
theorem dX1_combine_0 : decode cX1_combine 0 = .ok (.iload_n 0, 1) := by decide +kernel
theorem dX1_combine_1 : decode cX1_combine 1 = .ok (.tableswitch 246 26 37 #[63, 81, 246, 99, 111, 123, 135, 147, 159, 171, 179, 187], 63) := by decide +kernel
theorem dX1_combine_64 : decode cX1_combine 64 = .ok (.lload_n 1, 1) := by decide +kernel
theorem dX1_combine_65 : decode cX1_combine 65 = .ok (.lconst 0, 1) := by decide +kernel
theorem dX1_combine_66 : decode cX1_combine 66 = .ok (.lcmp, 1) := by decide +kernel
theorem dX1_combine_67 : decode cX1_combine 67 = .ok (.ifCond .ne 9, 3) := by decide +kernel
theorem dX1_combine_70 : decode cX1_combine 70 = .ok (.lload_n 3, 1) := by decide +kernel
theorem dX1_combine_71 : decode cX1_combine 71 = .ok (.lconst 0, 1) := by decide +kernel
theorem dX1_combine_72 : decode cX1_combine 72 = .ok (.lcmp, 1) := by decide +kernel
theorem dX1_combine_73 : decode cX1_combine 73 = .ok (.ifCond .eq 7, 3) := by decide +kernel
theorem dX1_combine_76 : decode cX1_combine 76 = .ok (.lconst 1, 1) := by decide +kernel
theorem dX1_combine_77 : decode cX1_combine 77 = .ok (.goto 4, 3) := by decide +kernel
theorem dX1_combine_80 : decode cX1_combine 80 = .ok (.lconst 0, 1) := by decide +kernel
theorem dX1_combine_81 : decode cX1_combine 81 = .ok (.lreturn, 1) := by decide +kernel
theorem dX1_combine_82 : decode cX1_combine 82 = .ok (.lload_n 1, 1) := by decide +kernel
theorem dX1_combine_83 : decode cX1_combine 83 = .ok (.lconst 0, 1) := by decide +kernel
theorem dX1_combine_84 : decode cX1_combine 84 = .ok (.lcmp, 1) := by decide +kernel
theorem dX1_combine_85 : decode cX1_combine 85 = .ok (.ifCond .eq 13, 3) := by decide +kernel
theorem dX1_combine_88 : decode cX1_combine 88 = .ok (.lload_n 3, 1) := by decide +kernel
theorem dX1_combine_89 : decode cX1_combine 89 = .ok (.lconst 0, 1) := by decide +kernel
theorem dX1_combine_90 : decode cX1_combine 90 = .ok (.lcmp, 1) := by decide +kernel
theorem dX1_combine_91 : decode cX1_combine 91 = .ok (.ifCond .eq 7, 3) := by decide +kernel
theorem dX1_combine_94 : decode cX1_combine 94 = .ok (.lconst 1, 1) := by decide +kernel
theorem dX1_combine_95 : decode cX1_combine 95 = .ok (.goto 4, 3) := by decide +kernel
theorem dX1_combine_98 : decode cX1_combine 98 = .ok (.lconst 0, 1) := by decide +kernel
theorem dX1_combine_99 : decode cX1_combine 99 = .ok (.lreturn, 1) := by decide +kernel
theorem dX1_combine_100 : decode cX1_combine 100 = .ok (.lload_n 1, 1) := by decide +kernel
theorem dX1_combine_101 : decode cX1_combine 101 = .ok (.lload_n 3, 1) := by decide +kernel
theorem dX1_combine_102 : decode cX1_combine 102 = .ok (.lcmp, 1) := by decide +kernel
theorem dX1_combine_103 : decode cX1_combine 103 = .ok (.ifCond .ge 7, 3) := by decide +kernel
theorem dX1_combine_106 : decode cX1_combine 106 = .ok (.lconst 1, 1) := by decide +kernel
theorem dX1_combine_107 : decode cX1_combine 107 = .ok (.goto 4, 3) := by decide +kernel
theorem dX1_combine_110 : decode cX1_combine 110 = .ok (.lconst 0, 1) := by decide +kernel
theorem dX1_combine_111 : decode cX1_combine 111 = .ok (.lreturn, 1) := by decide +kernel
theorem dX1_combine_112 : decode cX1_combine 112 = .ok (.lload_n 1, 1) := by decide +kernel
theorem dX1_combine_113 : decode cX1_combine 113 = .ok (.lload_n 3, 1) := by decide +kernel
theorem dX1_combine_114 : decode cX1_combine 114 = .ok (.lcmp, 1) := by decide +kernel
theorem dX1_combine_115 : decode cX1_combine 115 = .ok (.ifCond .gt 7, 3) := by decide +kernel
theorem dX1_combine_118 : decode cX1_combine 118 = .ok (.lconst 1, 1) := by decide +kernel
theorem dX1_combine_119 : decode cX1_combine 119 = .ok (.goto 4, 3) := by decide +kernel
theorem dX1_combine_122 : decode cX1_combine 122 = .ok (.lconst 0, 1) := by decide +kernel
theorem dX1_combine_123 : decode cX1_combine 123 = .ok (.lreturn, 1) := by decide +kernel
theorem dX1_combine_124 : decode cX1_combine 124 = .ok (.lload_n 1, 1) := by decide +kernel
theorem dX1_combine_125 : decode cX1_combine 125 = .ok (.lload_n 3, 1) := by decide +kernel
theorem dX1_combine_126 : decode cX1_combine 126 = .ok (.lcmp, 1) := by decide +kernel
theorem dX1_combine_127 : decode cX1_combine 127 = .ok (.ifCond .ne 7, 3) := by decide +kernel
theorem dX1_combine_130 : decode cX1_combine 130 = .ok (.lconst 1, 1) := by decide +kernel
theorem dX1_combine_131 : decode cX1_combine 131 = .ok (.goto 4, 3) := by decide +kernel
theorem dX1_combine_134 : decode cX1_combine 134 = .ok (.lconst 0, 1) := by decide +kernel
theorem dX1_combine_135 : decode cX1_combine 135 = .ok (.lreturn, 1) := by decide +kernel
theorem dX1_combine_136 : decode cX1_combine 136 = .ok (.lload_n 1, 1) := by decide +kernel
theorem dX1_combine_137 : decode cX1_combine 137 = .ok (.lload_n 3, 1) := by decide +kernel
theorem dX1_combine_138 : decode cX1_combine 138 = .ok (.lcmp, 1) := by decide +kernel
theorem dX1_combine_139 : decode cX1_combine 139 = .ok (.ifCond .eq 7, 3) := by decide +kernel
theorem dX1_combine_142 : decode cX1_combine 142 = .ok (.lconst 1, 1) := by decide +kernel
theorem dX1_combine_143 : decode cX1_combine 143 = .ok (.goto 4, 3) := by decide +kernel
theorem dX1_combine_146 : decode cX1_combine 146 = .ok (.lconst 0, 1) := by decide +kernel
theorem dX1_combine_147 : decode cX1_combine 147 = .ok (.lreturn, 1) := by decide +kernel
theorem dX1_combine_148 : decode cX1_combine 148 = .ok (.lload_n 1, 1) := by decide +kernel
theorem dX1_combine_149 : decode cX1_combine 149 = .ok (.lload_n 3, 1) := by decide +kernel
theorem dX1_combine_150 : decode cX1_combine 150 = .ok (.lcmp, 1) := by decide +kernel
theorem dX1_combine_151 : decode cX1_combine 151 = .ok (.ifCond .lt 7, 3) := by decide +kernel
theorem dX1_combine_154 : decode cX1_combine 154 = .ok (.lconst 1, 1) := by decide +kernel
theorem dX1_combine_155 : decode cX1_combine 155 = .ok (.goto 4, 3) := by decide +kernel
theorem dX1_combine_158 : decode cX1_combine 158 = .ok (.lconst 0, 1) := by decide +kernel
theorem dX1_combine_159 : decode cX1_combine 159 = .ok (.lreturn, 1) := by decide +kernel
theorem dX1_combine_160 : decode cX1_combine 160 = .ok (.lload_n 1, 1) := by decide +kernel
theorem dX1_combine_161 : decode cX1_combine 161 = .ok (.lload_n 3, 1) := by decide +kernel
theorem dX1_combine_162 : decode cX1_combine 162 = .ok (.lcmp, 1) := by decide +kernel
theorem dX1_combine_163 : decode cX1_combine 163 = .ok (.ifCond .le 7, 3) := by decide +kernel
theorem dX1_combine_166 : decode cX1_combine 166 = .ok (.lconst 1, 1) := by decide +kernel
theorem dX1_combine_167 : decode cX1_combine 167 = .ok (.goto 4, 3) := by decide +kernel
theorem dX1_combine_170 : decode cX1_combine 170 = .ok (.lconst 0, 1) := by decide +kernel
theorem dX1_combine_171 : decode cX1_combine 171 = .ok (.lreturn, 1) := by decide +kernel
theorem dX1_combine_172 : decode cX1_combine 172 = .ok (.lload_n 1, 1) := by decide +kernel
theorem dX1_combine_173 : decode cX1_combine 173 = .ok (.lload_n 3, 1) := by decide +kernel
theorem dX1_combine_174 : decode cX1_combine 174 = .ok (.ladd, 1) := by decide +kernel
theorem dX1_combine_175 : decode cX1_combine 175 = .ok (.lstore 5, 2) := by decide +kernel
theorem dX1_combine_177 : decode cX1_combine 177 = .ok (.goto 87, 3) := by decide +kernel
theorem dX1_combine_180 : decode cX1_combine 180 = .ok (.lload_n 1, 1) := by decide +kernel
theorem dX1_combine_181 : decode cX1_combine 181 = .ok (.lload_n 3, 1) := by decide +kernel
theorem dX1_combine_182 : decode cX1_combine 182 = .ok (.lsub, 1) := by decide +kernel
theorem dX1_combine_183 : decode cX1_combine 183 = .ok (.lstore 5, 2) := by decide +kernel
theorem dX1_combine_185 : decode cX1_combine 185 = .ok (.goto 79, 3) := by decide +kernel
theorem dX1_combine_188 : decode cX1_combine 188 = .ok (.lload_n 1, 1) := by decide +kernel
theorem dX1_combine_189 : decode cX1_combine 189 = .ok (.lconst 0, 1) := by decide +kernel
theorem dX1_combine_190 : decode cX1_combine 190 = .ok (.lcmp, 1) := by decide +kernel
theorem dX1_combine_191 : decode cX1_combine 191 = .ok (.ifCond .ne 9, 3) := by decide +kernel
theorem dX1_combine_194 : decode cX1_combine 194 = .ok (.ldc2_w 50, 3) := by decide +kernel
theorem dX1_combine_197 : decode cX1_combine 197 = .ok (.goto 19, 3) := by decide +kernel
theorem dX1_combine_200 : decode cX1_combine 200 = .ok (.ldc2_w 50, 3) := by decide +kernel
theorem dX1_combine_203 : decode cX1_combine 203 = .ok (.lload_n 1, 1) := by decide +kernel
theorem dX1_combine_204 : decode cX1_combine 204 = .ok (.lconst 0, 1) := by decide +kernel
theorem dX1_combine_205 : decode cX1_combine 205 = .ok (.lcmp, 1) := by decide +kernel
theorem dX1_combine_206 : decode cX1_combine 206 = .ok (.ifCond .ge 8, 3) := by decide +kernel
theorem dX1_combine_209 : decode cX1_combine 209 = .ok (.lload_n 1, 1) := by decide +kernel
theorem dX1_combine_210 : decode cX1_combine 210 = .ok (.lneg, 1) := by decide +kernel
theorem dX1_combine_211 : decode cX1_combine 211 = .ok (.goto 4, 3) := by decide +kernel
theorem dX1_combine_214 : decode cX1_combine 214 = .ok (.lload_n 1, 1) := by decide +kernel
theorem dX1_combine_215 : decode cX1_combine 215 = .ok (.ldiv, 1) := by decide +kernel
theorem dX1_combine_216 : decode cX1_combine 216 = .ok (.lstore 7, 2) := by decide +kernel
theorem dX1_combine_218 : decode cX1_combine 218 = .ok (.lload_n 3, 1) := by decide +kernel
theorem dX1_combine_219 : decode cX1_combine 219 = .ok (.lload 7, 2) := by decide +kernel
theorem dX1_combine_221 : decode cX1_combine 221 = .ok (.lcmp, 1) := by decide +kernel
theorem dX1_combine_222 : decode cX1_combine 222 = .ok (.ifCond .gt 11, 3) := by decide +kernel
theorem dX1_combine_225 : decode cX1_combine 225 = .ok (.lload_n 3, 1) := by decide +kernel
theorem dX1_combine_226 : decode cX1_combine 226 = .ok (.lload 7, 2) := by decide +kernel
theorem dX1_combine_228 : decode cX1_combine 228 = .ok (.lneg, 1) := by decide +kernel
theorem dX1_combine_229 : decode cX1_combine 229 = .ok (.lcmp, 1) := by decide +kernel
theorem dX1_combine_230 : decode cX1_combine 230 = .ok (.ifCond .ge 9, 3) := by decide +kernel
theorem dX1_combine_233 : decode cX1_combine 233 = .ok (.ldc2_w 40, 3) := by decide +kernel
theorem dX1_combine_236 : decode cX1_combine 236 = .ok (.goto 6, 3) := by decide +kernel
theorem dX1_combine_239 : decode cX1_combine 239 = .ok (.lload_n 1, 1) := by decide +kernel
theorem dX1_combine_240 : decode cX1_combine 240 = .ok (.lload_n 3, 1) := by decide +kernel
theorem dX1_combine_241 : decode cX1_combine 241 = .ok (.lmul, 1) := by decide +kernel
theorem dX1_combine_242 : decode cX1_combine 242 = .ok (.lstore 5, 2) := by decide +kernel
theorem dX1_combine_244 : decode cX1_combine 244 = .ok (.goto 20, 3) := by decide +kernel
theorem dX1_combine_247 : decode cX1_combine 247 = .ok (.lload_n 3, 1) := by decide +kernel
theorem dX1_combine_248 : decode cX1_combine 248 = .ok (.lconst 0, 1) := by decide +kernel
theorem dX1_combine_249 : decode cX1_combine 249 = .ok (.lcmp, 1) := by decide +kernel
theorem dX1_combine_250 : decode cX1_combine 250 = .ok (.ifCond .ne 9, 3) := by decide +kernel
theorem dX1_combine_253 : decode cX1_combine 253 = .ok (.ldc2_w 40, 3) := by decide +kernel
theorem dX1_combine_256 : decode cX1_combine 256 = .ok (.goto 6, 3) := by decide +kernel
theorem dX1_combine_259 : decode cX1_combine 259 = .ok (.lload_n 1, 1) := by decide +kernel
theorem dX1_combine_260 : decode cX1_combine 260 = .ok (.lload_n 3, 1) := by decide +kernel
theorem dX1_combine_261 : decode cX1_combine 261 = .ok (.ldiv, 1) := by decide +kernel
theorem dX1_combine_262 : decode cX1_combine 262 = .ok (.lstore 5, 2) := by decide +kernel
theorem dX1_combine_264 : decode cX1_combine 264 = .ok (.lload 5, 2) := by decide +kernel
theorem dX1_combine_266 : decode cX1_combine 266 = .ok (.ldc2_w 50, 3) := by decide +kernel
theorem dX1_combine_269 : decode cX1_combine 269 = .ok (.lcmp, 1) := by decide +kernel
theorem dX1_combine_270 : decode cX1_combine 270 = .ok (.ifCond .gt 12, 3) := by decide +kernel
theorem dX1_combine_273 : decode cX1_combine 273 = .ok (.lload 5, 2) := by decide +kernel
theorem dX1_combine_275 : decode cX1_combine 275 = .ok (.ldc2_w 52, 3) := by decide +kernel
theorem dX1_combine_278 : decode cX1_combine 278 = .ok (.lcmp, 1) := by decide +kernel
theorem dX1_combine_279 : decode cX1_combine 279 = .ok (.ifCond .ge 9, 3) := by decide +kernel
theorem dX1_combine_282 : decode cX1_combine 282 = .ok (.ldc2_w 40, 3) := by decide +kernel
theorem dX1_combine_285 : decode cX1_combine 285 = .ok (.goto 5, 3) := by decide +kernel
theorem dX1_combine_288 : decode cX1_combine 288 = .ok (.lload 5, 2) := by decide +kernel
theorem dX1_combine_290 : decode cX1_combine 290 = .ok (.lreturn, 1) := by decide +kernel
