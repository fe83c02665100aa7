theorem dX5_takeOperator_1 : decode cX5_takeOperator 1 = .ok (.getfield 51, 3) := by decide +kernel
theorem dX5_takeOperator_4 : decode cX5_takeOperator 4 = .ok (.bipush 6, 2) := by decide +kernel
theorem dX5_takeOperator_6 : decode cX5_takeOperator 6 = .ok (.if_icmp .ne 41, 3) := by decide +kernel
theorem dX5_takeOperator_9 : decode cX5_takeOperator 9 = .ok (.aload_n 0, 1) := by decide +kernel
theorem dX5_takeOperator_10 : decode cX5_takeOperator 10 = .ok (.getfield 177, 3) := by decide +kernel
theorem dX5_takeOperator_13 : decode cX5_takeOperator 13 = .ok (.ifCond .le 34, 3) := by decide +kernel
theorem dX5_takeOperator_16 : decode cX5_takeOperator 16 = .ok (.aload_n 0, 1) := by decide +kernel
theorem dX5_takeOperator_17 : decode cX5_takeOperator 17 = .ok (.iconst 1, 1) := by decide +kernel
theorem dX5_takeOperator_18 : decode cX5_takeOperator 18 = .ok (.invokevirtual 187, 3) := by decide +kernel
theorem dX5_takeOperator_21 : decode cX5_takeOperator 21 = .ok (.aload_n 0, 1) := by decide +kernel
theorem dX5_takeOperator_22 : decode cX5_takeOperator 22 = .ok (.dup, 1) := by decide +kernel
theorem dX5_takeOperator_23 : decode cX5_takeOperator 23 = .ok (.getfield 177, 3) := by decide +kernel
theorem dX5_takeOperator_26 : decode cX5_takeOperator 26 = .ok (.iconst 1, 1) := by decide +kernel
theorem dX5_takeOperator_27 : decode cX5_takeOperator 27 = .ok (.isub, 1) := by decide +kernel
theorem dX5_takeOperator_28 : decode cX5_takeOperator 28 = .ok (.putfield 177, 3) := by decide +kernel
theorem dX5_takeOperator_31 : decode cX5_takeOperator 31 = .ok (.aload_n 0, 1) := by decide +kernel
theorem dX5_takeOperator_32 : decode cX5_takeOperator 32 = .ok (.iconst 0, 1) := by decide +kernel
theorem dX5_takeOperator_33 : decode cX5_takeOperator 33 = .ok (.aload_n 0, 1) := by decide +kernel
theorem dX5_takeOperator_34 : decode cX5_takeOperator 34 = .ok (.getfield 174, 3) := by decide +kernel
theorem dX5_takeOperator_37 : decode cX5_takeOperator 37 = .ok (.iconst 1, 1) := by decide +kernel
theorem dX5_takeOperator_38 : decode cX5_takeOperator 38 = .ok (.isub, 1) := by decide +kernel
theorem dX5_takeOperator_39 : decode cX5_takeOperator 39 = .ok (.invokestatic 217, 3) := by decide +kernel
theorem dX5_takeOperator_42 : decode cX5_takeOperator 42 = .ok (.putfield 174, 3) := by decide +kernel
theorem dX5_takeOperator_45 : decode cX5_takeOperator 45 = .ok (.iconst 1, 1) := by decide +kernel
theorem dX5_takeOperator_46 : decode cX5_takeOperator 46 = .ok (.ireturn, 1) := by decide +kernel
theorem dX5_takeOperator_47 : decode cX5_takeOperator 47 = .ok (.aload_n 0, 1) := by decide +kernel
theorem dX5_takeOperator_48 : decode cX5_takeOperator 48 = .ok (.getfield 51, 3) := by decide +kernel
theorem dX5_takeOperator_51 : decode cX5_takeOperator 51 = .ok (.bipush 28, 2) := by decide +kernel
theorem dX5_takeOperator_53 : decode cX5_takeOperator 53 = .ok (.if_icmp .ne 7, 3) := by decide +kernel
theorem dX5_takeOperator_56 : decode cX5_takeOperator 56 = .ok (.iconst 0, 1) := by decide +kernel
theorem dX5_takeOperator_57 : decode cX5_takeOperator 57 = .ok (.goto 10, 3) := by decide +kernel
theorem dX5_takeOperator_60 : decode cX5_takeOperator 60 = .ok (.aload_n 0, 1) := by decide +kernel
theorem dX5_takeOperator_61 : decode cX5_takeOperator 61 = .ok (.getfield 51, 3) := by decide +kernel
theorem dX5_takeOperator_64 : decode cX5_takeOperator 64 = .ok (.invokestatic 206, 3) := by decide +kernel
theorem dX5_takeOperator_67 : decode cX5_takeOperator 67 = .ok (.istore_n 1, 1) := by decide +kernel
theorem dX5_takeOperator_68 : decode cX5_takeOperator 68 = .ok (.iload_n 1, 1) := by decide +kernel
theorem dX5_takeOperator_69 : decode cX5_takeOperator 69 = .ok (.iconst 1, 1) := by decide +kernel
theorem dX5_takeOperator_70 : decode cX5_takeOperator 70 = .ok (.if_icmp .ge 9, 3) := by decide +kernel
theorem dX5_takeOperator_73 : decode cX5_takeOperator 73 = .ok (.aload_n 0, 1) := by decide +kernel
theorem dX5_takeOperator_74 : decode cX5_takeOperator 74 = .ok (.iconst 1, 1) := by decide +kernel
theorem dX5_takeOperator_75 : decode cX5_takeOperator 75 = .ok (.invokevirtual 94, 3) := by decide +kernel
theorem dX5_takeOperator_78 : decode cX5_takeOperator 78 = .ok (.ireturn, 1) := by decide +kernel
theorem dX5_takeOperator_79 : decode cX5_takeOperator 79 = .ok (.iload_n 1, 1) := by decide +kernel
theorem dX5_takeOperator_80 : decode cX5_takeOperator 80 = .ok (.iconst 4, 1) := by decide +kernel
theorem dX5_takeOperator_81 : decode cX5_takeOperator 81 = .ok (.if_icmp .ne 7, 3) := by decide +kernel
theorem dX5_takeOperator_84 : decode cX5_takeOperator 84 = .ok (.iconst 1, 1) := by decide +kernel
theorem dX5_takeOperator_85 : decode cX5_takeOperator 85 = .ok (.goto 4, 3) := by decide +kernel
theorem dX5_takeOperator_88 : decode cX5_takeOperator 88 = .ok (.iconst 0, 1) := by decide +kernel
theorem dX5_takeOperator_89 : decode cX5_takeOperator 89 = .ok (.istore_n 2, 1) := by decide +kernel
theorem dX5_takeOperator_90 : decode cX5_takeOperator 90 = .ok (.aload_n 0, 1) := by decide +kernel
theorem dX5_takeOperator_91 : decode cX5_takeOperator 91 = .ok (.iload_n 2, 1) := by decide +kernel
theorem dX5_takeOperator_92 : decode cX5_takeOperator 92 = .ok (.ifCond .eq 7, 3) := by decide +kernel
theorem dX5_takeOperator_95 : decode cX5_takeOperator 95 = .ok (.iconst 5, 1) := by decide +kernel
theorem dX5_takeOperator_96 : decode cX5_takeOperator 96 = .ok (.goto 4, 3) := by decide +kernel
theorem dX5_takeOperator_99 : decode cX5_takeOperator 99 = .ok (.iload_n 1, 1) := by decide +kernel
theorem dX5_takeOperator_100 : decode cX5_takeOperator 100 = .ok (.invokevirtual 187, 3) := by decide +kernel
theorem dX5_takeOperator_103 : decode cX5_takeOperator 103 = .ok (.iload_n 2, 1) := by decide +kernel
theorem dX5_takeOperator_104 : decode cX5_takeOperator 104 = .ok (.ifCond .eq 31, 3) := by decide +kernel
theorem dX5_takeOperator_107 : decode cX5_takeOperator 107 = .ok (.aload_n 0, 1) := by decide +kernel
theorem dX5_takeOperator_108 : decode cX5_takeOperator 108 = .ok (.getfield 174, 3) := by decide +kernel
theorem dX5_takeOperator_111 : decode cX5_takeOperator 111 = .ok (.ifCond .le 24, 3) := by decide +kernel
theorem dX5_takeOperator_114 : decode cX5_takeOperator 114 = .ok (.aload_n 0, 1) := by decide +kernel
theorem dX5_takeOperator_115 : decode cX5_takeOperator 115 = .ok (.getfield 26, 3) := by decide +kernel
theorem dX5_takeOperator_118 : decode cX5_takeOperator 118 = .ok (.aload_n 0, 1) := by decide +kernel
theorem dX5_takeOperator_119 : decode cX5_takeOperator 119 = .ok (.getfield 174, 3) := by decide +kernel
theorem dX5_takeOperator_122 : decode cX5_takeOperator 122 = .ok (.iconst 1, 1) := by decide +kernel
theorem dX5_takeOperator_123 : decode cX5_takeOperator 123 = .ok (.isub, 1) := by decide +kernel
theorem dX5_takeOperator_124 : decode cX5_takeOperator 124 = .ok (.iaload, 1) := by decide +kernel
theorem dX5_takeOperator_125 : decode cX5_takeOperator 125 = .ok (.iconst 4, 1) := by decide +kernel
theorem dX5_takeOperator_126 : decode cX5_takeOperator 126 = .ok (.if_icmp .ne 9, 3) := by decide +kernel
theorem dX5_takeOperator_129 : decode cX5_takeOperator 129 = .ok (.aload_n 0, 1) := by decide +kernel
theorem dX5_takeOperator_130 : decode cX5_takeOperator 130 = .ok (.iconst 1, 1) := by decide +kernel
theorem dX5_takeOperator_131 : decode cX5_takeOperator 131 = .ok (.invokevirtual 94, 3) := by decide +kernel
theorem dX5_takeOperator_134 : decode cX5_takeOperator 134 = .ok (.ireturn, 1) := by decide +kernel
theorem dX5_takeOperator_135 : decode cX5_takeOperator 135 = .ok (.aload_n 0, 1) := by decide +kernel
theorem dX5_takeOperator_136 : decode cX5_takeOperator 136 = .ok (.getfield 29, 3) := by decide +kernel
theorem dX5_takeOperator_139 : decode cX5_takeOperator 139 = .ok (.getfield 164, 3) := by decide +kernel
theorem dX5_takeOperator_142 : decode cX5_takeOperator 142 = .ok (.getfield 203, 3) := by decide +kernel
theorem dX5_takeOperator_145 : decode cX5_takeOperator 145 = .ok (.bipush 64, 2) := by decide +kernel
theorem dX5_takeOperator_147 : decode cX5_takeOperator 147 = .ok (.if_icmp .lt 9, 3) := by decide +kernel
theorem dX5_takeOperator_150 : decode cX5_takeOperator 150 = .ok (.aload_n 0, 1) := by decide +kernel
theorem dX5_takeOperator_151 : decode cX5_takeOperator 151 = .ok (.iconst 2, 1) := by decide +kernel
theorem dX5_takeOperator_152 : decode cX5_takeOperator 152 = .ok (.invokevirtual 94, 3) := by decide +kernel
theorem dX5_takeOperator_155 : decode cX5_takeOperator 155 = .ok (.ireturn, 1) := by decide +kernel
theorem dX5_takeOperator_156 : decode cX5_takeOperator 156 = .ok (.aload_n 0, 1) := by decide +kernel
theorem dX5_takeOperator_157 : decode cX5_takeOperator 157 = .ok (.getfield 29, 3) := by decide +kernel
theorem dX5_takeOperator_160 : decode cX5_takeOperator 160 = .ok (.getfield 164, 3) := by decide +kernel
theorem dX5_takeOperator_163 : decode cX5_takeOperator 163 = .ok (.dup, 1) := by decide +kernel
theorem dX5_takeOperator_164 : decode cX5_takeOperator 164 = .ok (.getfield 203, 3) := by decide +kernel
theorem dX5_takeOperator_167 : decode cX5_takeOperator 167 = .ok (.iconst 1, 1) := by decide +kernel
theorem dX5_takeOperator_168 : decode cX5_takeOperator 168 = .ok (.iadd, 1) := by decide +kernel
theorem dX5_takeOperator_169 : decode cX5_takeOperator 169 = .ok (.putfield 203, 3) := by decide +kernel
theorem dX5_takeOperator_172 : decode cX5_takeOperator 172 = .ok (.aload_n 0, 1) := by decide +kernel
theorem dX5_takeOperator_173 : decode cX5_takeOperator 173 = .ok (.iload_n 1, 1) := by decide +kernel
theorem dX5_takeOperator_174 : decode cX5_takeOperator 174 = .ok (.invokevirtual 210, 3) := by decide +kernel
theorem dX5_takeOperator_177 : decode cX5_takeOperator 177 = .ok (.aload_n 0, 1) := by decide +kernel
theorem dX5_takeOperator_178 : decode cX5_takeOperator 178 = .ok (.iconst 1, 1) := by decide +kernel
theorem dX5_takeOperator_179 : decode cX5_takeOperator 179 = .ok (.putfield 180, 3) := by decide +kernel
theorem dX5_takeOperator_182 : decode cX5_takeOperator 182 = .ok (.aload_n 0, 1) := by decide +kernel
theorem dX5_takeOperator_183 : decode cX5_takeOperator 183 = .ok (.aload_n 0, 1) := by decide +kernel
theorem dX5_takeOperator_184 : decode cX5_takeOperator 184 = .ok (.getfield 51, 3) := by decide +kernel
theorem dX5_takeOperator_187 : decode cX5_takeOperator 187 = .ok (.bipush 27, 2) := by decide +kernel
theorem dX5_takeOperator_189 : decode cX5_takeOperator 189 = .ok (.if_icmp .eq 12, 3) := by decide +kernel
theorem dX5_takeOperator_192 : decode cX5_takeOperator 192 = .ok (.aload_n 0, 1) := by decide +kernel
theorem dX5_takeOperator_193 : decode cX5_takeOperator 193 = .ok (.getfield 51, 3) := by decide +kernel
theorem dX5_takeOperator_196 : decode cX5_takeOperator 196 = .ok (.bipush 26, 2) := by decide +kernel
theorem dX5_takeOperator_198 : decode cX5_takeOperator 198 = .ok (.if_icmp .ne 7, 3) := by decide +kernel
theorem dX5_takeOperator_201 : decode cX5_takeOperator 201 = .ok (.iconst 1, 1) := by decide +kernel
theorem dX5_takeOperator_202 : decode cX5_takeOperator 202 = .ok (.goto 4, 3) := by decide +kernel
theorem dX5_takeOperator_205 : decode cX5_takeOperator 205 = .ok (.iconst 0, 1) := by decide +kernel
theorem dX5_takeOperator_206 : decode cX5_takeOperator 206 = .ok (.putfield 184, 3) := by decide +kernel
theorem dX5_takeOperator_209 : decode cX5_takeOperator 209 = .ok (.iconst 1, 1) := by decide +kernel
theorem dX5_takeOperator_210 : decode cX5_takeOperator 210 = .ok (.ireturn, 1) := by decide +kernel
theorem dX5_putWaiting_0 : decode cX5_putWaiting 0 = .ok (.aload_n 0, 1) := by decide +kernel
theorem dX5_putWaiting_1 : decode cX5_putWaiting 1 = .ok (.getfield 174, 3) := by decide +kernel
theorem dX5_putWaiting_4 : decode cX5_putWaiting 4 = .ok (.ifCond .lt 45, 3) := by decide +kernel
theorem dX5_putWaiting_7 : decode cX5_putWaiting 7 = .ok (.aload_n 0, 1) := by decide +kernel
theorem dX5_putWaiting_8 : decode cX5_putWaiting 8 = .ok (.getfield 174, 3) := by decide +kernel
theorem dX5_putWaiting_11 : decode cX5_putWaiting 11 = .ok (.bipush 72, 2) := by decide +kernel
theorem dX5_putWaiting_13 : decode cX5_putWaiting 13 = .ok (.if_icmp .ge 36, 3) := by decide +kernel
theorem dX5_putWaiting_16 : decode cX5_putWaiting 16 = .ok (.aload_n 0, 1) := by decide +kernel
theorem dX5_putWaiting_17 : decode cX5_putWaiting 17 = .ok (.getfield 22, 3) := by decide +kernel
theorem dX5_putWaiting_20 : decode cX5_putWaiting 20 = .ok (.aload_n 0, 1) := by decide +kernel
theorem dX5_putWaiting_21 : decode cX5_putWaiting 21 = .ok (.getfield 174, 3) := by decide +kernel
theorem dX5_putWaiting_24 : decode cX5_putWaiting 24 = .ok (.aload_n 0, 1) := by decide +kernel
theorem dX5_putWaiting_25 : decode cX5_putWaiting 25 = .ok (.getfield 51, 3) := by decide +kernel
theorem dX5_putWaiting_28 : decode cX5_putWaiting 28 = .ok (.iastore, 1) := by decide +kernel
theorem dX5_putWaiting_29 : decode cX5_putWaiting 29 = .ok (.aload_n 0, 1) := by decide +kernel
theorem dX5_putWaiting_30 : decode cX5_putWaiting 30 = .ok (.getfield 26, 3) := by decide +kernel
theorem dX5_putWaiting_33 : decode cX5_putWaiting 33 = .ok (.aload_n 0, 1) := by decide +kernel
theorem dX5_putWaiting_34 : decode cX5_putWaiting 34 = .ok (.getfield 174, 3) := by decide +kernel
theorem dX5_putWaiting_37 : decode cX5_putWaiting 37 = .ok (.iload_n 1, 1) := by decide +kernel
theorem dX5_putWaiting_38 : decode cX5_putWaiting 38 = .ok (.iastore, 1) := by decide +kernel
theorem dX5_putWaiting_39 : decode cX5_putWaiting 39 = .ok (.aload_n 0, 1) := by decide +kernel
theorem dX5_putWaiting_40 : decode cX5_putWaiting 40 = .ok (.dup, 1) := by decide +kernel
theorem dX5_putWaiting_41 : decode cX5_putWaiting 41 = .ok (.getfield 174, 3) := by decide +kernel
theorem dX5_putWaiting_44 : decode cX5_putWaiting 44 = .ok (.iconst 1, 1) := by decide +kernel
theorem dX5_putWaiting_45 : decode cX5_putWaiting 45 = .ok (.iadd, 1) := by decide +kernel
theorem dX5_putWaiting_46 : decode cX5_putWaiting 46 = .ok (.putfield 174, 3) := by decide +kernel
theorem dX5_putWaiting_49 : decode cX5_putWaiting 49 = .ok (.return_, 1) := by decide +kernel
theorem dX5_release_0 : decode cX5_release 0 = .ok (.aload_n 0, 1) := by decide +kernel
theorem dX5_release_1 : decode cX5_release 1 = .ok (.getfield 174, 3) := by decide +kernel
theorem dX5_release_4 : decode cX5_release 4 = .ok (.ifCond .le 51, 3) := by decide +kernel
theorem dX5_release_7 : decode cX5_release 7 = .ok (.aload_n 0, 1) := by decide +kernel
theorem dX5_release_8 : decode cX5_release 8 = .ok (.getfield 26, 3) := by decide +kernel
theorem dX5_release_11 : decode cX5_release 11 = .ok (.aload_n 0, 1) := by decide +kernel
theorem dX5_release_12 : decode cX5_release 12 = .ok (.getfield 174, 3) := by decide +kernel
theorem dX5_release_15 : decode cX5_release 15 = .ok (.iconst 1, 1) := by decide +kernel
theorem dX5_release_16 : decode cX5_release 16 = .ok (.isub, 1) := by decide +kernel
theorem dX5_release_17 : decode cX5_release 17 = .ok (.iaload, 1) := by decide +kernel
theorem dX5_release_18 : decode cX5_release 18 = .ok (.iload_n 1, 1) := by decide +kernel
theorem dX5_release_19 : decode cX5_release 19 = .ok (.if_icmp .lt 36, 3) := by decide +kernel
theorem dX5_release_22 : decode cX5_release 22 = .ok (.aload_n 0, 1) := by decide +kernel
theorem dX5_release_23 : decode cX5_release 23 = .ok (.dup, 1) := by decide +kernel
theorem dX5_release_24 : decode cX5_release 24 = .ok (.getfield 174, 3) := by decide +kernel
theorem dX5_release_27 : decode cX5_release 27 = .ok (.iconst 1, 1) := by decide +kernel
theorem dX5_release_28 : decode cX5_release 28 = .ok (.isub, 1) := by decide +kernel
theorem dX5_release_29 : decode cX5_release 29 = .ok (.putfield 174, 3) := by decide +kernel
theorem dX5_release_32 : decode cX5_release 32 = .ok (.aload_n 0, 1) := by decide +kernel
theorem dX5_release_33 : decode cX5_release 33 = .ok (.getfield 29, 3) := by decide +kernel
theorem dX5_release_36 : decode cX5_release 36 = .ok (.getfield 164, 3) := by decide +kernel
theorem dX5_release_39 : decode cX5_release 39 = .ok (.aload_n 0, 1) := by decide +kernel
theorem dX5_release_40 : decode cX5_release 40 = .ok (.getfield 22, 3) := by decide +kernel
theorem dX5_release_43 : decode cX5_release 43 = .ok (.aload_n 0, 1) := by decide +kernel
theorem dX5_release_44 : decode cX5_release 44 = .ok (.getfield 174, 3) := by decide +kernel
theorem dX5_release_47 : decode cX5_release 47 = .ok (.iaload, 1) := by decide +kernel
theorem dX5_release_48 : decode cX5_release 48 = .ok (.iconst 0, 1) := by decide +kernel
theorem dX5_release_49 : decode cX5_release 49 = .ok (.invokevirtual 213, 3) := by decide +kernel
theorem dX5_release_52 : decode cX5_release 52 = .ok (.goto (-52), 3) := by decide +kernel
theorem dX5_release_55 : decode cX5_release 55 = .ok (.return_, 1) := by decide +kernel
theorem dX5_levelOf_0 : decode cX5_levelOf 0 = .ok (.iload_n 0, 1) := by decide +kernel
theorem dX5_levelOf_1 : decode cX5_levelOf 1 = .ok (.tableswitch 78 26 38 #[67, 69, 71, 78, 78, 78, 78, 78, 78, 73, 73, 75, 75], 67) := by decide +kernel
theorem dX5_levelOf_68 : decode cX5_levelOf 68 = .ok (.iconst 1, 1) := by decide +kernel
theorem dX5_levelOf_69 : decode cX5_levelOf 69 = .ok (.ireturn, 1) := by decide +kernel
theorem dX5_levelOf_70 : decode cX5_levelOf 70 = .ok (.iconst 2, 1) := by decide +kernel
theorem dX5_levelOf_71 : decode cX5_levelOf 71 = .ok (.ireturn, 1) := by decide +kernel
theorem dX5_levelOf_72 : decode cX5_levelOf 72 = .ok (.iconst 3, 1) := by decide +kernel
theorem dX5_levelOf_73 : decode cX5_levelOf 73 = .ok (.ireturn, 1) := by decide +kernel
theorem dX5_levelOf_74 : decode cX5_levelOf 74 = .ok (.iconst 5, 1) := by decide +kernel
theorem dX5_levelOf_75 : decode cX5_levelOf 75 = .ok (.ireturn, 1) := by decide +kernel
theorem dX5_levelOf_76 : decode cX5_levelOf 76 = .ok (.bipush 6, 2) := by decide +kernel
theorem dX5_levelOf_78 : decode cX5_levelOf 78 = .ok (.ireturn, 1) := by decide +kernel
theorem dX5_levelOf_79 : decode cX5_levelOf 79 = .ok (.iload_n 0, 1) := by decide +kernel
theorem dX5_levelOf_80 : decode cX5_levelOf 80 = .ok (.bipush 29, 2) := by decide +kernel
theorem dX5_levelOf_82 : decode cX5_levelOf 82 = .ok (.if_icmp .lt 13, 3) := by decide +kernel
theorem dX5_levelOf_85 : decode cX5_levelOf 85 = .ok (.iload_n 0, 1) := by decide +kernel
theorem dX5_levelOf_86 : decode cX5_levelOf 86 = .ok (.bipush 34, 2) := by decide +kernel
theorem dX5_levelOf_88 : decode cX5_levelOf 88 = .ok (.if_icmp .gt 7, 3) := by decide +kernel
theorem dX5_levelOf_91 : decode cX5_levelOf 91 = .ok (.iconst 4, 1) := by decide +kernel
theorem dX5_levelOf_92 : decode cX5_levelOf 92 = .ok (.goto 4, 3) := by decide +kernel
theorem dX5_levelOf_95 : decode cX5_levelOf 95 = .ok (.iconst 0, 1) := by decide +kernel
theorem dX5_levelOf_96 : decode cX5_levelOf 96 = .ok (.ireturn, 1) := by decide +kernel
