theorem dX10_goesOnInside_47 : decode cX10_goesOnInside 47 = .ok (.aload_n 0, 1) := by decide +kernel
theorem dX10_goesOnInside_48 : decode cX10_goesOnInside 48 = .ok (.getfield 108, 3) := by decide +kernel
theorem dX10_goesOnInside_51 : decode cX10_goesOnInside 51 = .ok (.iload 6, 2) := by decide +kernel
theorem dX10_goesOnInside_53 : decode cX10_goesOnInside 53 = .ok (.iaload, 1) := by decide +kernel
theorem dX10_goesOnInside_54 : decode cX10_goesOnInside 54 = .ok (.iconst 1, 1) := by decide +kernel
theorem dX10_goesOnInside_55 : decode cX10_goesOnInside 55 = .ok (.if_icmp .ne 11, 3) := by decide +kernel
theorem dX10_goesOnInside_58 : decode cX10_goesOnInside 58 = .ok (.aload_n 0, 1) := by decide +kernel
theorem dX10_goesOnInside_59 : decode cX10_goesOnInside 59 = .ok (.getfield 108, 3) := by decide +kernel
theorem dX10_goesOnInside_62 : decode cX10_goesOnInside 62 = .ok (.iload 6, 2) := by decide +kernel
theorem dX10_goesOnInside_64 : decode cX10_goesOnInside 64 = .ok (.iconst 3, 1) := by decide +kernel
theorem dX10_goesOnInside_65 : decode cX10_goesOnInside 65 = .ok (.iastore, 1) := by decide +kernel
theorem dX10_goesOnInside_66 : decode cX10_goesOnInside 66 = .ok (.aload_n 0, 1) := by decide +kernel
theorem dX10_goesOnInside_67 : decode cX10_goesOnInside 67 = .ok (.iload_n 1, 1) := by decide +kernel
theorem dX10_goesOnInside_68 : decode cX10_goesOnInside 68 = .ok (.iload_n 2, 1) := by decide +kernel
theorem dX10_goesOnInside_69 : decode cX10_goesOnInside 69 = .ok (.iconst 2, 1) := by decide +kernel
theorem dX10_goesOnInside_70 : decode cX10_goesOnInside 70 = .ok (.invokevirtual 385, 3) := by decide +kernel
theorem dX10_goesOnInside_73 : decode cX10_goesOnInside 73 = .ok (.return_, 1) := by decide +kernel
theorem dX10_goesOnInside_74 : decode cX10_goesOnInside 74 = .ok (.aload_n 0, 1) := by decide +kernel
theorem dX10_goesOnInside_75 : decode cX10_goesOnInside 75 = .ok (.getfield 99, 3) := by decide +kernel
theorem dX10_goesOnInside_78 : decode cX10_goesOnInside 78 = .ok (.iload 4, 2) := by decide +kernel
theorem dX10_goesOnInside_80 : decode cX10_goesOnInside 80 = .ok (.iaload, 1) := by decide +kernel
theorem dX10_goesOnInside_81 : decode cX10_goesOnInside 81 = .ok (.aload_n 0, 1) := by decide +kernel
theorem dX10_goesOnInside_82 : decode cX10_goesOnInside 82 = .ok (.getfield 34, 3) := by decide +kernel
theorem dX10_goesOnInside_85 : decode cX10_goesOnInside 85 = .ok (.iload 5, 2) := by decide +kernel
theorem dX10_goesOnInside_87 : decode cX10_goesOnInside 87 = .ok (.iaload, 1) := by decide +kernel
theorem dX10_goesOnInside_88 : decode cX10_goesOnInside 88 = .ok (.if_icmp .ne 21, 3) := by decide +kernel
theorem dX10_goesOnInside_91 : decode cX10_goesOnInside 91 = .ok (.aload_n 0, 1) := by decide +kernel
theorem dX10_goesOnInside_92 : decode cX10_goesOnInside 92 = .ok (.getfield 108, 3) := by decide +kernel
theorem dX10_goesOnInside_95 : decode cX10_goesOnInside 95 = .ok (.iload 6, 2) := by decide +kernel
theorem dX10_goesOnInside_97 : decode cX10_goesOnInside 97 = .ok (.iaload, 1) := by decide +kernel
theorem dX10_goesOnInside_98 : decode cX10_goesOnInside 98 = .ok (.ifCond .ne 11, 3) := by decide +kernel
theorem dX10_goesOnInside_101 : decode cX10_goesOnInside 101 = .ok (.aload_n 0, 1) := by decide +kernel
theorem dX10_goesOnInside_102 : decode cX10_goesOnInside 102 = .ok (.getfield 108, 3) := by decide +kernel
theorem dX10_goesOnInside_105 : decode cX10_goesOnInside 105 = .ok (.iload 6, 2) := by decide +kernel
theorem dX10_goesOnInside_107 : decode cX10_goesOnInside 107 = .ok (.iconst 1, 1) := by decide +kernel
theorem dX10_goesOnInside_108 : decode cX10_goesOnInside 108 = .ok (.iastore, 1) := by decide +kernel
theorem dX10_goesOnInside_109 : decode cX10_goesOnInside 109 = .ok (.aload_n 0, 1) := by decide +kernel
theorem dX10_goesOnInside_110 : decode cX10_goesOnInside 110 = .ok (.getfield 99, 3) := by decide +kernel
theorem dX10_goesOnInside_113 : decode cX10_goesOnInside 113 = .ok (.iload 4, 2) := by decide +kernel
theorem dX10_goesOnInside_115 : decode cX10_goesOnInside 115 = .ok (.iaload, 1) := by decide +kernel
theorem dX10_goesOnInside_116 : decode cX10_goesOnInside 116 = .ok (.iconst 2, 1) := by decide +kernel
theorem dX10_goesOnInside_117 : decode cX10_goesOnInside 117 = .ok (.aload_n 0, 1) := by decide +kernel
theorem dX10_goesOnInside_118 : decode cX10_goesOnInside 118 = .ok (.getfield 34, 3) := by decide +kernel
theorem dX10_goesOnInside_121 : decode cX10_goesOnInside 121 = .ok (.iload 5, 2) := by decide +kernel
theorem dX10_goesOnInside_123 : decode cX10_goesOnInside 123 = .ok (.iaload, 1) := by decide +kernel
theorem dX10_goesOnInside_124 : decode cX10_goesOnInside 124 = .ok (.imul, 1) := by decide +kernel
theorem dX10_goesOnInside_125 : decode cX10_goesOnInside 125 = .ok (.if_icmp .ge 4, 3) := by decide +kernel
theorem dX10_goesOnInside_128 : decode cX10_goesOnInside 128 = .ok (.return_, 1) := by decide +kernel
theorem dX10_goesOnInside_129 : decode cX10_goesOnInside 129 = .ok (.aload_n 0, 1) := by decide +kernel
theorem dX10_goesOnInside_130 : decode cX10_goesOnInside 130 = .ok (.iload_n 1, 1) := by decide +kernel
theorem dX10_goesOnInside_131 : decode cX10_goesOnInside 131 = .ok (.iload_n 2, 1) := by decide +kernel
theorem dX10_goesOnInside_132 : decode cX10_goesOnInside 132 = .ok (.iconst 0, 1) := by decide +kernel
theorem dX10_goesOnInside_133 : decode cX10_goesOnInside 133 = .ok (.invokevirtual 385, 3) := by decide +kernel
theorem dX10_goesOnInside_136 : decode cX10_goesOnInside 136 = .ok (.aload_n 0, 1) := by decide +kernel
theorem dX10_goesOnInside_137 : decode cX10_goesOnInside 137 = .ok (.getfield 108, 3) := by decide +kernel
theorem dX10_goesOnInside_140 : decode cX10_goesOnInside 140 = .ok (.iload 6, 2) := by decide +kernel
theorem dX10_goesOnInside_142 : decode cX10_goesOnInside 142 = .ok (.iaload, 1) := by decide +kernel
theorem dX10_goesOnInside_143 : decode cX10_goesOnInside 143 = .ok (.iconst 1, 1) := by decide +kernel
theorem dX10_goesOnInside_144 : decode cX10_goesOnInside 144 = .ok (.if_icmp .eq 4, 3) := by decide +kernel
theorem dX10_goesOnInside_147 : decode cX10_goesOnInside 147 = .ok (.return_, 1) := by decide +kernel
theorem dX10_goesOnInside_148 : decode cX10_goesOnInside 148 = .ok (.aload_n 0, 1) := by decide +kernel
theorem dX10_goesOnInside_149 : decode cX10_goesOnInside 149 = .ok (.getfield 108, 3) := by decide +kernel
theorem dX10_goesOnInside_152 : decode cX10_goesOnInside 152 = .ok (.iload 6, 2) := by decide +kernel
theorem dX10_goesOnInside_154 : decode cX10_goesOnInside 154 = .ok (.iconst 2, 1) := by decide +kernel
theorem dX10_goesOnInside_155 : decode cX10_goesOnInside 155 = .ok (.iastore, 1) := by decide +kernel
theorem dX10_goesOnInside_156 : decode cX10_goesOnInside 156 = .ok (.aload_n 0, 1) := by decide +kernel
theorem dX10_goesOnInside_157 : decode cX10_goesOnInside 157 = .ok (.getfield 81, 3) := by decide +kernel
theorem dX10_goesOnInside_160 : decode cX10_goesOnInside 160 = .ok (.iload_n 1, 1) := by decide +kernel
theorem dX10_goesOnInside_161 : decode cX10_goesOnInside 161 = .ok (.sipush 9999, 3) := by decide +kernel
theorem dX10_goesOnInside_164 : decode cX10_goesOnInside 164 = .ok (.aload_n 0, 1) := by decide +kernel
theorem dX10_goesOnInside_165 : decode cX10_goesOnInside 165 = .ok (.getfield 81, 3) := by decide +kernel
theorem dX10_goesOnInside_168 : decode cX10_goesOnInside 168 = .ok (.iload_n 1, 1) := by decide +kernel
theorem dX10_goesOnInside_169 : decode cX10_goesOnInside 169 = .ok (.iaload, 1) := by decide +kernel
theorem dX10_goesOnInside_170 : decode cX10_goesOnInside 170 = .ok (.aload_n 0, 1) := by decide +kernel
theorem dX10_goesOnInside_171 : decode cX10_goesOnInside 171 = .ok (.getfield 31, 3) := by decide +kernel
theorem dX10_goesOnInside_174 : decode cX10_goesOnInside 174 = .ok (.iload 5, 2) := by decide +kernel
theorem dX10_goesOnInside_176 : decode cX10_goesOnInside 176 = .ok (.iaload, 1) := by decide +kernel
theorem dX10_goesOnInside_177 : decode cX10_goesOnInside 177 = .ok (.iadd, 1) := by decide +kernel
theorem dX10_goesOnInside_178 : decode cX10_goesOnInside 178 = .ok (.invokestatic 389, 3) := by decide +kernel
theorem dX10_goesOnInside_181 : decode cX10_goesOnInside 181 = .ok (.iastore, 1) := by decide +kernel
theorem dX10_goesOnInside_182 : decode cX10_goesOnInside 182 = .ok (.aload_n 0, 1) := by decide +kernel
theorem dX10_goesOnInside_183 : decode cX10_goesOnInside 183 = .ok (.iload_n 1, 1) := by decide +kernel
theorem dX10_goesOnInside_184 : decode cX10_goesOnInside 184 = .ok (.iload_n 2, 1) := by decide +kernel
theorem dX10_goesOnInside_185 : decode cX10_goesOnInside 185 = .ok (.iload 5, 2) := by decide +kernel
theorem dX10_goesOnInside_187 : decode cX10_goesOnInside 187 = .ok (.iconst 0, 1) := by decide +kernel
theorem dX10_goesOnInside_188 : decode cX10_goesOnInside 188 = .ok (.invokevirtual 340, 3) := by decide +kernel
theorem dX10_goesOnInside_191 : decode cX10_goesOnInside 191 = .ok (.aload_n 0, 1) := by decide +kernel
theorem dX10_goesOnInside_192 : decode cX10_goesOnInside 192 = .ok (.getfield 87, 3) := by decide +kernel
theorem dX10_goesOnInside_195 : decode cX10_goesOnInside 195 = .ok (.iload 4, 2) := by decide +kernel
theorem dX10_goesOnInside_197 : decode cX10_goesOnInside 197 = .ok (.iconst 0, 1) := by decide +kernel
theorem dX10_goesOnInside_198 : decode cX10_goesOnInside 198 = .ok (.bipush 99, 2) := by decide +kernel
theorem dX10_goesOnInside_200 : decode cX10_goesOnInside 200 = .ok (.aload_n 0, 1) := by decide +kernel
theorem dX10_goesOnInside_201 : decode cX10_goesOnInside 201 = .ok (.getfield 87, 3) := by decide +kernel
theorem dX10_goesOnInside_204 : decode cX10_goesOnInside 204 = .ok (.iload 4, 2) := by decide +kernel
theorem dX10_goesOnInside_206 : decode cX10_goesOnInside 206 = .ok (.iaload, 1) := by decide +kernel
theorem dX10_goesOnInside_207 : decode cX10_goesOnInside 207 = .ok (.aload_n 0, 1) := by decide +kernel
theorem dX10_goesOnInside_208 : decode cX10_goesOnInside 208 = .ok (.iconst 1, 1) := by decide +kernel
theorem dX10_goesOnInside_209 : decode cX10_goesOnInside 209 = .ok (.bipush (-9), 2) := by decide +kernel
theorem dX10_goesOnInside_211 : decode cX10_goesOnInside 211 = .ok (.bipush 9, 2) := by decide +kernel
theorem dX10_goesOnInside_213 : decode cX10_goesOnInside 213 = .ok (.iconst 0, 1) := by decide +kernel
theorem dX10_goesOnInside_214 : decode cX10_goesOnInside 214 = .ok (.invokevirtual 374, 3) := by decide +kernel
theorem dX10_goesOnInside_217 : decode cX10_goesOnInside 217 = .ok (.iadd, 1) := by decide +kernel
theorem dX10_goesOnInside_218 : decode cX10_goesOnInside 218 = .ok (.invokestatic 389, 3) := by decide +kernel
theorem dX10_goesOnInside_221 : decode cX10_goesOnInside 221 = .ok (.invokestatic 391, 3) := by decide +kernel
theorem dX10_goesOnInside_224 : decode cX10_goesOnInside 224 = .ok (.iastore, 1) := by decide +kernel
theorem dX10_goesOnInside_225 : decode cX10_goesOnInside 225 = .ok (.return_, 1) := by decide +kernel
theorem dX10_passes_0 : decode cX10_passes 0 = .ok (.aload_n 0, 1) := by decide +kernel
theorem dX10_passes_1 : decode cX10_passes 1 = .ok (.iconst 0, 1) := by decide +kernel
theorem dX10_passes_2 : decode cX10_passes 2 = .ok (.putfield 367, 3) := by decide +kernel
theorem dX10_passes_5 : decode cX10_passes 5 = .ok (.aload_n 0, 1) := by decide +kernel
theorem dX10_passes_6 : decode cX10_passes 6 = .ok (.getfield 360, 3) := by decide +kernel
theorem dX10_passes_9 : decode cX10_passes 9 = .ok (.iconst 5, 1) := by decide +kernel
theorem dX10_passes_10 : decode cX10_passes 10 = .ok (.if_icmp .eq 8, 3) := by decide +kernel
theorem dX10_passes_13 : decode cX10_passes 13 = .ok (.aload_n 0, 1) := by decide +kernel
theorem dX10_passes_14 : decode cX10_passes 14 = .ok (.iload_n 1, 1) := by decide +kernel
theorem dX10_passes_15 : decode cX10_passes 15 = .ok (.invokevirtual 393, 3) := by decide +kernel
theorem dX10_passes_18 : decode cX10_passes 18 = .ok (.iconst 0, 1) := by decide +kernel
theorem dX10_passes_19 : decode cX10_passes 19 = .ok (.istore_n 3, 1) := by decide +kernel
theorem dX10_passes_20 : decode cX10_passes 20 = .ok (.iload_n 3, 1) := by decide +kernel
theorem dX10_passes_21 : decode cX10_passes 21 = .ok (.aload_n 0, 1) := by decide +kernel
theorem dX10_passes_22 : decode cX10_passes 22 = .ok (.getfield 13, 3) := by decide +kernel
theorem dX10_passes_25 : decode cX10_passes 25 = .ok (.iconst 0, 1) := by decide +kernel
theorem dX10_passes_26 : decode cX10_passes 26 = .ok (.iaload, 1) := by decide +kernel
theorem dX10_passes_27 : decode cX10_passes 27 = .ok (.if_icmp .ge 25, 3) := by decide +kernel
theorem dX10_passes_30 : decode cX10_passes 30 = .ok (.aload_n 0, 1) := by decide +kernel
theorem dX10_passes_31 : decode cX10_passes 31 = .ok (.iload_n 1, 1) := by decide +kernel
theorem dX10_passes_32 : decode cX10_passes 32 = .ok (.aload_n 0, 1) := by decide +kernel
theorem dX10_passes_33 : decode cX10_passes 33 = .ok (.getfield 105, 3) := by decide +kernel
theorem dX10_passes_36 : decode cX10_passes 36 = .ok (.bipush 6, 2) := by decide +kernel
theorem dX10_passes_38 : decode cX10_passes 38 = .ok (.iload_n 1, 1) := by decide +kernel
theorem dX10_passes_39 : decode cX10_passes 39 = .ok (.imul, 1) := by decide +kernel
theorem dX10_passes_40 : decode cX10_passes 40 = .ok (.iload_n 3, 1) := by decide +kernel
theorem dX10_passes_41 : decode cX10_passes 41 = .ok (.iadd, 1) := by decide +kernel
theorem dX10_passes_42 : decode cX10_passes 42 = .ok (.iaload, 1) := by decide +kernel
theorem dX10_passes_43 : decode cX10_passes 43 = .ok (.invokevirtual 396, 3) := by decide +kernel
theorem dX10_passes_46 : decode cX10_passes 46 = .ok (.iinc 3 1, 3) := by decide +kernel
theorem dX10_passes_49 : decode cX10_passes 49 = .ok (.goto (-29), 3) := by decide +kernel
theorem dX10_passes_52 : decode cX10_passes 52 = .ok (.iconst 0, 1) := by decide +kernel
theorem dX10_passes_53 : decode cX10_passes 53 = .ok (.istore_n 3, 1) := by decide +kernel
theorem dX10_passes_54 : decode cX10_passes 54 = .ok (.iload_n 3, 1) := by decide +kernel
theorem dX10_passes_55 : decode cX10_passes 55 = .ok (.aload_n 0, 1) := by decide +kernel
theorem dX10_passes_56 : decode cX10_passes 56 = .ok (.getfield 13, 3) := by decide +kernel
theorem dX10_passes_59 : decode cX10_passes 59 = .ok (.iconst 0, 1) := by decide +kernel
theorem dX10_passes_60 : decode cX10_passes 60 = .ok (.iaload, 1) := by decide +kernel
theorem dX10_passes_61 : decode cX10_passes 61 = .ok (.if_icmp .ge 46, 3) := by decide +kernel
theorem dX10_passes_64 : decode cX10_passes 64 = .ok (.aload_n 0, 1) := by decide +kernel
theorem dX10_passes_65 : decode cX10_passes 65 = .ok (.getfield 105, 3) := by decide +kernel
theorem dX10_passes_68 : decode cX10_passes 68 = .ok (.bipush 6, 2) := by decide +kernel
theorem dX10_passes_70 : decode cX10_passes 70 = .ok (.iload_n 1, 1) := by decide +kernel
theorem dX10_passes_71 : decode cX10_passes 71 = .ok (.imul, 1) := by decide +kernel
theorem dX10_passes_72 : decode cX10_passes 72 = .ok (.iload_n 3, 1) := by decide +kernel
theorem dX10_passes_73 : decode cX10_passes 73 = .ok (.iadd, 1) := by decide +kernel
theorem dX10_passes_74 : decode cX10_passes 74 = .ok (.iaload, 1) := by decide +kernel
theorem dX10_passes_75 : decode cX10_passes 75 = .ok (.istore 4, 2) := by decide +kernel
theorem dX10_passes_77 : decode cX10_passes 77 = .ok (.aload_n 0, 1) := by decide +kernel
theorem dX10_passes_78 : decode cX10_passes 78 = .ok (.getfield 93, 3) := by decide +kernel
theorem dX10_passes_81 : decode cX10_passes 81 = .ok (.bipush 6, 2) := by decide +kernel
theorem dX10_passes_83 : decode cX10_passes 83 = .ok (.iload_n 1, 1) := by decide +kernel
theorem dX10_passes_84 : decode cX10_passes 84 = .ok (.imul, 1) := by decide +kernel
theorem dX10_passes_85 : decode cX10_passes 85 = .ok (.iload 4, 2) := by decide +kernel
theorem dX10_passes_87 : decode cX10_passes 87 = .ok (.iadd, 1) := by decide +kernel
theorem dX10_passes_88 : decode cX10_passes 88 = .ok (.iaload, 1) := by decide +kernel
theorem dX10_passes_89 : decode cX10_passes 89 = .ok (.iconst 1, 1) := by decide +kernel
theorem dX10_passes_90 : decode cX10_passes 90 = .ok (.if_icmp .ne 11, 3) := by decide +kernel
theorem dX10_passes_93 : decode cX10_passes 93 = .ok (.aload_n 0, 1) := by decide +kernel
theorem dX10_passes_94 : decode cX10_passes 94 = .ok (.iload_n 1, 1) := by decide +kernel
theorem dX10_passes_95 : decode cX10_passes 95 = .ok (.iload 4, 2) := by decide +kernel
theorem dX10_passes_97 : decode cX10_passes 97 = .ok (.iload_n 2, 1) := by decide +kernel
theorem dX10_passes_98 : decode cX10_passes 98 = .ok (.invokevirtual 399, 3) := by decide +kernel
theorem dX10_passes_101 : decode cX10_passes 101 = .ok (.iinc 3 1, 3) := by decide +kernel
theorem dX10_passes_104 : decode cX10_passes 104 = .ok (.goto (-50), 3) := by decide +kernel
theorem dX10_passes_107 : decode cX10_passes 107 = .ok (.iconst 0, 1) := by decide +kernel
theorem dX10_passes_108 : decode cX10_passes 108 = .ok (.istore_n 3, 1) := by decide +kernel
theorem dX10_passes_109 : decode cX10_passes 109 = .ok (.iload_n 3, 1) := by decide +kernel
theorem dX10_passes_110 : decode cX10_passes 110 = .ok (.aload_n 0, 1) := by decide +kernel
theorem dX10_passes_111 : decode cX10_passes 111 = .ok (.getfield 13, 3) := by decide +kernel
theorem dX10_passes_114 : decode cX10_passes 114 = .ok (.iconst 1, 1) := by decide +kernel
theorem dX10_passes_115 : decode cX10_passes 115 = .ok (.iaload, 1) := by decide +kernel
theorem dX10_passes_116 : decode cX10_passes 116 = .ok (.if_icmp .ge 59, 3) := by decide +kernel
theorem dX10_passes_119 : decode cX10_passes 119 = .ok (.aload_n 0, 1) := by decide +kernel
theorem dX10_passes_120 : decode cX10_passes 120 = .ok (.getfield 360, 3) := by decide +kernel
theorem dX10_passes_123 : decode cX10_passes 123 = .ok (.iconst 4, 1) := by decide +kernel
theorem dX10_passes_124 : decode cX10_passes 124 = .ok (.if_icmp .eq 51, 3) := by decide +kernel
theorem dX10_passes_127 : decode cX10_passes 127 = .ok (.bipush 8, 2) := by decide +kernel
theorem dX10_passes_129 : decode cX10_passes 129 = .ok (.iload_n 1, 1) := by decide +kernel
theorem dX10_passes_130 : decode cX10_passes 130 = .ok (.imul, 1) := by decide +kernel
theorem dX10_passes_131 : decode cX10_passes 131 = .ok (.iload_n 3, 1) := by decide +kernel
theorem dX10_passes_132 : decode cX10_passes 132 = .ok (.iadd, 1) := by decide +kernel
theorem dX10_passes_133 : decode cX10_passes 133 = .ok (.istore 4, 2) := by decide +kernel
theorem dX10_passes_135 : decode cX10_passes 135 = .ok (.aload_n 0, 1) := by decide +kernel
theorem dX10_passes_136 : decode cX10_passes 136 = .ok (.getfield 108, 3) := by decide +kernel
theorem dX10_passes_139 : decode cX10_passes 139 = .ok (.iload 4, 2) := by decide +kernel
theorem dX10_passes_141 : decode cX10_passes 141 = .ok (.iaload, 1) := by decide +kernel
theorem dX10_passes_142 : decode cX10_passes 142 = .ok (.ifCond .ne 27, 3) := by decide +kernel
theorem dX10_passes_145 : decode cX10_passes 145 = .ok (.aload_n 0, 1) := by decide +kernel
theorem dX10_passes_146 : decode cX10_passes 146 = .ok (.getfield 111, 3) := by decide +kernel
theorem dX10_passes_149 : decode cX10_passes 149 = .ok (.iload 4, 2) := by decide +kernel
theorem dX10_passes_151 : decode cX10_passes 151 = .ok (.iaload, 1) := by decide +kernel
theorem dX10_passes_152 : decode cX10_passes 152 = .ok (.aload_n 0, 1) := by decide +kernel
theorem dX10_passes_153 : decode cX10_passes 153 = .ok (.getfield 72, 3) := by decide +kernel
theorem dX10_passes_156 : decode cX10_passes 156 = .ok (.iload_n 1, 1) := by decide +kernel
theorem dX10_passes_157 : decode cX10_passes 157 = .ok (.iaload, 1) := by decide +kernel
theorem dX10_passes_158 : decode cX10_passes 158 = .ok (.if_icmp .ne 11, 3) := by decide +kernel
theorem dX10_passes_161 : decode cX10_passes 161 = .ok (.aload_n 0, 1) := by decide +kernel
theorem dX10_passes_162 : decode cX10_passes 162 = .ok (.getfield 108, 3) := by decide +kernel
theorem dX10_passes_165 : decode cX10_passes 165 = .ok (.iload 4, 2) := by decide +kernel
theorem dX10_passes_167 : decode cX10_passes 167 = .ok (.iconst 3, 1) := by decide +kernel
theorem dX10_passes_168 : decode cX10_passes 168 = .ok (.iastore, 1) := by decide +kernel
theorem dX10_passes_169 : decode cX10_passes 169 = .ok (.iinc 3 1, 3) := by decide +kernel
theorem dX10_passes_172 : decode cX10_passes 172 = .ok (.goto (-63), 3) := by decide +kernel
theorem dX10_passes_175 : decode cX10_passes 175 = .ok (.aload_n 0, 1) := by decide +kernel
theorem dX10_passes_176 : decode cX10_passes 176 = .ok (.getfield 360, 3) := by decide +kernel
theorem dX10_passes_179 : decode cX10_passes 179 = .ok (.iconst 1, 1) := by decide +kernel
theorem dX10_passes_180 : decode cX10_passes 180 = .ok (.if_icmp .eq 22, 3) := by decide +kernel
theorem dX10_passes_183 : decode cX10_passes 183 = .ok (.aload_n 0, 1) := by decide +kernel
theorem dX10_passes_184 : decode cX10_passes 184 = .ok (.iload_n 1, 1) := by decide +kernel
theorem dX10_passes_185 : decode cX10_passes 185 = .ok (.aload_n 0, 1) := by decide +kernel
theorem dX10_passes_186 : decode cX10_passes 186 = .ok (.getfield 13, 3) := by decide +kernel
theorem dX10_passes_189 : decode cX10_passes 189 = .ok (.iconst 5, 1) := by decide +kernel
theorem dX10_passes_190 : decode cX10_passes 190 = .ok (.iaload, 1) := by decide +kernel
theorem dX10_passes_191 : decode cX10_passes 191 = .ok (.iload_n 2, 1) := by decide +kernel
theorem dX10_passes_192 : decode cX10_passes 192 = .ok (.invokevirtual 378, 3) := by decide +kernel
theorem dX10_passes_195 : decode cX10_passes 195 = .ok (.ifCond .eq 7, 3) := by decide +kernel
theorem dX10_passes_198 : decode cX10_passes 198 = .ok (.iconst 1, 1) := by decide +kernel
theorem dX10_passes_199 : decode cX10_passes 199 = .ok (.goto 4, 3) := by decide +kernel
theorem dX10_passes_202 : decode cX10_passes 202 = .ok (.iconst 0, 1) := by decide +kernel
theorem dX10_passes_203 : decode cX10_passes 203 = .ok (.istore_n 3, 1) := by decide +kernel
theorem dX10_passes_204 : decode cX10_passes 204 = .ok (.aload_n 0, 1) := by decide +kernel
theorem dX10_passes_205 : decode cX10_passes 205 = .ok (.getfield 78, 3) := by decide +kernel
theorem dX10_passes_208 : decode cX10_passes 208 = .ok (.iload_n 1, 1) := by decide +kernel
theorem dX10_passes_209 : decode cX10_passes 209 = .ok (.sipush 999, 3) := by decide +kernel
theorem dX10_passes_212 : decode cX10_passes 212 = .ok (.aload_n 0, 1) := by decide +kernel
theorem dX10_passes_213 : decode cX10_passes 213 = .ok (.getfield 78, 3) := by decide +kernel
theorem dX10_passes_216 : decode cX10_passes 216 = .ok (.iload_n 1, 1) := by decide +kernel
theorem dX10_passes_217 : decode cX10_passes 217 = .ok (.iaload, 1) := by decide +kernel
theorem dX10_passes_218 : decode cX10_passes 218 = .ok (.aload_n 0, 1) := by decide +kernel
theorem dX10_passes_219 : decode cX10_passes 219 = .ok (.getfield 13, 3) := by decide +kernel
theorem dX10_passes_222 : decode cX10_passes 222 = .ok (.iconst 4, 1) := by decide +kernel
theorem dX10_passes_223 : decode cX10_passes 223 = .ok (.iaload, 1) := by decide +kernel
theorem dX10_passes_224 : decode cX10_passes 224 = .ok (.iadd, 1) := by decide +kernel
theorem dX10_passes_225 : decode cX10_passes 225 = .ok (.iload_n 3, 1) := by decide +kernel
theorem dX10_passes_226 : decode cX10_passes 226 = .ok (.ifCond .eq 7, 3) := by decide +kernel
theorem dX10_passes_229 : decode cX10_passes 229 = .ok (.iconst 5, 1) := by decide +kernel
theorem dX10_passes_230 : decode cX10_passes 230 = .ok (.goto 4, 3) := by decide +kernel
theorem dX10_passes_233 : decode cX10_passes 233 = .ok (.iconst 0, 1) := by decide +kernel
theorem dX10_passes_234 : decode cX10_passes 234 = .ok (.iadd, 1) := by decide +kernel
theorem dX10_passes_235 : decode cX10_passes 235 = .ok (.invokestatic 389, 3) := by decide +kernel
theorem dX10_passes_238 : decode cX10_passes 238 = .ok (.iastore, 1) := by decide +kernel
theorem dX10_passes_239 : decode cX10_passes 239 = .ok (.aload_n 0, 1) := by decide +kernel
theorem dX10_passes_240 : decode cX10_passes 240 = .ok (.getfield 72, 3) := by decide +kernel
theorem dX10_passes_243 : decode cX10_passes 243 = .ok (.iload_n 1, 1) := by decide +kernel
theorem dX10_passes_244 : decode cX10_passes 244 = .ok (.dup2, 1) := by decide +kernel
theorem dX10_passes_245 : decode cX10_passes 245 = .ok (.iaload, 1) := by decide +kernel
theorem dX10_passes_246 : decode cX10_passes 246 = .ok (.iconst 1, 1) := by decide +kernel
theorem dX10_passes_247 : decode cX10_passes 247 = .ok (.iadd, 1) := by decide +kernel
theorem dX10_passes_248 : decode cX10_passes 248 = .ok (.iastore, 1) := by decide +kernel
theorem dX10_passes_249 : decode cX10_passes 249 = .ok (.return_, 1) := by decide +kernel
theorem dX10_goesOn_0 : decode cX10_goesOn 0 = .ok (.iconst 0, 1) := by decide +kernel
theorem dX10_goesOn_1 : decode cX10_goesOn 1 = .ok (.istore_n 2, 1) := by decide +kernel
theorem dX10_goesOn_2 : decode cX10_goesOn 2 = .ok (.iload_n 2, 1) := by decide +kernel
theorem dX10_goesOn_3 : decode cX10_goesOn 3 = .ok (.iload_n 1, 1) := by decide +kernel
theorem dX10_goesOn_4 : decode cX10_goesOn 4 = .ok (.if_icmp .ge 15, 3) := by decide +kernel
theorem dX10_goesOn_7 : decode cX10_goesOn 7 = .ok (.aload_n 0, 1) := by decide +kernel
theorem dX10_goesOn_8 : decode cX10_goesOn 8 = .ok (.iconst 1, 1) := by decide +kernel
theorem dX10_goesOn_9 : decode cX10_goesOn 9 = .ok (.iconst 0, 1) := by decide +kernel
theorem dX10_goesOn_10 : decode cX10_goesOn 10 = .ok (.invokevirtual 403, 3) := by decide +kernel
theorem dX10_goesOn_13 : decode cX10_goesOn 13 = .ok (.iinc 2 1, 3) := by decide +kernel
theorem dX10_goesOn_16 : decode cX10_goesOn 16 = .ok (.goto (-14), 3) := by decide +kernel
theorem dX10_goesOn_19 : decode cX10_goesOn 19 = .ok (.return_, 1) := by decide +kernel
theorem dX10_runs_0 : decode cX10_runs 0 = .ok (.aload_n 0, 1) := by decide +kernel
theorem dX10_runs_1 : decode cX10_runs 1 = .ok (.iconst 1, 1) := by decide +kernel
theorem dX10_runs_2 : decode cX10_runs 2 = .ok (.iconst 0, 1) := by decide +kernel
theorem dX10_runs_3 : decode cX10_runs 3 = .ok (.invokevirtual 407, 3) := by decide +kernel
theorem dX10_runs_6 : decode cX10_runs 6 = .ok (.aload_n 0, 1) := by decide +kernel
theorem dX10_runs_7 : decode cX10_runs 7 = .ok (.iload_n 1, 1) := by decide +kernel
theorem dX10_runs_8 : decode cX10_runs 8 = .ok (.invokevirtual 410, 3) := by decide +kernel
theorem dX10_runs_11 : decode cX10_runs 11 = .ok (.return_, 1) := by decide +kernel
theorem dX10_thingsOf_0 : decode cX10_thingsOf 0 = .ok (.iconst 0, 1) := by decide +kernel
theorem dX10_thingsOf_1 : decode cX10_thingsOf 1 = .ok (.istore_n 3, 1) := by decide +kernel
theorem dX10_thingsOf_2 : decode cX10_thingsOf 2 = .ok (.iconst 0, 1) := by decide +kernel
theorem dX10_thingsOf_3 : decode cX10_thingsOf 3 = .ok (.istore 4, 2) := by decide +kernel
theorem dX10_thingsOf_5 : decode cX10_thingsOf 5 = .ok (.iload 4, 2) := by decide +kernel
theorem dX10_thingsOf_7 : decode cX10_thingsOf 7 = .ok (.aload_n 0, 1) := by decide +kernel
theorem dX10_thingsOf_8 : decode cX10_thingsOf 8 = .ok (.getfield 13, 3) := by decide +kernel
theorem dX10_thingsOf_11 : decode cX10_thingsOf 11 = .ok (.iconst 1, 1) := by decide +kernel
theorem dX10_thingsOf_12 : decode cX10_thingsOf 12 = .ok (.iaload, 1) := by decide +kernel
theorem dX10_thingsOf_13 : decode cX10_thingsOf 13 = .ok (.if_icmp .ge 33, 3) := by decide +kernel
theorem dX10_thingsOf_16 : decode cX10_thingsOf 16 = .ok (.iload_n 3, 1) := by decide +kernel
theorem dX10_thingsOf_17 : decode cX10_thingsOf 17 = .ok (.aload_n 0, 1) := by decide +kernel
theorem dX10_thingsOf_18 : decode cX10_thingsOf 18 = .ok (.getfield 108, 3) := by decide +kernel
theorem dX10_thingsOf_21 : decode cX10_thingsOf 21 = .ok (.bipush 8, 2) := by decide +kernel
theorem dX10_thingsOf_23 : decode cX10_thingsOf 23 = .ok (.iload_n 1, 1) := by decide +kernel
theorem dX10_thingsOf_24 : decode cX10_thingsOf 24 = .ok (.imul, 1) := by decide +kernel
theorem dX10_thingsOf_25 : decode cX10_thingsOf 25 = .ok (.iload 4, 2) := by decide +kernel
theorem dX10_thingsOf_27 : decode cX10_thingsOf 27 = .ok (.iadd, 1) := by decide +kernel
theorem dX10_thingsOf_28 : decode cX10_thingsOf 28 = .ok (.iaload, 1) := by decide +kernel
theorem dX10_thingsOf_29 : decode cX10_thingsOf 29 = .ok (.iload_n 2, 1) := by decide +kernel
theorem dX10_thingsOf_30 : decode cX10_thingsOf 30 = .ok (.if_icmp .ne 7, 3) := by decide +kernel
theorem dX10_thingsOf_33 : decode cX10_thingsOf 33 = .ok (.iconst 1, 1) := by decide +kernel
theorem dX10_thingsOf_34 : decode cX10_thingsOf 34 = .ok (.goto 4, 3) := by decide +kernel
theorem dX10_thingsOf_37 : decode cX10_thingsOf 37 = .ok (.iconst 0, 1) := by decide +kernel
theorem dX10_thingsOf_38 : decode cX10_thingsOf 38 = .ok (.iadd, 1) := by decide +kernel
theorem dX10_thingsOf_39 : decode cX10_thingsOf 39 = .ok (.istore_n 3, 1) := by decide +kernel
theorem dX10_thingsOf_40 : decode cX10_thingsOf 40 = .ok (.iinc 4 1, 3) := by decide +kernel
theorem dX10_thingsOf_43 : decode cX10_thingsOf 43 = .ok (.goto (-38), 3) := by decide +kernel
theorem dX10_thingsOf_46 : decode cX10_thingsOf 46 = .ok (.iload_n 3, 1) := by decide +kernel
theorem dX10_thingsOf_47 : decode cX10_thingsOf 47 = .ok (.ireturn, 1) := by decide +kernel
theorem dX10_menOf_0 : decode cX10_menOf 0 = .ok (.iconst 0, 1) := by decide +kernel
theorem dX10_menOf_1 : decode cX10_menOf 1 = .ok (.istore_n 3, 1) := by decide +kernel
theorem dX10_menOf_2 : decode cX10_menOf 2 = .ok (.iconst 0, 1) := by decide +kernel
theorem dX10_menOf_3 : decode cX10_menOf 3 = .ok (.istore 4, 2) := by decide +kernel
theorem dX10_menOf_5 : decode cX10_menOf 5 = .ok (.iload 4, 2) := by decide +kernel
theorem dX10_menOf_7 : decode cX10_menOf 7 = .ok (.aload_n 0, 1) := by decide +kernel
theorem dX10_menOf_8 : decode cX10_menOf 8 = .ok (.getfield 13, 3) := by decide +kernel
theorem dX10_menOf_11 : decode cX10_menOf 11 = .ok (.iconst 0, 1) := by decide +kernel
theorem dX10_menOf_12 : decode cX10_menOf 12 = .ok (.iaload, 1) := by decide +kernel
theorem dX10_menOf_13 : decode cX10_menOf 13 = .ok (.if_icmp .ge 33, 3) := by decide +kernel
theorem dX10_menOf_16 : decode cX10_menOf 16 = .ok (.iload_n 3, 1) := by decide +kernel
theorem dX10_menOf_17 : decode cX10_menOf 17 = .ok (.aload_n 0, 1) := by decide +kernel
theorem dX10_menOf_18 : decode cX10_menOf 18 = .ok (.getfield 93, 3) := by decide +kernel
theorem dX10_menOf_21 : decode cX10_menOf 21 = .ok (.bipush 6, 2) := by decide +kernel
theorem dX10_menOf_23 : decode cX10_menOf 23 = .ok (.iload_n 1, 1) := by decide +kernel
theorem dX10_menOf_24 : decode cX10_menOf 24 = .ok (.imul, 1) := by decide +kernel
theorem dX10_menOf_25 : decode cX10_menOf 25 = .ok (.iload 4, 2) := by decide +kernel
theorem dX10_menOf_27 : decode cX10_menOf 27 = .ok (.iadd, 1) := by decide +kernel
theorem dX10_menOf_28 : decode cX10_menOf 28 = .ok (.iaload, 1) := by decide +kernel
theorem dX10_menOf_29 : decode cX10_menOf 29 = .ok (.iload_n 2, 1) := by decide +kernel
theorem dX10_menOf_30 : decode cX10_menOf 30 = .ok (.if_icmp .ne 7, 3) := by decide +kernel
theorem dX10_menOf_33 : decode cX10_menOf 33 = .ok (.iconst 1, 1) := by decide +kernel
theorem dX10_menOf_34 : decode cX10_menOf 34 = .ok (.goto 4, 3) := by decide +kernel
theorem dX10_menOf_37 : decode cX10_menOf 37 = .ok (.iconst 0, 1) := by decide +kernel
theorem dX10_menOf_38 : decode cX10_menOf 38 = .ok (.iadd, 1) := by decide +kernel
theorem dX10_menOf_39 : decode cX10_menOf 39 = .ok (.istore_n 3, 1) := by decide +kernel
theorem dX10_menOf_40 : decode cX10_menOf 40 = .ok (.iinc 4 1, 3) := by decide +kernel
theorem dX10_menOf_43 : decode cX10_menOf 43 = .ok (.goto (-38), 3) := by decide +kernel
theorem dX10_menOf_46 : decode cX10_menOf 46 = .ok (.iload_n 3, 1) := by decide +kernel
theorem dX10_menOf_47 : decode cX10_menOf 47 = .ok (.ireturn, 1) := by decide +kernel
theorem dX10_savedWorth_0 : decode cX10_savedWorth 0 = .ok (.iconst 0, 1) := by decide +kernel
theorem dX10_savedWorth_1 : decode cX10_savedWorth 1 = .ok (.istore_n 2, 1) := by decide +kernel
theorem dX10_savedWorth_2 : decode cX10_savedWorth 2 = .ok (.iconst 0, 1) := by decide +kernel
theorem dX10_savedWorth_3 : decode cX10_savedWorth 3 = .ok (.istore_n 3, 1) := by decide +kernel
theorem dX10_savedWorth_4 : decode cX10_savedWorth 4 = .ok (.iload_n 3, 1) := by decide +kernel
theorem dX10_savedWorth_5 : decode cX10_savedWorth 5 = .ok (.aload_n 0, 1) := by decide +kernel
theorem dX10_savedWorth_6 : decode cX10_savedWorth 6 = .ok (.getfield 13, 3) := by decide +kernel
theorem dX10_savedWorth_9 : decode cX10_savedWorth 9 = .ok (.iconst 1, 1) := by decide +kernel
theorem dX10_savedWorth_10 : decode cX10_savedWorth 10 = .ok (.iaload, 1) := by decide +kernel
theorem dX10_savedWorth_11 : decode cX10_savedWorth 11 = .ok (.if_icmp .ge 37, 3) := by decide +kernel
theorem dX10_savedWorth_14 : decode cX10_savedWorth 14 = .ok (.iload_n 2, 1) := by decide +kernel
theorem dX10_savedWorth_15 : decode cX10_savedWorth 15 = .ok (.aload_n 0, 1) := by decide +kernel
theorem dX10_savedWorth_16 : decode cX10_savedWorth 16 = .ok (.getfield 108, 3) := by decide +kernel
theorem dX10_savedWorth_19 : decode cX10_savedWorth 19 = .ok (.bipush 8, 2) := by decide +kernel
theorem dX10_savedWorth_21 : decode cX10_savedWorth 21 = .ok (.iload_n 1, 1) := by decide +kernel
theorem dX10_savedWorth_22 : decode cX10_savedWorth 22 = .ok (.imul, 1) := by decide +kernel
theorem dX10_savedWorth_23 : decode cX10_savedWorth 23 = .ok (.iload_n 3, 1) := by decide +kernel
theorem dX10_savedWorth_24 : decode cX10_savedWorth 24 = .ok (.iadd, 1) := by decide +kernel
theorem dX10_savedWorth_25 : decode cX10_savedWorth 25 = .ok (.iaload, 1) := by decide +kernel
theorem dX10_savedWorth_26 : decode cX10_savedWorth 26 = .ok (.iconst 2, 1) := by decide +kernel
theorem dX10_savedWorth_27 : decode cX10_savedWorth 27 = .ok (.if_icmp .ne 12, 3) := by decide +kernel
theorem dX10_savedWorth_30 : decode cX10_savedWorth 30 = .ok (.aload_n 0, 1) := by decide +kernel
theorem dX10_savedWorth_31 : decode cX10_savedWorth 31 = .ok (.getfield 31, 3) := by decide +kernel
theorem dX10_savedWorth_34 : decode cX10_savedWorth 34 = .ok (.iload_n 3, 1) := by decide +kernel
theorem dX10_savedWorth_35 : decode cX10_savedWorth 35 = .ok (.iaload, 1) := by decide +kernel
theorem dX10_savedWorth_36 : decode cX10_savedWorth 36 = .ok (.goto 4, 3) := by decide +kernel
theorem dX10_savedWorth_39 : decode cX10_savedWorth 39 = .ok (.iconst 0, 1) := by decide +kernel
theorem dX10_savedWorth_40 : decode cX10_savedWorth 40 = .ok (.iadd, 1) := by decide +kernel
theorem dX10_savedWorth_41 : decode cX10_savedWorth 41 = .ok (.istore_n 2, 1) := by decide +kernel
theorem dX10_savedWorth_42 : decode cX10_savedWorth 42 = .ok (.iinc 3 1, 3) := by decide +kernel
theorem dX10_savedWorth_45 : decode cX10_savedWorth 45 = .ok (.goto (-41), 3) := by decide +kernel
theorem dX10_savedWorth_48 : decode cX10_savedWorth 48 = .ok (.iload_n 2, 1) := by decide +kernel
theorem dX10_savedWorth_49 : decode cX10_savedWorth 49 = .ok (.ireturn, 1) := by decide +kernel
theorem dX10_placeOf_0 : decode cX10_placeOf 0 = .ok (.iconst 0, 1) := by decide +kernel
theorem dX10_placeOf_1 : decode cX10_placeOf 1 = .ok (.istore_n 2, 1) := by decide +kernel
theorem dX10_placeOf_2 : decode cX10_placeOf 2 = .ok (.iload_n 2, 1) := by decide +kernel
theorem dX10_placeOf_3 : decode cX10_placeOf 3 = .ok (.aload_n 0, 1) := by decide +kernel
theorem dX10_placeOf_4 : decode cX10_placeOf 4 = .ok (.getfield 13, 3) := by decide +kernel
theorem dX10_placeOf_7 : decode cX10_placeOf 7 = .ok (.iconst 0, 1) := by decide +kernel
theorem dX10_placeOf_8 : decode cX10_placeOf 8 = .ok (.iaload, 1) := by decide +kernel
theorem dX10_placeOf_9 : decode cX10_placeOf 9 = .ok (.if_icmp .ge 21, 3) := by decide +kernel
theorem dX10_placeOf_12 : decode cX10_placeOf 12 = .ok (.aload_n 0, 1) := by decide +kernel
theorem dX10_placeOf_13 : decode cX10_placeOf 13 = .ok (.getfield 105, 3) := by decide +kernel
theorem dX10_placeOf_16 : decode cX10_placeOf 16 = .ok (.iload_n 2, 1) := by decide +kernel
theorem dX10_placeOf_17 : decode cX10_placeOf 17 = .ok (.iaload, 1) := by decide +kernel
theorem dX10_placeOf_18 : decode cX10_placeOf 18 = .ok (.iload_n 1, 1) := by decide +kernel
theorem dX10_placeOf_19 : decode cX10_placeOf 19 = .ok (.if_icmp .ne 5, 3) := by decide +kernel
theorem dX10_placeOf_22 : decode cX10_placeOf 22 = .ok (.iload_n 2, 1) := by decide +kernel
theorem dX10_placeOf_23 : decode cX10_placeOf 23 = .ok (.ireturn, 1) := by decide +kernel
theorem dX10_placeOf_24 : decode cX10_placeOf 24 = .ok (.iinc 2 1, 3) := by decide +kernel
theorem dX10_placeOf_27 : decode cX10_placeOf 27 = .ok (.goto (-25), 3) := by decide +kernel
theorem dX10_placeOf_30 : decode cX10_placeOf 30 = .ok (.iconst (-1), 1) := by decide +kernel
theorem dX10_placeOf_31 : decode cX10_placeOf 31 = .ok (.ireturn, 1) := by decide +kernel
theorem dX10_orNone_0 : decode cX10_orNone 0 = .ok (.iload_n 0, 1) := by decide +kernel
theorem dX10_orNone_1 : decode cX10_orNone 1 = .ok (.iconst (-1), 1) := by decide +kernel
theorem dX10_orNone_2 : decode cX10_orNone 2 = .ok (.if_icmp .ne 8, 3) := by decide +kernel
theorem dX10_orNone_5 : decode cX10_orNone 5 = .ok (.bipush (-2), 2) := by decide +kernel
theorem dX10_orNone_7 : decode cX10_orNone 7 = .ok (.goto 4, 3) := by decide +kernel
theorem dX10_orNone_10 : decode cX10_orNone 10 = .ok (.iload_n 0, 1) := by decide +kernel
theorem dX10_orNone_11 : decode cX10_orNone 11 = .ok (.ireturn, 1) := by decide +kernel
theorem dX10_man_0 : decode cX10_man 0 = .ok (.aload_n 0, 1) := by decide +kernel
theorem dX10_man_1 : decode cX10_man 1 = .ok (.aload_n 0, 1) := by decide +kernel
theorem dX10_man_2 : decode cX10_man 2 = .ok (.iload_n 1, 1) := by decide +kernel
theorem dX10_man_3 : decode cX10_man 3 = .ok (.invokevirtual 413, 3) := by decide +kernel
theorem dX10_man_6 : decode cX10_man 6 = .ok (.ifCond .ne 7, 3) := by decide +kernel
theorem dX10_man_9 : decode cX10_man 9 = .ok (.iconst 1, 1) := by decide +kernel
theorem dX10_man_10 : decode cX10_man 10 = .ok (.goto 18, 3) := by decide +kernel
theorem dX10_man_13 : decode cX10_man 13 = .ok (.iload_n 2, 1) := by decide +kernel
theorem dX10_man_14 : decode cX10_man 14 = .ok (.ifCond .lt 9, 3) := by decide +kernel
theorem dX10_man_17 : decode cX10_man 17 = .ok (.iload_n 2, 1) := by decide +kernel
theorem dX10_man_18 : decode cX10_man 18 = .ok (.bipush 8, 2) := by decide +kernel
theorem dX10_man_20 : decode cX10_man 20 = .ok (.if_icmp .le 7, 3) := by decide +kernel
theorem dX10_man_23 : decode cX10_man 23 = .ok (.iconst 2, 1) := by decide +kernel
theorem dX10_man_24 : decode cX10_man 24 = .ok (.goto 4, 3) := by decide +kernel
theorem dX10_man_27 : decode cX10_man 27 = .ok (.iconst 0, 1) := by decide +kernel
theorem dX10_man_28 : decode cX10_man 28 = .ok (.putfield 154, 3) := by decide +kernel
theorem dX10_man_31 : decode cX10_man 31 = .ok (.aload_n 0, 1) := by decide +kernel
theorem dX10_man_32 : decode cX10_man 32 = .ok (.getfield 154, 3) := by decide +kernel
theorem dX10_man_35 : decode cX10_man 35 = .ok (.ifCond .eq 5, 3) := by decide +kernel
theorem dX10_man_38 : decode cX10_man 38 = .ok (.iconst 0, 1) := by decide +kernel
theorem dX10_man_39 : decode cX10_man 39 = .ok (.ireturn, 1) := by decide +kernel
theorem dX10_man_40 : decode cX10_man 40 = .ok (.iload_n 2, 1) := by decide +kernel
theorem dX10_man_41 : decode cX10_man 41 = .ok (.tableswitch 105 0 7 #[47, 54, 61, 68, 75, 82, 92, 99], 47) := by decide +kernel
theorem dX10_man_88 : decode cX10_man 88 = .ok (.aload_n 0, 1) := by decide +kernel
theorem dX10_man_89 : decode cX10_man 89 = .ok (.getfield 19, 3) := by decide +kernel
theorem dX10_man_92 : decode cX10_man 92 = .ok (.iload_n 1, 1) := by decide +kernel
theorem dX10_man_93 : decode cX10_man 93 = .ok (.iaload, 1) := by decide +kernel
theorem dX10_man_94 : decode cX10_man 94 = .ok (.ireturn, 1) := by decide +kernel
theorem dX10_man_95 : decode cX10_man 95 = .ok (.aload_n 0, 1) := by decide +kernel
theorem dX10_man_96 : decode cX10_man 96 = .ok (.getfield 87, 3) := by decide +kernel
theorem dX10_man_99 : decode cX10_man 99 = .ok (.iload_n 1, 1) := by decide +kernel
theorem dX10_man_100 : decode cX10_man 100 = .ok (.iaload, 1) := by decide +kernel
theorem dX10_man_101 : decode cX10_man 101 = .ok (.ireturn, 1) := by decide +kernel
theorem dX10_man_102 : decode cX10_man 102 = .ok (.aload_n 0, 1) := by decide +kernel
theorem dX10_man_103 : decode cX10_man 103 = .ok (.getfield 25, 3) := by decide +kernel
theorem dX10_man_106 : decode cX10_man 106 = .ok (.iload_n 1, 1) := by decide +kernel
theorem dX10_man_107 : decode cX10_man 107 = .ok (.iaload, 1) := by decide +kernel
theorem dX10_man_108 : decode cX10_man 108 = .ok (.ireturn, 1) := by decide +kernel
theorem dX10_man_109 : decode cX10_man 109 = .ok (.aload_n 0, 1) := by decide +kernel
theorem dX10_man_110 : decode cX10_man 110 = .ok (.getfield 90, 3) := by decide +kernel
theorem dX10_man_113 : decode cX10_man 113 = .ok (.iload_n 1, 1) := by decide +kernel
theorem dX10_man_114 : decode cX10_man 114 = .ok (.iaload, 1) := by decide +kernel
theorem dX10_man_115 : decode cX10_man 115 = .ok (.ireturn, 1) := by decide +kernel
theorem dX10_man_116 : decode cX10_man 116 = .ok (.aload_n 0, 1) := by decide +kernel
theorem dX10_man_117 : decode cX10_man 117 = .ok (.getfield 93, 3) := by decide +kernel
theorem dX10_man_120 : decode cX10_man 120 = .ok (.iload_n 1, 1) := by decide +kernel
theorem dX10_man_121 : decode cX10_man 121 = .ok (.iaload, 1) := by decide +kernel
theorem dX10_man_122 : decode cX10_man 122 = .ok (.ireturn, 1) := by decide +kernel
theorem dX10_man_123 : decode cX10_man 123 = .ok (.aload_n 0, 1) := by decide +kernel
theorem dX10_man_124 : decode cX10_man 124 = .ok (.getfield 96, 3) := by decide +kernel
theorem dX10_man_127 : decode cX10_man 127 = .ok (.iload_n 1, 1) := by decide +kernel
theorem dX10_man_128 : decode cX10_man 128 = .ok (.iaload, 1) := by decide +kernel
theorem dX10_man_129 : decode cX10_man 129 = .ok (.invokestatic 416, 3) := by decide +kernel
theorem dX10_man_132 : decode cX10_man 132 = .ok (.ireturn, 1) := by decide +kernel
theorem dX10_man_133 : decode cX10_man 133 = .ok (.aload_n 0, 1) := by decide +kernel
theorem dX10_man_134 : decode cX10_man 134 = .ok (.getfield 99, 3) := by decide +kernel
theorem dX10_man_137 : decode cX10_man 137 = .ok (.iload_n 1, 1) := by decide +kernel
theorem dX10_man_138 : decode cX10_man 138 = .ok (.iaload, 1) := by decide +kernel
theorem dX10_man_139 : decode cX10_man 139 = .ok (.ireturn, 1) := by decide +kernel
theorem dX10_man_140 : decode cX10_man 140 = .ok (.aload_n 0, 1) := by decide +kernel
theorem dX10_man_141 : decode cX10_man 141 = .ok (.iload_n 1, 1) := by decide +kernel
theorem dX10_man_142 : decode cX10_man 142 = .ok (.invokevirtual 419, 3) := by decide +kernel
theorem dX10_man_145 : decode cX10_man 145 = .ok (.ireturn, 1) := by decide +kernel
theorem dX10_man_146 : decode cX10_man 146 = .ok (.aload_n 0, 1) := by decide +kernel
theorem dX10_man_147 : decode cX10_man 147 = .ok (.getfield 102, 3) := by decide +kernel
theorem dX10_man_150 : decode cX10_man 150 = .ok (.iload_n 1, 1) := by decide +kernel
theorem dX10_man_151 : decode cX10_man 151 = .ok (.iaload, 1) := by decide +kernel
theorem dX10_man_152 : decode cX10_man 152 = .ok (.ireturn, 1) := by decide +kernel
theorem dX10_thing_0 : decode cX10_thing 0 = .ok (.aload_n 0, 1) := by decide +kernel
theorem dX10_thing_1 : decode cX10_thing 1 = .ok (.iconst 0, 1) := by decide +kernel
theorem dX10_thing_2 : decode cX10_thing 2 = .ok (.putfield 154, 3) := by decide +kernel
theorem dX10_thing_5 : decode cX10_thing 5 = .ok (.aload_n 0, 1) := by decide +kernel
theorem dX10_thing_6 : decode cX10_thing 6 = .ok (.iload_n 1, 1) := by decide +kernel
theorem dX10_thing_7 : decode cX10_thing 7 = .ok (.invokevirtual 422, 3) := by decide +kernel
theorem dX10_thing_10 : decode cX10_thing 10 = .ok (.ifCond .ne 5, 3) := by decide +kernel
theorem dX10_thing_13 : decode cX10_thing 13 = .ok (.iconst (-1), 1) := by decide +kernel
theorem dX10_thing_14 : decode cX10_thing 14 = .ok (.ireturn, 1) := by decide +kernel
theorem dX10_thing_15 : decode cX10_thing 15 = .ok (.iload_n 2, 1) := by decide +kernel
theorem dX10_thing_16 : decode cX10_thing 16 = .ok (.tableswitch 74 0 4 #[36, 43, 50, 57, 64], 36) := by decide +kernel
theorem dX10_thing_52 : decode cX10_thing 52 = .ok (.aload_n 0, 1) := by decide +kernel
theorem dX10_thing_53 : decode cX10_thing 53 = .ok (.getfield 31, 3) := by decide +kernel
theorem dX10_thing_56 : decode cX10_thing 56 = .ok (.iload_n 1, 1) := by decide +kernel
theorem dX10_thing_57 : decode cX10_thing 57 = .ok (.iaload, 1) := by decide +kernel
theorem dX10_thing_58 : decode cX10_thing 58 = .ok (.ireturn, 1) := by decide +kernel
theorem dX10_thing_59 : decode cX10_thing 59 = .ok (.aload_n 0, 1) := by decide +kernel
theorem dX10_thing_60 : decode cX10_thing 60 = .ok (.getfield 34, 3) := by decide +kernel
theorem dX10_thing_63 : decode cX10_thing 63 = .ok (.iload_n 1, 1) := by decide +kernel
theorem dX10_thing_64 : decode cX10_thing 64 = .ok (.iaload, 1) := by decide +kernel
theorem dX10_thing_65 : decode cX10_thing 65 = .ok (.ireturn, 1) := by decide +kernel
theorem dX10_thing_66 : decode cX10_thing 66 = .ok (.aload_n 0, 1) := by decide +kernel
theorem dX10_thing_67 : decode cX10_thing 67 = .ok (.getfield 111, 3) := by decide +kernel
theorem dX10_thing_70 : decode cX10_thing 70 = .ok (.iload_n 1, 1) := by decide +kernel
theorem dX10_thing_71 : decode cX10_thing 71 = .ok (.iaload, 1) := by decide +kernel
theorem dX10_thing_72 : decode cX10_thing 72 = .ok (.ireturn, 1) := by decide +kernel
theorem dX10_thing_73 : decode cX10_thing 73 = .ok (.aload_n 0, 1) := by decide +kernel
theorem dX10_thing_74 : decode cX10_thing 74 = .ok (.getfield 108, 3) := by decide +kernel
theorem dX10_thing_77 : decode cX10_thing 77 = .ok (.iload_n 1, 1) := by decide +kernel
theorem dX10_thing_78 : decode cX10_thing 78 = .ok (.iaload, 1) := by decide +kernel
theorem dX10_thing_79 : decode cX10_thing 79 = .ok (.ireturn, 1) := by decide +kernel
theorem dX10_thing_80 : decode cX10_thing 80 = .ok (.aload_n 0, 1) := by decide +kernel
theorem dX10_thing_81 : decode cX10_thing 81 = .ok (.iconst 0, 1) := by decide +kernel
theorem dX10_thing_82 : decode cX10_thing 82 = .ok (.iload_n 1, 1) := by decide +kernel
theorem dX10_thing_83 : decode cX10_thing 83 = .ok (.invokevirtual 337, 3) := by decide +kernel
theorem dX10_thing_86 : decode cX10_thing 86 = .ok (.invokestatic 416, 3) := by decide +kernel
theorem dX10_thing_89 : decode cX10_thing 89 = .ok (.ireturn, 1) := by decide +kernel
theorem dX10_thing_90 : decode cX10_thing 90 = .ok (.iconst (-1), 1) := by decide +kernel
theorem dX10_thing_91 : decode cX10_thing 91 = .ok (.ireturn, 1) := by decide +kernel
theorem dX10_law_0 : decode cX10_law 0 = .ok (.aload_n 0, 1) := by decide +kernel
theorem dX10_law_1 : decode cX10_law 1 = .ok (.iconst 0, 1) := by decide +kernel
theorem dX10_law_2 : decode cX10_law 2 = .ok (.putfield 154, 3) := by decide +kernel
theorem dX10_law_5 : decode cX10_law 5 = .ok (.iload_n 1, 1) := by decide +kernel
theorem dX10_law_6 : decode cX10_law 6 = .ok (.ifCond .lt 24, 3) := by decide +kernel
theorem dX10_law_9 : decode cX10_law 9 = .ok (.iload_n 1, 1) := by decide +kernel
theorem dX10_law_10 : decode cX10_law 10 = .ok (.iconst 2, 1) := by decide +kernel
theorem dX10_law_11 : decode cX10_law 11 = .ok (.if_icmp .gt 19, 3) := by decide +kernel
theorem dX10_law_14 : decode cX10_law 14 = .ok (.aload_n 0, 1) := by decide +kernel
theorem dX10_law_15 : decode cX10_law 15 = .ok (.iload_n 1, 1) := by decide +kernel
theorem dX10_law_16 : decode cX10_law 16 = .ok (.invokevirtual 344, 3) := by decide +kernel
theorem dX10_law_19 : decode cX10_law 19 = .ok (.ifCond .eq 11, 3) := by decide +kernel
theorem dX10_law_22 : decode cX10_law 22 = .ok (.aload_n 0, 1) := by decide +kernel
theorem dX10_law_23 : decode cX10_law 23 = .ok (.iload_n 2, 1) := by decide +kernel
theorem dX10_law_24 : decode cX10_law 24 = .ok (.invokevirtual 413, 3) := by decide +kernel
theorem dX10_law_27 : decode cX10_law 27 = .ok (.ifCond .ne 7, 3) := by decide +kernel
theorem dX10_law_30 : decode cX10_law 30 = .ok (.ldc2_w 427, 3) := by decide +kernel
theorem dX10_law_33 : decode cX10_law 33 = .ok (.lreturn, 1) := by decide +kernel
theorem dX10_law_34 : decode cX10_law 34 = .ok (.aload_n 0, 1) := by decide +kernel
theorem dX10_law_35 : decode cX10_law 35 = .ok (.iconst 0, 1) := by decide +kernel
theorem dX10_law_36 : decode cX10_law 36 = .ok (.iload_n 2, 1) := by decide +kernel
theorem dX10_law_37 : decode cX10_law 37 = .ok (.iload_n 1, 1) := by decide +kernel
theorem dX10_law_38 : decode cX10_law 38 = .ok (.ifCond .ne 11, 3) := by decide +kernel
theorem dX10_law_41 : decode cX10_law 41 = .ok (.aload_n 0, 1) := by decide +kernel
theorem dX10_law_42 : decode cX10_law 42 = .ok (.iconst 0, 1) := by decide +kernel
theorem dX10_law_43 : decode cX10_law 43 = .ok (.invokevirtual 357, 3) := by decide +kernel
theorem dX10_law_46 : decode cX10_law 46 = .ok (.goto 9, 3) := by decide +kernel
theorem dX10_law_49 : decode cX10_law 49 = .ok (.aload_n 0, 1) := by decide +kernel
theorem dX10_law_50 : decode cX10_law 50 = .ok (.getfield 96, 3) := by decide +kernel
theorem dX10_law_53 : decode cX10_law 53 = .ok (.iload_n 2, 1) := by decide +kernel
theorem dX10_law_54 : decode cX10_law 54 = .ok (.iaload, 1) := by decide +kernel
theorem dX10_law_55 : decode cX10_law 55 = .ok (.iconst 0, 1) := by decide +kernel
theorem dX10_law_56 : decode cX10_law 56 = .ok (.invokevirtual 340, 3) := by decide +kernel
theorem dX10_law_59 : decode cX10_law 59 = .ok (.aload_n 0, 1) := by decide +kernel
theorem dX10_law_60 : decode cX10_law 60 = .ok (.iload_n 1, 1) := by decide +kernel
theorem dX10_law_61 : decode cX10_law 61 = .ok (.invokevirtual 347, 3) := by decide +kernel
theorem dX10_law_64 : decode cX10_law 64 = .ok (.ifCond .eq 12, 3) := by decide +kernel
theorem dX10_law_67 : decode cX10_law 67 = .ok (.aload_n 0, 1) := by decide +kernel
theorem dX10_law_68 : decode cX10_law 68 = .ok (.getfield 69, 3) := by decide +kernel
theorem dX10_law_71 : decode cX10_law 71 = .ok (.iconst 0, 1) := by decide +kernel
theorem dX10_law_72 : decode cX10_law 72 = .ok (.laload, 1) := by decide +kernel
theorem dX10_law_73 : decode cX10_law 73 = .ok (.goto 6, 3) := by decide +kernel
theorem dX10_law_76 : decode cX10_law 76 = .ok (.ldc2_w 427, 3) := by decide +kernel
theorem dX10_law_79 : decode cX10_law 79 = .ok (.lreturn, 1) := by decide +kernel
theorem dX10_keepNow_0 : decode cX10_keepNow 0 = .ok (.aload_n 0, 1) := by decide +kernel
theorem dX10_keepNow_1 : decode cX10_keepNow 1 = .ok (.getfield 311, 3) := by decide +kernel
theorem dX10_keepNow_4 : decode cX10_keepNow 4 = .ok (.bipush 20, 2) := by decide +kernel
theorem dX10_keepNow_6 : decode cX10_keepNow 6 = .ok (.if_icmp .ne 39, 3) := by decide +kernel
theorem dX10_keepNow_9 : decode cX10_keepNow 9 = .ok (.iconst 1, 1) := by decide +kernel
theorem dX10_keepNow_10 : decode cX10_keepNow 10 = .ok (.istore_n 1, 1) := by decide +kernel
theorem dX10_keepNow_11 : decode cX10_keepNow 11 = .ok (.iload_n 1, 1) := by decide +kernel
theorem dX10_keepNow_12 : decode cX10_keepNow 12 = .ok (.bipush 20, 2) := by decide +kernel
theorem dX10_keepNow_14 : decode cX10_keepNow 14 = .ok (.if_icmp .ge 21, 3) := by decide +kernel
theorem dX10_keepNow_17 : decode cX10_keepNow 17 = .ok (.aload_n 0, 1) := by decide +kernel
theorem dX10_keepNow_18 : decode cX10_keepNow 18 = .ok (.iconst 3, 1) := by decide +kernel
theorem dX10_keepNow_19 : decode cX10_keepNow 19 = .ok (.iload_n 1, 1) := by decide +kernel
theorem dX10_keepNow_20 : decode cX10_keepNow 20 = .ok (.iadd, 1) := by decide +kernel
theorem dX10_keepNow_21 : decode cX10_keepNow 21 = .ok (.iconst 1, 1) := by decide +kernel
theorem dX10_keepNow_22 : decode cX10_keepNow 22 = .ok (.isub, 1) := by decide +kernel
theorem dX10_keepNow_23 : decode cX10_keepNow 23 = .ok (.iconst 3, 1) := by decide +kernel
theorem dX10_keepNow_24 : decode cX10_keepNow 24 = .ok (.iload_n 1, 1) := by decide +kernel
theorem dX10_keepNow_25 : decode cX10_keepNow 25 = .ok (.iadd, 1) := by decide +kernel
theorem dX10_keepNow_26 : decode cX10_keepNow 26 = .ok (.invokevirtual 407, 3) := by decide +kernel
theorem dX10_keepNow_29 : decode cX10_keepNow 29 = .ok (.iinc 1 1, 3) := by decide +kernel
theorem dX10_keepNow_32 : decode cX10_keepNow 32 = .ok (.goto (-21), 3) := by decide +kernel
theorem dX10_keepNow_35 : decode cX10_keepNow 35 = .ok (.aload_n 0, 1) := by decide +kernel
theorem dX10_keepNow_36 : decode cX10_keepNow 36 = .ok (.dup, 1) := by decide +kernel
theorem dX10_keepNow_37 : decode cX10_keepNow 37 = .ok (.getfield 311, 3) := by decide +kernel
theorem dX10_keepNow_40 : decode cX10_keepNow 40 = .ok (.iconst 1, 1) := by decide +kernel
theorem dX10_keepNow_41 : decode cX10_keepNow 41 = .ok (.isub, 1) := by decide +kernel
theorem dX10_keepNow_42 : decode cX10_keepNow 42 = .ok (.putfield 311, 3) := by decide +kernel
theorem dX10_keepNow_45 : decode cX10_keepNow 45 = .ok (.aload_n 0, 1) := by decide +kernel
theorem dX10_keepNow_46 : decode cX10_keepNow 46 = .ok (.iconst 3, 1) := by decide +kernel
theorem dX10_keepNow_47 : decode cX10_keepNow 47 = .ok (.aload_n 0, 1) := by decide +kernel
theorem dX10_keepNow_48 : decode cX10_keepNow 48 = .ok (.getfield 311, 3) := by decide +kernel
theorem dX10_keepNow_51 : decode cX10_keepNow 51 = .ok (.iadd, 1) := by decide +kernel
theorem dX10_keepNow_52 : decode cX10_keepNow 52 = .ok (.iconst 0, 1) := by decide +kernel
theorem dX10_keepNow_53 : decode cX10_keepNow 53 = .ok (.invokevirtual 407, 3) := by decide +kernel
theorem dX10_keepNow_56 : decode cX10_keepNow 56 = .ok (.aload_n 0, 1) := by decide +kernel
theorem dX10_keepNow_57 : decode cX10_keepNow 57 = .ok (.dup, 1) := by decide +kernel
theorem dX10_keepNow_58 : decode cX10_keepNow 58 = .ok (.getfield 311, 3) := by decide +kernel
theorem dX10_keepNow_61 : decode cX10_keepNow 61 = .ok (.iconst 1, 1) := by decide +kernel
theorem dX10_keepNow_62 : decode cX10_keepNow 62 = .ok (.iadd, 1) := by decide +kernel
theorem dX10_keepNow_63 : decode cX10_keepNow 63 = .ok (.putfield 311, 3) := by decide +kernel
theorem dX10_keepNow_66 : decode cX10_keepNow 66 = .ok (.return_, 1) := by decide +kernel
theorem dX10_pay_0 : decode cX10_pay 0 = .ok (.aload_n 0, 1) := by decide +kernel
theorem dX10_pay_1 : decode cX10_pay 1 = .ok (.iconst 0, 1) := by decide +kernel
theorem dX10_pay_2 : decode cX10_pay 2 = .ok (.putfield 154, 3) := by decide +kernel
theorem dX10_pay_5 : decode cX10_pay 5 = .ok (.aload_n 0, 1) := by decide +kernel
theorem dX10_pay_6 : decode cX10_pay 6 = .ok (.iload_n 1, 1) := by decide +kernel
theorem dX10_pay_7 : decode cX10_pay 7 = .ok (.invokevirtual 413, 3) := by decide +kernel
theorem dX10_pay_10 : decode cX10_pay 10 = .ok (.ifCond .eq 14, 3) := by decide +kernel
theorem dX10_pay_13 : decode cX10_pay 13 = .ok (.iload_n 2, 1) := by decide +kernel
theorem dX10_pay_14 : decode cX10_pay 14 = .ok (.iconst 1, 1) := by decide +kernel
theorem dX10_pay_15 : decode cX10_pay 15 = .ok (.if_icmp .lt 9, 3) := by decide +kernel
theorem dX10_pay_18 : decode cX10_pay 18 = .ok (.iload_n 2, 1) := by decide +kernel
theorem dX10_pay_19 : decode cX10_pay 19 = .ok (.bipush 99, 2) := by decide +kernel
theorem dX10_pay_21 : decode cX10_pay 21 = .ok (.if_icmp .le 5, 3) := by decide +kernel
theorem dX10_pay_24 : decode cX10_pay 24 = .ok (.iconst (-1), 1) := by decide +kernel
theorem dX10_pay_25 : decode cX10_pay 25 = .ok (.ireturn, 1) := by decide +kernel
theorem dX10_pay_26 : decode cX10_pay 26 = .ok (.aload_n 0, 1) := by decide +kernel
theorem dX10_pay_27 : decode cX10_pay 27 = .ok (.getfield 81, 3) := by decide +kernel
theorem dX10_pay_30 : decode cX10_pay 30 = .ok (.iconst 0, 1) := by decide +kernel
theorem dX10_pay_31 : decode cX10_pay 31 = .ok (.iaload, 1) := by decide +kernel
theorem dX10_pay_32 : decode cX10_pay 32 = .ok (.iload_n 2, 1) := by decide +kernel
theorem dX10_pay_33 : decode cX10_pay 33 = .ok (.if_icmp .ge 6, 3) := by decide +kernel
theorem dX10_pay_36 : decode cX10_pay 36 = .ok (.bipush (-2), 2) := by decide +kernel
theorem dX10_pay_38 : decode cX10_pay 38 = .ok (.ireturn, 1) := by decide +kernel
theorem dX10_pay_39 : decode cX10_pay 39 = .ok (.aload_n 0, 1) := by decide +kernel
theorem dX10_pay_40 : decode cX10_pay 40 = .ok (.invokevirtual 429, 3) := by decide +kernel
theorem dX10_pay_43 : decode cX10_pay 43 = .ok (.aload_n 0, 1) := by decide +kernel
theorem dX10_pay_44 : decode cX10_pay 44 = .ok (.getfield 81, 3) := by decide +kernel
theorem dX10_pay_47 : decode cX10_pay 47 = .ok (.iconst 0, 1) := by decide +kernel
theorem dX10_pay_48 : decode cX10_pay 48 = .ok (.dup2, 1) := by decide +kernel
theorem dX10_pay_49 : decode cX10_pay 49 = .ok (.iaload, 1) := by decide +kernel
theorem dX10_pay_50 : decode cX10_pay 50 = .ok (.iload_n 2, 1) := by decide +kernel
theorem dX10_pay_51 : decode cX10_pay 51 = .ok (.isub, 1) := by decide +kernel
theorem dX10_pay_52 : decode cX10_pay 52 = .ok (.iastore, 1) := by decide +kernel
theorem dX10_pay_53 : decode cX10_pay 53 = .ok (.aload_n 0, 1) := by decide +kernel
theorem dX10_pay_54 : decode cX10_pay 54 = .ok (.getfield 90, 3) := by decide +kernel
theorem dX10_pay_57 : decode cX10_pay 57 = .ok (.iload_n 1, 1) := by decide +kernel
theorem dX10_pay_58 : decode cX10_pay 58 = .ok (.dup2, 1) := by decide +kernel
theorem dX10_pay_59 : decode cX10_pay 59 = .ok (.iaload, 1) := by decide +kernel
theorem dX10_pay_60 : decode cX10_pay 60 = .ok (.iload_n 2, 1) := by decide +kernel
theorem dX10_pay_61 : decode cX10_pay 61 = .ok (.iadd, 1) := by decide +kernel
theorem dX10_pay_62 : decode cX10_pay 62 = .ok (.iastore, 1) := by decide +kernel
theorem dX10_pay_63 : decode cX10_pay 63 = .ok (.aload_n 0, 1) := by decide +kernel
theorem dX10_pay_64 : decode cX10_pay 64 = .ok (.getfield 81, 3) := by decide +kernel
theorem dX10_pay_67 : decode cX10_pay 67 = .ok (.iconst 0, 1) := by decide +kernel
theorem dX10_pay_68 : decode cX10_pay 68 = .ok (.iaload, 1) := by decide +kernel
theorem dX10_pay_69 : decode cX10_pay 69 = .ok (.ireturn, 1) := by decide +kernel
theorem dX10_swap_0 : decode cX10_swap 0 = .ok (.aload_n 0, 1) := by decide +kernel
theorem dX10_swap_1 : decode cX10_swap 1 = .ok (.iconst 0, 1) := by decide +kernel
theorem dX10_swap_2 : decode cX10_swap 2 = .ok (.putfield 154, 3) := by decide +kernel
theorem dX10_swap_5 : decode cX10_swap 5 = .ok (.aload_n 0, 1) := by decide +kernel
theorem dX10_swap_6 : decode cX10_swap 6 = .ok (.iload_n 1, 1) := by decide +kernel
theorem dX10_swap_7 : decode cX10_swap 7 = .ok (.invokevirtual 413, 3) := by decide +kernel
theorem dX10_swap_10 : decode cX10_swap 10 = .ok (.ifCond .eq 16, 3) := by decide +kernel
theorem dX10_swap_13 : decode cX10_swap 13 = .ok (.aload_n 0, 1) := by decide +kernel
theorem dX10_swap_14 : decode cX10_swap 14 = .ok (.iload_n 2, 1) := by decide +kernel
theorem dX10_swap_15 : decode cX10_swap 15 = .ok (.invokevirtual 413, 3) := by decide +kernel
theorem dX10_swap_18 : decode cX10_swap 18 = .ok (.ifCond .eq 8, 3) := by decide +kernel
theorem dX10_swap_21 : decode cX10_swap 21 = .ok (.iload_n 1, 1) := by decide +kernel
theorem dX10_swap_22 : decode cX10_swap 22 = .ok (.iload_n 2, 1) := by decide +kernel
theorem dX10_swap_23 : decode cX10_swap 23 = .ok (.if_icmp .ne 5, 3) := by decide +kernel
theorem dX10_swap_26 : decode cX10_swap 26 = .ok (.iconst 0, 1) := by decide +kernel
theorem dX10_swap_27 : decode cX10_swap 27 = .ok (.ireturn, 1) := by decide +kernel
theorem dX10_swap_28 : decode cX10_swap 28 = .ok (.aload_n 0, 1) := by decide +kernel
theorem dX10_swap_29 : decode cX10_swap 29 = .ok (.invokevirtual 429, 3) := by decide +kernel
theorem dX10_swap_32 : decode cX10_swap 32 = .ok (.aload_n 0, 1) := by decide +kernel
theorem dX10_swap_33 : decode cX10_swap 33 = .ok (.iload_n 1, 1) := by decide +kernel
theorem dX10_swap_34 : decode cX10_swap 34 = .ok (.invokevirtual 419, 3) := by decide +kernel
theorem dX10_swap_37 : decode cX10_swap 37 = .ok (.istore_n 3, 1) := by decide +kernel
theorem dX10_swap_38 : decode cX10_swap 38 = .ok (.aload_n 0, 1) := by decide +kernel
theorem dX10_swap_39 : decode cX10_swap 39 = .ok (.iload_n 2, 1) := by decide +kernel
theorem dX10_swap_40 : decode cX10_swap 40 = .ok (.invokevirtual 419, 3) := by decide +kernel
theorem dX10_swap_43 : decode cX10_swap 43 = .ok (.istore 4, 2) := by decide +kernel
theorem dX10_swap_45 : decode cX10_swap 45 = .ok (.aload_n 0, 1) := by decide +kernel
theorem dX10_swap_46 : decode cX10_swap 46 = .ok (.getfield 105, 3) := by decide +kernel
theorem dX10_swap_49 : decode cX10_swap 49 = .ok (.iload_n 3, 1) := by decide +kernel
theorem dX10_swap_50 : decode cX10_swap 50 = .ok (.iload_n 2, 1) := by decide +kernel
theorem dX10_swap_51 : decode cX10_swap 51 = .ok (.iastore, 1) := by decide +kernel
theorem dX10_swap_52 : decode cX10_swap 52 = .ok (.aload_n 0, 1) := by decide +kernel
theorem dX10_swap_53 : decode cX10_swap 53 = .ok (.getfield 105, 3) := by decide +kernel
theorem dX10_swap_56 : decode cX10_swap 56 = .ok (.iload 4, 2) := by decide +kernel
theorem dX10_swap_58 : decode cX10_swap 58 = .ok (.iload_n 1, 1) := by decide +kernel
theorem dX10_swap_59 : decode cX10_swap 59 = .ok (.iastore, 1) := by decide +kernel
theorem dX10_swap_60 : decode cX10_swap 60 = .ok (.iconst 1, 1) := by decide +kernel
theorem dX10_swap_61 : decode cX10_swap 61 = .ok (.ireturn, 1) := by decide +kernel
theorem dX10_hold_0 : decode cX10_hold 0 = .ok (.aload_n 0, 1) := by decide +kernel
theorem dX10_hold_1 : decode cX10_hold 1 = .ok (.iconst 0, 1) := by decide +kernel
theorem dX10_hold_2 : decode cX10_hold 2 = .ok (.putfield 154, 3) := by decide +kernel
theorem dX10_hold_5 : decode cX10_hold 5 = .ok (.aload_n 0, 1) := by decide +kernel
theorem dX10_hold_6 : decode cX10_hold 6 = .ok (.iload_n 1, 1) := by decide +kernel
theorem dX10_hold_7 : decode cX10_hold 7 = .ok (.invokevirtual 413, 3) := by decide +kernel
theorem dX10_hold_10 : decode cX10_hold 10 = .ok (.ifCond .eq 22, 3) := by decide +kernel
theorem dX10_hold_13 : decode cX10_hold 13 = .ok (.aload_n 0, 1) := by decide +kernel
theorem dX10_hold_14 : decode cX10_hold 14 = .ok (.getfield 102, 3) := by decide +kernel
theorem dX10_hold_17 : decode cX10_hold 17 = .ok (.iload_n 1, 1) := by decide +kernel
theorem dX10_hold_18 : decode cX10_hold 18 = .ok (.iaload, 1) := by decide +kernel
theorem dX10_hold_19 : decode cX10_hold 19 = .ok (.iconst 1, 1) := by decide +kernel
theorem dX10_hold_20 : decode cX10_hold 20 = .ok (.if_icmp .ne 7, 3) := by decide +kernel
theorem dX10_hold_23 : decode cX10_hold 23 = .ok (.iconst 1, 1) := by decide +kernel
theorem dX10_hold_24 : decode cX10_hold 24 = .ok (.goto 4, 3) := by decide +kernel
theorem dX10_hold_27 : decode cX10_hold 27 = .ok (.iconst 0, 1) := by decide +kernel
theorem dX10_hold_28 : decode cX10_hold 28 = .ok (.iload_n 2, 1) := by decide +kernel
theorem dX10_hold_29 : decode cX10_hold 29 = .ok (.if_icmp .ne 5, 3) := by decide +kernel
theorem dX10_hold_32 : decode cX10_hold 32 = .ok (.iconst 0, 1) := by decide +kernel
theorem dX10_hold_33 : decode cX10_hold 33 = .ok (.ireturn, 1) := by decide +kernel
theorem dX10_hold_34 : decode cX10_hold 34 = .ok (.aload_n 0, 1) := by decide +kernel
theorem dX10_hold_35 : decode cX10_hold 35 = .ok (.invokevirtual 429, 3) := by decide +kernel
theorem dX10_hold_38 : decode cX10_hold 38 = .ok (.aload_n 0, 1) := by decide +kernel
theorem dX10_hold_39 : decode cX10_hold 39 = .ok (.getfield 102, 3) := by decide +kernel
theorem dX10_hold_42 : decode cX10_hold 42 = .ok (.iload_n 1, 1) := by decide +kernel
theorem dX10_hold_43 : decode cX10_hold 43 = .ok (.iload_n 2, 1) := by decide +kernel
theorem dX10_hold_44 : decode cX10_hold 44 = .ok (.ifCond .eq 7, 3) := by decide +kernel
