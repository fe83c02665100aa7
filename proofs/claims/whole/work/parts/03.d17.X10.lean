theorem dX10_starts_129 : decode cX10_starts 129 = .ok (.iinc 2 1, 3) := by decide +kernel
theorem dX10_starts_132 : decode cX10_starts 132 = .ok (.goto (-84), 3) := by decide +kernel
theorem dX10_starts_135 : decode cX10_starts 135 = .ok (.iconst 0, 1) := by decide +kernel
theorem dX10_starts_136 : decode cX10_starts 136 = .ok (.istore_n 2, 1) := by decide +kernel
theorem dX10_starts_137 : decode cX10_starts 137 = .ok (.iload_n 2, 1) := by decide +kernel
theorem dX10_starts_138 : decode cX10_starts 138 = .ok (.bipush 8, 2) := by decide +kernel
theorem dX10_starts_140 : decode cX10_starts 140 = .ok (.if_icmp .ge 52, 3) := by decide +kernel
theorem dX10_starts_143 : decode cX10_starts 143 = .ok (.aload_n 0, 1) := by decide +kernel
theorem dX10_starts_144 : decode cX10_starts 144 = .ok (.getfield 108, 3) := by decide +kernel
theorem dX10_starts_147 : decode cX10_starts 147 = .ok (.bipush 8, 2) := by decide +kernel
theorem dX10_starts_149 : decode cX10_starts 149 = .ok (.iload_n 1, 1) := by decide +kernel
theorem dX10_starts_150 : decode cX10_starts 150 = .ok (.imul, 1) := by decide +kernel
theorem dX10_starts_151 : decode cX10_starts 151 = .ok (.iload_n 2, 1) := by decide +kernel
theorem dX10_starts_152 : decode cX10_starts 152 = .ok (.iadd, 1) := by decide +kernel
theorem dX10_starts_153 : decode cX10_starts 153 = .ok (.iconst 0, 1) := by decide +kernel
theorem dX10_starts_154 : decode cX10_starts 154 = .ok (.iastore, 1) := by decide +kernel
theorem dX10_starts_155 : decode cX10_starts 155 = .ok (.aload_n 0, 1) := by decide +kernel
theorem dX10_starts_156 : decode cX10_starts 156 = .ok (.getfield 111, 3) := by decide +kernel
theorem dX10_starts_159 : decode cX10_starts 159 = .ok (.bipush 8, 2) := by decide +kernel
theorem dX10_starts_161 : decode cX10_starts 161 = .ok (.iload_n 1, 1) := by decide +kernel
theorem dX10_starts_162 : decode cX10_starts 162 = .ok (.imul, 1) := by decide +kernel
theorem dX10_starts_163 : decode cX10_starts 163 = .ok (.iload_n 2, 1) := by decide +kernel
theorem dX10_starts_164 : decode cX10_starts 164 = .ok (.iadd, 1) := by decide +kernel
theorem dX10_starts_165 : decode cX10_starts 165 = .ok (.iload_n 2, 1) := by decide +kernel
theorem dX10_starts_166 : decode cX10_starts 166 = .ok (.aload_n 0, 1) := by decide +kernel
theorem dX10_starts_167 : decode cX10_starts 167 = .ok (.getfield 13, 3) := by decide +kernel
theorem dX10_starts_170 : decode cX10_starts 170 = .ok (.iconst 1, 1) := by decide +kernel
theorem dX10_starts_171 : decode cX10_starts 171 = .ok (.iaload, 1) := by decide +kernel
theorem dX10_starts_172 : decode cX10_starts 172 = .ok (.if_icmp .ge 12, 3) := by decide +kernel
theorem dX10_starts_175 : decode cX10_starts 175 = .ok (.aload_n 0, 1) := by decide +kernel
theorem dX10_starts_176 : decode cX10_starts 176 = .ok (.getfield 37, 3) := by decide +kernel
theorem dX10_starts_179 : decode cX10_starts 179 = .ok (.iload_n 2, 1) := by decide +kernel
theorem dX10_starts_180 : decode cX10_starts 180 = .ok (.iaload, 1) := by decide +kernel
theorem dX10_starts_181 : decode cX10_starts 181 = .ok (.goto 4, 3) := by decide +kernel
theorem dX10_starts_184 : decode cX10_starts 184 = .ok (.iconst 0, 1) := by decide +kernel
theorem dX10_starts_185 : decode cX10_starts 185 = .ok (.iastore, 1) := by decide +kernel
theorem dX10_starts_186 : decode cX10_starts 186 = .ok (.iinc 2 1, 3) := by decide +kernel
theorem dX10_starts_189 : decode cX10_starts 189 = .ok (.goto (-52), 3) := by decide +kernel
theorem dX10_starts_192 : decode cX10_starts 192 = .ok (.return_, 1) := by decide +kernel
theorem dX10_begins_0 : decode cX10_begins 0 = .ok (.aload_n 0, 1) := by decide +kernel
theorem dX10_begins_1 : decode cX10_begins 1 = .ok (.iconst 0, 1) := by decide +kernel
theorem dX10_begins_2 : decode cX10_begins 2 = .ok (.invokevirtual 334, 3) := by decide +kernel
theorem dX10_begins_5 : decode cX10_begins 5 = .ok (.return_, 1) := by decide +kernel
theorem dX10_copies_0 : decode cX10_copies 0 = .ok (.aload_n 0, 1) := by decide +kernel
theorem dX10_copies_1 : decode cX10_copies 1 = .ok (.getfield 72, 3) := by decide +kernel
theorem dX10_copies_4 : decode cX10_copies 4 = .ok (.iload_n 1, 1) := by decide +kernel
theorem dX10_copies_5 : decode cX10_copies 5 = .ok (.aload_n 0, 1) := by decide +kernel
theorem dX10_copies_6 : decode cX10_copies 6 = .ok (.getfield 72, 3) := by decide +kernel
theorem dX10_copies_9 : decode cX10_copies 9 = .ok (.iload_n 2, 1) := by decide +kernel
theorem dX10_copies_10 : decode cX10_copies 10 = .ok (.iaload, 1) := by decide +kernel
theorem dX10_copies_11 : decode cX10_copies 11 = .ok (.iastore, 1) := by decide +kernel
theorem dX10_copies_12 : decode cX10_copies 12 = .ok (.aload_n 0, 1) := by decide +kernel
theorem dX10_copies_13 : decode cX10_copies 13 = .ok (.getfield 75, 3) := by decide +kernel
theorem dX10_copies_16 : decode cX10_copies 16 = .ok (.iload_n 1, 1) := by decide +kernel
theorem dX10_copies_17 : decode cX10_copies 17 = .ok (.aload_n 0, 1) := by decide +kernel
theorem dX10_copies_18 : decode cX10_copies 18 = .ok (.getfield 75, 3) := by decide +kernel
theorem dX10_copies_21 : decode cX10_copies 21 = .ok (.iload_n 2, 1) := by decide +kernel
theorem dX10_copies_22 : decode cX10_copies 22 = .ok (.iaload, 1) := by decide +kernel
theorem dX10_copies_23 : decode cX10_copies 23 = .ok (.iastore, 1) := by decide +kernel
theorem dX10_copies_24 : decode cX10_copies 24 = .ok (.aload_n 0, 1) := by decide +kernel
theorem dX10_copies_25 : decode cX10_copies 25 = .ok (.getfield 78, 3) := by decide +kernel
theorem dX10_copies_28 : decode cX10_copies 28 = .ok (.iload_n 1, 1) := by decide +kernel
theorem dX10_copies_29 : decode cX10_copies 29 = .ok (.aload_n 0, 1) := by decide +kernel
theorem dX10_copies_30 : decode cX10_copies 30 = .ok (.getfield 78, 3) := by decide +kernel
theorem dX10_copies_33 : decode cX10_copies 33 = .ok (.iload_n 2, 1) := by decide +kernel
theorem dX10_copies_34 : decode cX10_copies 34 = .ok (.iaload, 1) := by decide +kernel
theorem dX10_copies_35 : decode cX10_copies 35 = .ok (.iastore, 1) := by decide +kernel
theorem dX10_copies_36 : decode cX10_copies 36 = .ok (.aload_n 0, 1) := by decide +kernel
theorem dX10_copies_37 : decode cX10_copies 37 = .ok (.getfield 81, 3) := by decide +kernel
theorem dX10_copies_40 : decode cX10_copies 40 = .ok (.iload_n 1, 1) := by decide +kernel
theorem dX10_copies_41 : decode cX10_copies 41 = .ok (.aload_n 0, 1) := by decide +kernel
theorem dX10_copies_42 : decode cX10_copies 42 = .ok (.getfield 81, 3) := by decide +kernel
theorem dX10_copies_45 : decode cX10_copies 45 = .ok (.iload_n 2, 1) := by decide +kernel
theorem dX10_copies_46 : decode cX10_copies 46 = .ok (.iaload, 1) := by decide +kernel
theorem dX10_copies_47 : decode cX10_copies 47 = .ok (.iastore, 1) := by decide +kernel
theorem dX10_copies_48 : decode cX10_copies 48 = .ok (.aload_n 0, 1) := by decide +kernel
theorem dX10_copies_49 : decode cX10_copies 49 = .ok (.getfield 84, 3) := by decide +kernel
theorem dX10_copies_52 : decode cX10_copies 52 = .ok (.iload_n 1, 1) := by decide +kernel
theorem dX10_copies_53 : decode cX10_copies 53 = .ok (.aload_n 0, 1) := by decide +kernel
theorem dX10_copies_54 : decode cX10_copies 54 = .ok (.getfield 84, 3) := by decide +kernel
theorem dX10_copies_57 : decode cX10_copies 57 = .ok (.iload_n 2, 1) := by decide +kernel
theorem dX10_copies_58 : decode cX10_copies 58 = .ok (.iaload, 1) := by decide +kernel
theorem dX10_copies_59 : decode cX10_copies 59 = .ok (.iastore, 1) := by decide +kernel
theorem dX10_copies_60 : decode cX10_copies 60 = .ok (.iconst 0, 1) := by decide +kernel
theorem dX10_copies_61 : decode cX10_copies 61 = .ok (.istore_n 3, 1) := by decide +kernel
theorem dX10_copies_62 : decode cX10_copies 62 = .ok (.iload_n 3, 1) := by decide +kernel
theorem dX10_copies_63 : decode cX10_copies 63 = .ok (.bipush 6, 2) := by decide +kernel
theorem dX10_copies_65 : decode cX10_copies 65 = .ok (.if_icmp .ge 123, 3) := by decide +kernel
theorem dX10_copies_68 : decode cX10_copies 68 = .ok (.bipush 6, 2) := by decide +kernel
theorem dX10_copies_70 : decode cX10_copies 70 = .ok (.iload_n 1, 1) := by decide +kernel
theorem dX10_copies_71 : decode cX10_copies 71 = .ok (.imul, 1) := by decide +kernel
theorem dX10_copies_72 : decode cX10_copies 72 = .ok (.iload_n 3, 1) := by decide +kernel
theorem dX10_copies_73 : decode cX10_copies 73 = .ok (.iadd, 1) := by decide +kernel
theorem dX10_copies_74 : decode cX10_copies 74 = .ok (.istore 4, 2) := by decide +kernel
theorem dX10_copies_76 : decode cX10_copies 76 = .ok (.bipush 6, 2) := by decide +kernel
theorem dX10_copies_78 : decode cX10_copies 78 = .ok (.iload_n 2, 1) := by decide +kernel
theorem dX10_copies_79 : decode cX10_copies 79 = .ok (.imul, 1) := by decide +kernel
theorem dX10_copies_80 : decode cX10_copies 80 = .ok (.iload_n 3, 1) := by decide +kernel
theorem dX10_copies_81 : decode cX10_copies 81 = .ok (.iadd, 1) := by decide +kernel
theorem dX10_copies_82 : decode cX10_copies 82 = .ok (.istore 5, 2) := by decide +kernel
theorem dX10_copies_84 : decode cX10_copies 84 = .ok (.aload_n 0, 1) := by decide +kernel
theorem dX10_copies_85 : decode cX10_copies 85 = .ok (.getfield 87, 3) := by decide +kernel
theorem dX10_copies_88 : decode cX10_copies 88 = .ok (.iload 4, 2) := by decide +kernel
theorem dX10_copies_90 : decode cX10_copies 90 = .ok (.aload_n 0, 1) := by decide +kernel
theorem dX10_copies_91 : decode cX10_copies 91 = .ok (.getfield 87, 3) := by decide +kernel
theorem dX10_copies_94 : decode cX10_copies 94 = .ok (.iload 5, 2) := by decide +kernel
theorem dX10_copies_96 : decode cX10_copies 96 = .ok (.iaload, 1) := by decide +kernel
theorem dX10_copies_97 : decode cX10_copies 97 = .ok (.iastore, 1) := by decide +kernel
theorem dX10_copies_98 : decode cX10_copies 98 = .ok (.aload_n 0, 1) := by decide +kernel
theorem dX10_copies_99 : decode cX10_copies 99 = .ok (.getfield 90, 3) := by decide +kernel
theorem dX10_copies_102 : decode cX10_copies 102 = .ok (.iload 4, 2) := by decide +kernel
theorem dX10_copies_104 : decode cX10_copies 104 = .ok (.aload_n 0, 1) := by decide +kernel
theorem dX10_copies_105 : decode cX10_copies 105 = .ok (.getfield 90, 3) := by decide +kernel
theorem dX10_copies_108 : decode cX10_copies 108 = .ok (.iload 5, 2) := by decide +kernel
theorem dX10_copies_110 : decode cX10_copies 110 = .ok (.iaload, 1) := by decide +kernel
theorem dX10_copies_111 : decode cX10_copies 111 = .ok (.iastore, 1) := by decide +kernel
theorem dX10_copies_112 : decode cX10_copies 112 = .ok (.aload_n 0, 1) := by decide +kernel
theorem dX10_copies_113 : decode cX10_copies 113 = .ok (.getfield 93, 3) := by decide +kernel
theorem dX10_copies_116 : decode cX10_copies 116 = .ok (.iload 4, 2) := by decide +kernel
theorem dX10_copies_118 : decode cX10_copies 118 = .ok (.aload_n 0, 1) := by decide +kernel
theorem dX10_copies_119 : decode cX10_copies 119 = .ok (.getfield 93, 3) := by decide +kernel
theorem dX10_copies_122 : decode cX10_copies 122 = .ok (.iload 5, 2) := by decide +kernel
theorem dX10_copies_124 : decode cX10_copies 124 = .ok (.iaload, 1) := by decide +kernel
theorem dX10_copies_125 : decode cX10_copies 125 = .ok (.iastore, 1) := by decide +kernel
theorem dX10_copies_126 : decode cX10_copies 126 = .ok (.aload_n 0, 1) := by decide +kernel
theorem dX10_copies_127 : decode cX10_copies 127 = .ok (.getfield 96, 3) := by decide +kernel
theorem dX10_copies_130 : decode cX10_copies 130 = .ok (.iload 4, 2) := by decide +kernel
theorem dX10_copies_132 : decode cX10_copies 132 = .ok (.aload_n 0, 1) := by decide +kernel
theorem dX10_copies_133 : decode cX10_copies 133 = .ok (.getfield 96, 3) := by decide +kernel
theorem dX10_copies_136 : decode cX10_copies 136 = .ok (.iload 5, 2) := by decide +kernel
theorem dX10_copies_138 : decode cX10_copies 138 = .ok (.iaload, 1) := by decide +kernel
theorem dX10_copies_139 : decode cX10_copies 139 = .ok (.iastore, 1) := by decide +kernel
theorem dX10_copies_140 : decode cX10_copies 140 = .ok (.aload_n 0, 1) := by decide +kernel
theorem dX10_copies_141 : decode cX10_copies 141 = .ok (.getfield 99, 3) := by decide +kernel
theorem dX10_copies_144 : decode cX10_copies 144 = .ok (.iload 4, 2) := by decide +kernel
theorem dX10_copies_146 : decode cX10_copies 146 = .ok (.aload_n 0, 1) := by decide +kernel
theorem dX10_copies_147 : decode cX10_copies 147 = .ok (.getfield 99, 3) := by decide +kernel
theorem dX10_copies_150 : decode cX10_copies 150 = .ok (.iload 5, 2) := by decide +kernel
theorem dX10_copies_152 : decode cX10_copies 152 = .ok (.iaload, 1) := by decide +kernel
theorem dX10_copies_153 : decode cX10_copies 153 = .ok (.iastore, 1) := by decide +kernel
theorem dX10_copies_154 : decode cX10_copies 154 = .ok (.aload_n 0, 1) := by decide +kernel
theorem dX10_copies_155 : decode cX10_copies 155 = .ok (.getfield 102, 3) := by decide +kernel
theorem dX10_copies_158 : decode cX10_copies 158 = .ok (.iload 4, 2) := by decide +kernel
theorem dX10_copies_160 : decode cX10_copies 160 = .ok (.aload_n 0, 1) := by decide +kernel
theorem dX10_copies_161 : decode cX10_copies 161 = .ok (.getfield 102, 3) := by decide +kernel
theorem dX10_copies_164 : decode cX10_copies 164 = .ok (.iload 5, 2) := by decide +kernel
theorem dX10_copies_166 : decode cX10_copies 166 = .ok (.iaload, 1) := by decide +kernel
theorem dX10_copies_167 : decode cX10_copies 167 = .ok (.iastore, 1) := by decide +kernel
theorem dX10_copies_168 : decode cX10_copies 168 = .ok (.aload_n 0, 1) := by decide +kernel
theorem dX10_copies_169 : decode cX10_copies 169 = .ok (.getfield 105, 3) := by decide +kernel
theorem dX10_copies_172 : decode cX10_copies 172 = .ok (.iload 4, 2) := by decide +kernel
theorem dX10_copies_174 : decode cX10_copies 174 = .ok (.aload_n 0, 1) := by decide +kernel
theorem dX10_copies_175 : decode cX10_copies 175 = .ok (.getfield 105, 3) := by decide +kernel
theorem dX10_copies_178 : decode cX10_copies 178 = .ok (.iload 5, 2) := by decide +kernel
theorem dX10_copies_180 : decode cX10_copies 180 = .ok (.iaload, 1) := by decide +kernel
theorem dX10_copies_181 : decode cX10_copies 181 = .ok (.iastore, 1) := by decide +kernel
theorem dX10_copies_182 : decode cX10_copies 182 = .ok (.iinc 3 1, 3) := by decide +kernel
theorem dX10_copies_185 : decode cX10_copies 185 = .ok (.goto (-123), 3) := by decide +kernel
theorem dX10_copies_188 : decode cX10_copies 188 = .ok (.iconst 0, 1) := by decide +kernel
theorem dX10_copies_189 : decode cX10_copies 189 = .ok (.istore_n 3, 1) := by decide +kernel
theorem dX10_copies_190 : decode cX10_copies 190 = .ok (.iload_n 3, 1) := by decide +kernel
theorem dX10_copies_191 : decode cX10_copies 191 = .ok (.bipush 8, 2) := by decide +kernel
theorem dX10_copies_193 : decode cX10_copies 193 = .ok (.if_icmp .ge 53, 3) := by decide +kernel
theorem dX10_copies_196 : decode cX10_copies 196 = .ok (.aload_n 0, 1) := by decide +kernel
theorem dX10_copies_197 : decode cX10_copies 197 = .ok (.getfield 108, 3) := by decide +kernel
theorem dX10_copies_200 : decode cX10_copies 200 = .ok (.bipush 8, 2) := by decide +kernel
theorem dX10_copies_202 : decode cX10_copies 202 = .ok (.iload_n 1, 1) := by decide +kernel
theorem dX10_copies_203 : decode cX10_copies 203 = .ok (.imul, 1) := by decide +kernel
theorem dX10_copies_204 : decode cX10_copies 204 = .ok (.iload_n 3, 1) := by decide +kernel
theorem dX10_copies_205 : decode cX10_copies 205 = .ok (.iadd, 1) := by decide +kernel
theorem dX10_copies_206 : decode cX10_copies 206 = .ok (.aload_n 0, 1) := by decide +kernel
theorem dX10_copies_207 : decode cX10_copies 207 = .ok (.getfield 108, 3) := by decide +kernel
theorem dX10_copies_210 : decode cX10_copies 210 = .ok (.bipush 8, 2) := by decide +kernel
theorem dX10_copies_212 : decode cX10_copies 212 = .ok (.iload_n 2, 1) := by decide +kernel
theorem dX10_copies_213 : decode cX10_copies 213 = .ok (.imul, 1) := by decide +kernel
theorem dX10_copies_214 : decode cX10_copies 214 = .ok (.iload_n 3, 1) := by decide +kernel
theorem dX10_copies_215 : decode cX10_copies 215 = .ok (.iadd, 1) := by decide +kernel
theorem dX10_copies_216 : decode cX10_copies 216 = .ok (.iaload, 1) := by decide +kernel
theorem dX10_copies_217 : decode cX10_copies 217 = .ok (.iastore, 1) := by decide +kernel
theorem dX10_copies_218 : decode cX10_copies 218 = .ok (.aload_n 0, 1) := by decide +kernel
theorem dX10_copies_219 : decode cX10_copies 219 = .ok (.getfield 111, 3) := by decide +kernel
theorem dX10_copies_222 : decode cX10_copies 222 = .ok (.bipush 8, 2) := by decide +kernel
theorem dX10_copies_224 : decode cX10_copies 224 = .ok (.iload_n 1, 1) := by decide +kernel
theorem dX10_copies_225 : decode cX10_copies 225 = .ok (.imul, 1) := by decide +kernel
theorem dX10_copies_226 : decode cX10_copies 226 = .ok (.iload_n 3, 1) := by decide +kernel
theorem dX10_copies_227 : decode cX10_copies 227 = .ok (.iadd, 1) := by decide +kernel
theorem dX10_copies_228 : decode cX10_copies 228 = .ok (.aload_n 0, 1) := by decide +kernel
theorem dX10_copies_229 : decode cX10_copies 229 = .ok (.getfield 111, 3) := by decide +kernel
theorem dX10_copies_232 : decode cX10_copies 232 = .ok (.bipush 8, 2) := by decide +kernel
theorem dX10_copies_234 : decode cX10_copies 234 = .ok (.iload_n 2, 1) := by decide +kernel
theorem dX10_copies_235 : decode cX10_copies 235 = .ok (.imul, 1) := by decide +kernel
theorem dX10_copies_236 : decode cX10_copies 236 = .ok (.iload_n 3, 1) := by decide +kernel
theorem dX10_copies_237 : decode cX10_copies 237 = .ok (.iadd, 1) := by decide +kernel
theorem dX10_copies_238 : decode cX10_copies 238 = .ok (.iaload, 1) := by decide +kernel
theorem dX10_copies_239 : decode cX10_copies 239 = .ok (.iastore, 1) := by decide +kernel
theorem dX10_copies_240 : decode cX10_copies 240 = .ok (.iinc 3 1, 3) := by decide +kernel
theorem dX10_copies_243 : decode cX10_copies 243 = .ok (.goto (-53), 3) := by decide +kernel
theorem dX10_copies_246 : decode cX10_copies 246 = .ok (.return_, 1) := by decide +kernel
theorem dX10_isMan_0 : decode cX10_isMan 0 = .ok (.iload_n 1, 1) := by decide +kernel
theorem dX10_isMan_1 : decode cX10_isMan 1 = .ok (.ifCond .lt 17, 3) := by decide +kernel
theorem dX10_isMan_4 : decode cX10_isMan 4 = .ok (.iload_n 1, 1) := by decide +kernel
theorem dX10_isMan_5 : decode cX10_isMan 5 = .ok (.aload_n 0, 1) := by decide +kernel
theorem dX10_isMan_6 : decode cX10_isMan 6 = .ok (.getfield 13, 3) := by decide +kernel
theorem dX10_isMan_9 : decode cX10_isMan 9 = .ok (.iconst 0, 1) := by decide +kernel
theorem dX10_isMan_10 : decode cX10_isMan 10 = .ok (.iaload, 1) := by decide +kernel
theorem dX10_isMan_11 : decode cX10_isMan 11 = .ok (.if_icmp .ge 7, 3) := by decide +kernel
theorem dX10_isMan_14 : decode cX10_isMan 14 = .ok (.iconst 1, 1) := by decide +kernel
theorem dX10_isMan_15 : decode cX10_isMan 15 = .ok (.goto 4, 3) := by decide +kernel
theorem dX10_isMan_18 : decode cX10_isMan 18 = .ok (.iconst 0, 1) := by decide +kernel
theorem dX10_isMan_19 : decode cX10_isMan 19 = .ok (.ireturn, 1) := by decide +kernel
theorem dX10_isThing_0 : decode cX10_isThing 0 = .ok (.iload_n 1, 1) := by decide +kernel
theorem dX10_isThing_1 : decode cX10_isThing 1 = .ok (.ifCond .lt 17, 3) := by decide +kernel
theorem dX10_isThing_4 : decode cX10_isThing 4 = .ok (.iload_n 1, 1) := by decide +kernel
theorem dX10_isThing_5 : decode cX10_isThing 5 = .ok (.aload_n 0, 1) := by decide +kernel
theorem dX10_isThing_6 : decode cX10_isThing 6 = .ok (.getfield 13, 3) := by decide +kernel
theorem dX10_isThing_9 : decode cX10_isThing 9 = .ok (.iconst 1, 1) := by decide +kernel
theorem dX10_isThing_10 : decode cX10_isThing 10 = .ok (.iaload, 1) := by decide +kernel
theorem dX10_isThing_11 : decode cX10_isThing 11 = .ok (.if_icmp .ge 7, 3) := by decide +kernel
theorem dX10_isThing_14 : decode cX10_isThing 14 = .ok (.iconst 1, 1) := by decide +kernel
theorem dX10_isThing_15 : decode cX10_isThing 15 = .ok (.goto 4, 3) := by decide +kernel
theorem dX10_isThing_18 : decode cX10_isThing 18 = .ok (.iconst 0, 1) := by decide +kernel
theorem dX10_isThing_19 : decode cX10_isThing 19 = .ok (.ireturn, 1) := by decide +kernel
theorem dX10_goerOf_0 : decode cX10_goerOf 0 = .ok (.iconst 0, 1) := by decide +kernel
theorem dX10_goerOf_1 : decode cX10_goerOf 1 = .ok (.istore_n 3, 1) := by decide +kernel
theorem dX10_goerOf_2 : decode cX10_goerOf 2 = .ok (.iload_n 3, 1) := by decide +kernel
theorem dX10_goerOf_3 : decode cX10_goerOf 3 = .ok (.aload_n 0, 1) := by decide +kernel
theorem dX10_goerOf_4 : decode cX10_goerOf 4 = .ok (.getfield 13, 3) := by decide +kernel
theorem dX10_goerOf_7 : decode cX10_goerOf 7 = .ok (.iconst 0, 1) := by decide +kernel
theorem dX10_goerOf_8 : decode cX10_goerOf 8 = .ok (.iaload, 1) := by decide +kernel
theorem dX10_goerOf_9 : decode cX10_goerOf 9 = .ok (.if_icmp .ge 26, 3) := by decide +kernel
theorem dX10_goerOf_12 : decode cX10_goerOf 12 = .ok (.aload_n 0, 1) := by decide +kernel
theorem dX10_goerOf_13 : decode cX10_goerOf 13 = .ok (.getfield 96, 3) := by decide +kernel
theorem dX10_goerOf_16 : decode cX10_goerOf 16 = .ok (.bipush 6, 2) := by decide +kernel
theorem dX10_goerOf_18 : decode cX10_goerOf 18 = .ok (.iload_n 1, 1) := by decide +kernel
theorem dX10_goerOf_19 : decode cX10_goerOf 19 = .ok (.imul, 1) := by decide +kernel
theorem dX10_goerOf_20 : decode cX10_goerOf 20 = .ok (.iload_n 3, 1) := by decide +kernel
theorem dX10_goerOf_21 : decode cX10_goerOf 21 = .ok (.iadd, 1) := by decide +kernel
theorem dX10_goerOf_22 : decode cX10_goerOf 22 = .ok (.iaload, 1) := by decide +kernel
theorem dX10_goerOf_23 : decode cX10_goerOf 23 = .ok (.iload_n 2, 1) := by decide +kernel
theorem dX10_goerOf_24 : decode cX10_goerOf 24 = .ok (.if_icmp .ne 5, 3) := by decide +kernel
theorem dX10_goerOf_27 : decode cX10_goerOf 27 = .ok (.iload_n 3, 1) := by decide +kernel
theorem dX10_goerOf_28 : decode cX10_goerOf 28 = .ok (.ireturn, 1) := by decide +kernel
theorem dX10_goerOf_29 : decode cX10_goerOf 29 = .ok (.iinc 3 1, 3) := by decide +kernel
theorem dX10_goerOf_32 : decode cX10_goerOf 32 = .ok (.goto (-30), 3) := by decide +kernel
theorem dX10_goerOf_35 : decode cX10_goerOf 35 = .ok (.iconst (-1), 1) := by decide +kernel
theorem dX10_goerOf_36 : decode cX10_goerOf 36 = .ok (.ireturn, 1) := by decide +kernel
theorem dX10_firstLeft_0 : decode cX10_firstLeft 0 = .ok (.iconst 0, 1) := by decide +kernel
theorem dX10_firstLeft_1 : decode cX10_firstLeft 1 = .ok (.istore_n 2, 1) := by decide +kernel
theorem dX10_firstLeft_2 : decode cX10_firstLeft 2 = .ok (.iload_n 2, 1) := by decide +kernel
theorem dX10_firstLeft_3 : decode cX10_firstLeft 3 = .ok (.aload_n 0, 1) := by decide +kernel
theorem dX10_firstLeft_4 : decode cX10_firstLeft 4 = .ok (.getfield 13, 3) := by decide +kernel
theorem dX10_firstLeft_7 : decode cX10_firstLeft 7 = .ok (.iconst 1, 1) := by decide +kernel
theorem dX10_firstLeft_8 : decode cX10_firstLeft 8 = .ok (.iaload, 1) := by decide +kernel
theorem dX10_firstLeft_9 : decode cX10_firstLeft 9 = .ok (.if_icmp .ge 35, 3) := by decide +kernel
theorem dX10_firstLeft_12 : decode cX10_firstLeft 12 = .ok (.aload_n 0, 1) := by decide +kernel
theorem dX10_firstLeft_13 : decode cX10_firstLeft 13 = .ok (.getfield 108, 3) := by decide +kernel
theorem dX10_firstLeft_16 : decode cX10_firstLeft 16 = .ok (.bipush 8, 2) := by decide +kernel
theorem dX10_firstLeft_18 : decode cX10_firstLeft 18 = .ok (.iload_n 1, 1) := by decide +kernel
theorem dX10_firstLeft_19 : decode cX10_firstLeft 19 = .ok (.imul, 1) := by decide +kernel
theorem dX10_firstLeft_20 : decode cX10_firstLeft 20 = .ok (.iload_n 2, 1) := by decide +kernel
theorem dX10_firstLeft_21 : decode cX10_firstLeft 21 = .ok (.iadd, 1) := by decide +kernel
theorem dX10_firstLeft_22 : decode cX10_firstLeft 22 = .ok (.iaload, 1) := by decide +kernel
theorem dX10_firstLeft_23 : decode cX10_firstLeft 23 = .ok (.ifCond .ne 15, 3) := by decide +kernel
theorem dX10_firstLeft_26 : decode cX10_firstLeft 26 = .ok (.aload_n 0, 1) := by decide +kernel
theorem dX10_firstLeft_27 : decode cX10_firstLeft 27 = .ok (.iload_n 1, 1) := by decide +kernel
theorem dX10_firstLeft_28 : decode cX10_firstLeft 28 = .ok (.iload_n 2, 1) := by decide +kernel
theorem dX10_firstLeft_29 : decode cX10_firstLeft 29 = .ok (.invokevirtual 337, 3) := by decide +kernel
theorem dX10_firstLeft_32 : decode cX10_firstLeft 32 = .ok (.iconst (-1), 1) := by decide +kernel
theorem dX10_firstLeft_33 : decode cX10_firstLeft 33 = .ok (.if_icmp .ne 5, 3) := by decide +kernel
theorem dX10_firstLeft_36 : decode cX10_firstLeft 36 = .ok (.iload_n 2, 1) := by decide +kernel
theorem dX10_firstLeft_37 : decode cX10_firstLeft 37 = .ok (.ireturn, 1) := by decide +kernel
theorem dX10_firstLeft_38 : decode cX10_firstLeft 38 = .ok (.iinc 2 1, 3) := by decide +kernel
theorem dX10_firstLeft_41 : decode cX10_firstLeft 41 = .ok (.goto (-39), 3) := by decide +kernel
theorem dX10_firstLeft_44 : decode cX10_firstLeft 44 = .ok (.iconst (-1), 1) := by decide +kernel
theorem dX10_firstLeft_45 : decode cX10_firstLeft 45 = .ok (.ireturn, 1) := by decide +kernel
theorem dX10_calls_0 : decode cX10_calls 0 = .ok (.aload_n 0, 1) := by decide +kernel
theorem dX10_calls_1 : decode cX10_calls 1 = .ok (.getfield 65, 3) := by decide +kernel
theorem dX10_calls_4 : decode cX10_calls 4 = .ok (.iconst 0, 1) := by decide +kernel
theorem dX10_calls_5 : decode cX10_calls 5 = .ok (.aload_n 0, 1) := by decide +kernel
theorem dX10_calls_6 : decode cX10_calls 6 = .ok (.getfield 19, 3) := by decide +kernel
theorem dX10_calls_9 : decode cX10_calls 9 = .ok (.iload_n 2, 1) := by decide +kernel
theorem dX10_calls_10 : decode cX10_calls 10 = .ok (.iaload, 1) := by decide +kernel
theorem dX10_calls_11 : decode cX10_calls 11 = .ok (.i2l, 1) := by decide +kernel
theorem dX10_calls_12 : decode cX10_calls 12 = .ok (.lastore, 1) := by decide +kernel
theorem dX10_calls_13 : decode cX10_calls 13 = .ok (.aload_n 0, 1) := by decide +kernel
theorem dX10_calls_14 : decode cX10_calls 14 = .ok (.getfield 65, 3) := by decide +kernel
theorem dX10_calls_17 : decode cX10_calls 17 = .ok (.iconst 1, 1) := by decide +kernel
theorem dX10_calls_18 : decode cX10_calls 18 = .ok (.aload_n 0, 1) := by decide +kernel
theorem dX10_calls_19 : decode cX10_calls 19 = .ok (.getfield 87, 3) := by decide +kernel
theorem dX10_calls_22 : decode cX10_calls 22 = .ok (.bipush 6, 2) := by decide +kernel
theorem dX10_calls_24 : decode cX10_calls 24 = .ok (.iload_n 1, 1) := by decide +kernel
theorem dX10_calls_25 : decode cX10_calls 25 = .ok (.imul, 1) := by decide +kernel
theorem dX10_calls_26 : decode cX10_calls 26 = .ok (.iload_n 2, 1) := by decide +kernel
theorem dX10_calls_27 : decode cX10_calls 27 = .ok (.iadd, 1) := by decide +kernel
theorem dX10_calls_28 : decode cX10_calls 28 = .ok (.iaload, 1) := by decide +kernel
theorem dX10_calls_29 : decode cX10_calls 29 = .ok (.i2l, 1) := by decide +kernel
theorem dX10_calls_30 : decode cX10_calls 30 = .ok (.lastore, 1) := by decide +kernel
theorem dX10_calls_31 : decode cX10_calls 31 = .ok (.aload_n 0, 1) := by decide +kernel
theorem dX10_calls_32 : decode cX10_calls 32 = .ok (.getfield 65, 3) := by decide +kernel
theorem dX10_calls_35 : decode cX10_calls 35 = .ok (.iconst 2, 1) := by decide +kernel
theorem dX10_calls_36 : decode cX10_calls 36 = .ok (.aload_n 0, 1) := by decide +kernel
theorem dX10_calls_37 : decode cX10_calls 37 = .ok (.getfield 25, 3) := by decide +kernel
theorem dX10_calls_40 : decode cX10_calls 40 = .ok (.iload_n 2, 1) := by decide +kernel
theorem dX10_calls_41 : decode cX10_calls 41 = .ok (.iaload, 1) := by decide +kernel
theorem dX10_calls_42 : decode cX10_calls 42 = .ok (.i2l, 1) := by decide +kernel
theorem dX10_calls_43 : decode cX10_calls 43 = .ok (.lastore, 1) := by decide +kernel
theorem dX10_calls_44 : decode cX10_calls 44 = .ok (.aload_n 0, 1) := by decide +kernel
theorem dX10_calls_45 : decode cX10_calls 45 = .ok (.getfield 65, 3) := by decide +kernel
theorem dX10_calls_48 : decode cX10_calls 48 = .ok (.iconst 3, 1) := by decide +kernel
theorem dX10_calls_49 : decode cX10_calls 49 = .ok (.aload_n 0, 1) := by decide +kernel
theorem dX10_calls_50 : decode cX10_calls 50 = .ok (.getfield 90, 3) := by decide +kernel
theorem dX10_calls_53 : decode cX10_calls 53 = .ok (.bipush 6, 2) := by decide +kernel
theorem dX10_calls_55 : decode cX10_calls 55 = .ok (.iload_n 1, 1) := by decide +kernel
theorem dX10_calls_56 : decode cX10_calls 56 = .ok (.imul, 1) := by decide +kernel
theorem dX10_calls_57 : decode cX10_calls 57 = .ok (.iload_n 2, 1) := by decide +kernel
theorem dX10_calls_58 : decode cX10_calls 58 = .ok (.iadd, 1) := by decide +kernel
theorem dX10_calls_59 : decode cX10_calls 59 = .ok (.iaload, 1) := by decide +kernel
theorem dX10_calls_60 : decode cX10_calls 60 = .ok (.iload 4, 2) := by decide +kernel
theorem dX10_calls_62 : decode cX10_calls 62 = .ok (.iadd, 1) := by decide +kernel
theorem dX10_calls_63 : decode cX10_calls 63 = .ok (.i2l, 1) := by decide +kernel
theorem dX10_calls_64 : decode cX10_calls 64 = .ok (.lastore, 1) := by decide +kernel
theorem dX10_calls_65 : decode cX10_calls 65 = .ok (.aload_n 0, 1) := by decide +kernel
theorem dX10_calls_66 : decode cX10_calls 66 = .ok (.getfield 65, 3) := by decide +kernel
theorem dX10_calls_69 : decode cX10_calls 69 = .ok (.iconst 4, 1) := by decide +kernel
theorem dX10_calls_70 : decode cX10_calls 70 = .ok (.aload_n 0, 1) := by decide +kernel
theorem dX10_calls_71 : decode cX10_calls 71 = .ok (.getfield 78, 3) := by decide +kernel
theorem dX10_calls_74 : decode cX10_calls 74 = .ok (.iload_n 1, 1) := by decide +kernel
theorem dX10_calls_75 : decode cX10_calls 75 = .ok (.iaload, 1) := by decide +kernel
theorem dX10_calls_76 : decode cX10_calls 76 = .ok (.i2l, 1) := by decide +kernel
theorem dX10_calls_77 : decode cX10_calls 77 = .ok (.lastore, 1) := by decide +kernel
theorem dX10_calls_78 : decode cX10_calls 78 = .ok (.aload_n 0, 1) := by decide +kernel
theorem dX10_calls_79 : decode cX10_calls 79 = .ok (.getfield 65, 3) := by decide +kernel
theorem dX10_calls_82 : decode cX10_calls 82 = .ok (.iconst 5, 1) := by decide +kernel
theorem dX10_calls_83 : decode cX10_calls 83 = .ok (.iload_n 3, 1) := by decide +kernel
theorem dX10_calls_84 : decode cX10_calls 84 = .ok (.iconst (-1), 1) := by decide +kernel
theorem dX10_calls_85 : decode cX10_calls 85 = .ok (.if_icmp .ne 7, 3) := by decide +kernel
theorem dX10_calls_88 : decode cX10_calls 88 = .ok (.lconst 0, 1) := by decide +kernel
theorem dX10_calls_89 : decode cX10_calls 89 = .ok (.goto 10, 3) := by decide +kernel
theorem dX10_calls_92 : decode cX10_calls 92 = .ok (.aload_n 0, 1) := by decide +kernel
theorem dX10_calls_93 : decode cX10_calls 93 = .ok (.getfield 34, 3) := by decide +kernel
theorem dX10_calls_96 : decode cX10_calls 96 = .ok (.iload_n 3, 1) := by decide +kernel
theorem dX10_calls_97 : decode cX10_calls 97 = .ok (.iaload, 1) := by decide +kernel
theorem dX10_calls_98 : decode cX10_calls 98 = .ok (.i2l, 1) := by decide +kernel
theorem dX10_calls_99 : decode cX10_calls 99 = .ok (.lastore, 1) := by decide +kernel
theorem dX10_calls_100 : decode cX10_calls 100 = .ok (.aload_n 0, 1) := by decide +kernel
theorem dX10_calls_101 : decode cX10_calls 101 = .ok (.getfield 65, 3) := by decide +kernel
theorem dX10_calls_104 : decode cX10_calls 104 = .ok (.bipush 6, 2) := by decide +kernel
theorem dX10_calls_106 : decode cX10_calls 106 = .ok (.aload_n 0, 1) := by decide +kernel
theorem dX10_calls_107 : decode cX10_calls 107 = .ok (.getfield 72, 3) := by decide +kernel
theorem dX10_calls_110 : decode cX10_calls 110 = .ok (.iload_n 1, 1) := by decide +kernel
theorem dX10_calls_111 : decode cX10_calls 111 = .ok (.iaload, 1) := by decide +kernel
theorem dX10_calls_112 : decode cX10_calls 112 = .ok (.i2l, 1) := by decide +kernel
theorem dX10_calls_113 : decode cX10_calls 113 = .ok (.lastore, 1) := by decide +kernel
theorem dX10_calls_114 : decode cX10_calls 114 = .ok (.return_, 1) := by decide +kernel
theorem dX10_dares_0 : decode cX10_dares 0 = .ok (.aload_n 0, 1) := by decide +kernel
theorem dX10_dares_1 : decode cX10_dares 1 = .ok (.iload_n 1, 1) := by decide +kernel
theorem dX10_dares_2 : decode cX10_dares 2 = .ok (.iload_n 2, 1) := by decide +kernel
theorem dX10_dares_3 : decode cX10_dares 3 = .ok (.iload_n 3, 1) := by decide +kernel
theorem dX10_dares_4 : decode cX10_dares 4 = .ok (.iload 4, 2) := by decide +kernel
theorem dX10_dares_6 : decode cX10_dares 6 = .ok (.invokevirtual 340, 3) := by decide +kernel
theorem dX10_dares_9 : decode cX10_dares 9 = .ok (.aload_n 0, 1) := by decide +kernel
theorem dX10_dares_10 : decode cX10_dares 10 = .ok (.iconst 0, 1) := by decide +kernel
theorem dX10_dares_11 : decode cX10_dares 11 = .ok (.invokevirtual 344, 3) := by decide +kernel
theorem dX10_dares_14 : decode cX10_dares 14 = .ok (.ifCond .eq 28, 3) := by decide +kernel
theorem dX10_dares_17 : decode cX10_dares 17 = .ok (.aload_n 0, 1) := by decide +kernel
theorem dX10_dares_18 : decode cX10_dares 18 = .ok (.iconst 0, 1) := by decide +kernel
theorem dX10_dares_19 : decode cX10_dares 19 = .ok (.invokevirtual 347, 3) := by decide +kernel
theorem dX10_dares_22 : decode cX10_dares 22 = .ok (.ifCond .eq 20, 3) := by decide +kernel
theorem dX10_dares_25 : decode cX10_dares 25 = .ok (.aload_n 0, 1) := by decide +kernel
theorem dX10_dares_26 : decode cX10_dares 26 = .ok (.getfield 69, 3) := by decide +kernel
theorem dX10_dares_29 : decode cX10_dares 29 = .ok (.iconst 0, 1) := by decide +kernel
theorem dX10_dares_30 : decode cX10_dares 30 = .ok (.laload, 1) := by decide +kernel
theorem dX10_dares_31 : decode cX10_dares 31 = .ok (.lconst 0, 1) := by decide +kernel
theorem dX10_dares_32 : decode cX10_dares 32 = .ok (.lcmp, 1) := by decide +kernel
theorem dX10_dares_33 : decode cX10_dares 33 = .ok (.ifCond .eq 7, 3) := by decide +kernel
theorem dX10_dares_36 : decode cX10_dares 36 = .ok (.iconst 1, 1) := by decide +kernel
theorem dX10_dares_37 : decode cX10_dares 37 = .ok (.goto 4, 3) := by decide +kernel
theorem dX10_dares_40 : decode cX10_dares 40 = .ok (.iconst 0, 1) := by decide +kernel
theorem dX10_dares_41 : decode cX10_dares 41 = .ok (.ireturn, 1) := by decide +kernel
theorem dX10_dares_42 : decode cX10_dares 42 = .ok (.aload_n 0, 1) := by decide +kernel
theorem dX10_dares_43 : decode cX10_dares 43 = .ok (.getfield 87, 3) := by decide +kernel
theorem dX10_dares_46 : decode cX10_dares 46 = .ok (.bipush 6, 2) := by decide +kernel
theorem dX10_dares_48 : decode cX10_dares 48 = .ok (.iload_n 1, 1) := by decide +kernel
theorem dX10_dares_49 : decode cX10_dares 49 = .ok (.imul, 1) := by decide +kernel
theorem dX10_dares_50 : decode cX10_dares 50 = .ok (.iload_n 2, 1) := by decide +kernel
theorem dX10_dares_51 : decode cX10_dares 51 = .ok (.iadd, 1) := by decide +kernel
theorem dX10_dares_52 : decode cX10_dares 52 = .ok (.iaload, 1) := by decide +kernel
theorem dX10_dares_53 : decode cX10_dares 53 = .ok (.aload_n 0, 1) := by decide +kernel
theorem dX10_dares_54 : decode cX10_dares 54 = .ok (.getfield 90, 3) := by decide +kernel
theorem dX10_dares_57 : decode cX10_dares 57 = .ok (.bipush 6, 2) := by decide +kernel
theorem dX10_dares_59 : decode cX10_dares 59 = .ok (.iload_n 1, 1) := by decide +kernel
theorem dX10_dares_60 : decode cX10_dares 60 = .ok (.imul, 1) := by decide +kernel
theorem dX10_dares_61 : decode cX10_dares 61 = .ok (.iload_n 2, 1) := by decide +kernel
theorem dX10_dares_62 : decode cX10_dares 62 = .ok (.iadd, 1) := by decide +kernel
theorem dX10_dares_63 : decode cX10_dares 63 = .ok (.iaload, 1) := by decide +kernel
theorem dX10_dares_64 : decode cX10_dares 64 = .ok (.iadd, 1) := by decide +kernel
theorem dX10_dares_65 : decode cX10_dares 65 = .ok (.iload 4, 2) := by decide +kernel
theorem dX10_dares_67 : decode cX10_dares 67 = .ok (.iadd, 1) := by decide +kernel
theorem dX10_dares_68 : decode cX10_dares 68 = .ok (.aload_n 0, 1) := by decide +kernel
theorem dX10_dares_69 : decode cX10_dares 69 = .ok (.getfield 19, 3) := by decide +kernel
theorem dX10_dares_72 : decode cX10_dares 72 = .ok (.iload_n 2, 1) := by decide +kernel
theorem dX10_dares_73 : decode cX10_dares 73 = .ok (.iaload, 1) := by decide +kernel
theorem dX10_dares_74 : decode cX10_dares 74 = .ok (.aload_n 0, 1) := by decide +kernel
theorem dX10_dares_75 : decode cX10_dares 75 = .ok (.getfield 78, 3) := by decide +kernel
theorem dX10_dares_78 : decode cX10_dares 78 = .ok (.iload_n 1, 1) := by decide +kernel
theorem dX10_dares_79 : decode cX10_dares 79 = .ok (.iaload, 1) := by decide +kernel
theorem dX10_dares_80 : decode cX10_dares 80 = .ok (.iadd, 1) := by decide +kernel
theorem dX10_dares_81 : decode cX10_dares 81 = .ok (.if_icmp .lt 7, 3) := by decide +kernel
theorem dX10_dares_84 : decode cX10_dares 84 = .ok (.iconst 1, 1) := by decide +kernel
theorem dX10_dares_85 : decode cX10_dares 85 = .ok (.goto 4, 3) := by decide +kernel
theorem dX10_dares_88 : decode cX10_dares 88 = .ok (.iconst 0, 1) := by decide +kernel
theorem dX10_dares_89 : decode cX10_dares 89 = .ok (.ireturn, 1) := by decide +kernel
theorem dX10_within_0 : decode cX10_within 0 = .ok (.aload_n 0, 1) := by decide +kernel
theorem dX10_within_1 : decode cX10_within 1 = .ok (.iload_n 1, 1) := by decide +kernel
theorem dX10_within_2 : decode cX10_within 2 = .ok (.invokevirtual 344, 3) := by decide +kernel
theorem dX10_within_5 : decode cX10_within 5 = .ok (.ifCond .eq 11, 3) := by decide +kernel
theorem dX10_within_8 : decode cX10_within 8 = .ok (.aload_n 0, 1) := by decide +kernel
theorem dX10_within_9 : decode cX10_within 9 = .ok (.iload_n 1, 1) := by decide +kernel
theorem dX10_within_10 : decode cX10_within 10 = .ok (.invokevirtual 347, 3) := by decide +kernel
theorem dX10_within_13 : decode cX10_within 13 = .ok (.ifCond .ne 6, 3) := by decide +kernel
theorem dX10_within_16 : decode cX10_within 16 = .ok (.iload 4, 2) := by decide +kernel
theorem dX10_within_18 : decode cX10_within 18 = .ok (.ireturn, 1) := by decide +kernel
theorem dX10_within_19 : decode cX10_within 19 = .ok (.iload_n 2, 1) := by decide +kernel
theorem dX10_within_20 : decode cX10_within 20 = .ok (.i2l, 1) := by decide +kernel
theorem dX10_within_21 : decode cX10_within 21 = .ok (.iload_n 3, 1) := by decide +kernel
theorem dX10_within_22 : decode cX10_within 22 = .ok (.i2l, 1) := by decide +kernel
theorem dX10_within_23 : decode cX10_within 23 = .ok (.aload_n 0, 1) := by decide +kernel
theorem dX10_within_24 : decode cX10_within 24 = .ok (.getfield 69, 3) := by decide +kernel
theorem dX10_within_27 : decode cX10_within 27 = .ok (.iconst 0, 1) := by decide +kernel
theorem dX10_within_28 : decode cX10_within 28 = .ok (.laload, 1) := by decide +kernel
theorem dX10_within_29 : decode cX10_within 29 = .ok (.invokestatic 350, 3) := by decide +kernel
theorem dX10_within_32 : decode cX10_within 32 = .ok (.invokestatic 354, 3) := by decide +kernel
theorem dX10_within_35 : decode cX10_within 35 = .ok (.l2i, 1) := by decide +kernel
theorem dX10_within_36 : decode cX10_within 36 = .ok (.ireturn, 1) := by decide +kernel
theorem dX10_looks_0 : decode cX10_looks 0 = .ok (.iconst 0, 1) := by decide +kernel
theorem dX10_looks_1 : decode cX10_looks 1 = .ok (.istore_n 2, 1) := by decide +kernel
theorem dX10_looks_2 : decode cX10_looks 2 = .ok (.iload_n 2, 1) := by decide +kernel
theorem dX10_looks_3 : decode cX10_looks 3 = .ok (.aload_n 0, 1) := by decide +kernel
theorem dX10_looks_4 : decode cX10_looks 4 = .ok (.getfield 13, 3) := by decide +kernel
theorem dX10_looks_7 : decode cX10_looks 7 = .ok (.iconst 2, 1) := by decide +kernel
theorem dX10_looks_8 : decode cX10_looks 8 = .ok (.iaload, 1) := by decide +kernel
theorem dX10_looks_9 : decode cX10_looks 9 = .ok (.if_icmp .ge 95, 3) := by decide +kernel
theorem dX10_looks_12 : decode cX10_looks 12 = .ok (.aload_n 0, 1) := by decide +kernel
theorem dX10_looks_13 : decode cX10_looks 13 = .ok (.getfield 43, 3) := by decide +kernel
theorem dX10_looks_16 : decode cX10_looks 16 = .ok (.iload_n 2, 1) := by decide +kernel
theorem dX10_looks_17 : decode cX10_looks 17 = .ok (.iaload, 1) := by decide +kernel
theorem dX10_looks_18 : decode cX10_looks 18 = .ok (.aload_n 0, 1) := by decide +kernel
theorem dX10_looks_19 : decode cX10_looks 19 = .ok (.getfield 72, 3) := by decide +kernel
theorem dX10_looks_22 : decode cX10_looks 22 = .ok (.iload_n 1, 1) := by decide +kernel
theorem dX10_looks_23 : decode cX10_looks 23 = .ok (.iaload, 1) := by decide +kernel
theorem dX10_looks_24 : decode cX10_looks 24 = .ok (.if_icmp .eq 6, 3) := by decide +kernel
theorem dX10_looks_27 : decode cX10_looks 27 = .ok (.goto 71, 3) := by decide +kernel
theorem dX10_looks_30 : decode cX10_looks 30 = .ok (.aload_n 0, 1) := by decide +kernel
theorem dX10_looks_31 : decode cX10_looks 31 = .ok (.getfield 81, 3) := by decide +kernel
theorem dX10_looks_34 : decode cX10_looks 34 = .ok (.iload_n 1, 1) := by decide +kernel
theorem dX10_looks_35 : decode cX10_looks 35 = .ok (.iaload, 1) := by decide +kernel
theorem dX10_looks_36 : decode cX10_looks 36 = .ok (.aload_n 0, 1) := by decide +kernel
theorem dX10_looks_37 : decode cX10_looks 37 = .ok (.getfield 46, 3) := by decide +kernel
theorem dX10_looks_40 : decode cX10_looks 40 = .ok (.iload_n 2, 1) := by decide +kernel
theorem dX10_looks_41 : decode cX10_looks 41 = .ok (.iaload, 1) := by decide +kernel
theorem dX10_looks_42 : decode cX10_looks 42 = .ok (.if_icmp .ge 16, 3) := by decide +kernel
theorem dX10_looks_45 : decode cX10_looks 45 = .ok (.aload_n 0, 1) := by decide +kernel
theorem dX10_looks_46 : decode cX10_looks 46 = .ok (.getfield 84, 3) := by decide +kernel
theorem dX10_looks_49 : decode cX10_looks 49 = .ok (.iload_n 1, 1) := by decide +kernel
theorem dX10_looks_50 : decode cX10_looks 50 = .ok (.dup2, 1) := by decide +kernel
theorem dX10_looks_51 : decode cX10_looks 51 = .ok (.iaload, 1) := by decide +kernel
theorem dX10_looks_52 : decode cX10_looks 52 = .ok (.iconst 1, 1) := by decide +kernel
theorem dX10_looks_53 : decode cX10_looks 53 = .ok (.iadd, 1) := by decide +kernel
theorem dX10_looks_54 : decode cX10_looks 54 = .ok (.iastore, 1) := by decide +kernel
theorem dX10_looks_55 : decode cX10_looks 55 = .ok (.goto 43, 3) := by decide +kernel
theorem dX10_looks_58 : decode cX10_looks 58 = .ok (.aload_n 0, 1) := by decide +kernel
theorem dX10_looks_59 : decode cX10_looks 59 = .ok (.getfield 81, 3) := by decide +kernel
theorem dX10_looks_62 : decode cX10_looks 62 = .ok (.iload_n 1, 1) := by decide +kernel
theorem dX10_looks_63 : decode cX10_looks 63 = .ok (.dup2, 1) := by decide +kernel
theorem dX10_looks_64 : decode cX10_looks 64 = .ok (.iaload, 1) := by decide +kernel
theorem dX10_looks_65 : decode cX10_looks 65 = .ok (.aload_n 0, 1) := by decide +kernel
theorem dX10_looks_66 : decode cX10_looks 66 = .ok (.getfield 46, 3) := by decide +kernel
theorem dX10_looks_69 : decode cX10_looks 69 = .ok (.iload_n 2, 1) := by decide +kernel
theorem dX10_looks_70 : decode cX10_looks 70 = .ok (.iaload, 1) := by decide +kernel
theorem dX10_looks_71 : decode cX10_looks 71 = .ok (.isub, 1) := by decide +kernel
theorem dX10_looks_72 : decode cX10_looks 72 = .ok (.iastore, 1) := by decide +kernel
theorem dX10_looks_73 : decode cX10_looks 73 = .ok (.aload_n 0, 1) := by decide +kernel
theorem dX10_looks_74 : decode cX10_looks 74 = .ok (.getfield 90, 3) := by decide +kernel
theorem dX10_looks_77 : decode cX10_looks 77 = .ok (.bipush 6, 2) := by decide +kernel
theorem dX10_looks_79 : decode cX10_looks 79 = .ok (.iload_n 1, 1) := by decide +kernel
theorem dX10_looks_80 : decode cX10_looks 80 = .ok (.imul, 1) := by decide +kernel
theorem dX10_looks_81 : decode cX10_looks 81 = .ok (.aload_n 0, 1) := by decide +kernel
theorem dX10_looks_82 : decode cX10_looks 82 = .ok (.getfield 40, 3) := by decide +kernel
theorem dX10_looks_85 : decode cX10_looks 85 = .ok (.iload_n 2, 1) := by decide +kernel
theorem dX10_looks_86 : decode cX10_looks 86 = .ok (.iaload, 1) := by decide +kernel
theorem dX10_looks_87 : decode cX10_looks 87 = .ok (.iadd, 1) := by decide +kernel
theorem dX10_looks_88 : decode cX10_looks 88 = .ok (.dup2, 1) := by decide +kernel
theorem dX10_looks_89 : decode cX10_looks 89 = .ok (.iaload, 1) := by decide +kernel
theorem dX10_looks_90 : decode cX10_looks 90 = .ok (.aload_n 0, 1) := by decide +kernel
theorem dX10_looks_91 : decode cX10_looks 91 = .ok (.getfield 46, 3) := by decide +kernel
theorem dX10_looks_94 : decode cX10_looks 94 = .ok (.iload_n 2, 1) := by decide +kernel
theorem dX10_looks_95 : decode cX10_looks 95 = .ok (.iaload, 1) := by decide +kernel
theorem dX10_looks_96 : decode cX10_looks 96 = .ok (.iadd, 1) := by decide +kernel
theorem dX10_looks_97 : decode cX10_looks 97 = .ok (.iastore, 1) := by decide +kernel
theorem dX10_looks_98 : decode cX10_looks 98 = .ok (.iinc 2 1, 3) := by decide +kernel
theorem dX10_looks_101 : decode cX10_looks 101 = .ok (.goto (-99), 3) := by decide +kernel
theorem dX10_looks_104 : decode cX10_looks 104 = .ok (.return_, 1) := by decide +kernel
theorem dX10_entersIf_0 : decode cX10_entersIf 0 = .ok (.bipush 6, 2) := by decide +kernel
theorem dX10_entersIf_2 : decode cX10_entersIf 2 = .ok (.iload_n 1, 1) := by decide +kernel
theorem dX10_entersIf_3 : decode cX10_entersIf 3 = .ok (.imul, 1) := by decide +kernel
theorem dX10_entersIf_4 : decode cX10_entersIf 4 = .ok (.iload_n 2, 1) := by decide +kernel
theorem dX10_entersIf_5 : decode cX10_entersIf 5 = .ok (.iadd, 1) := by decide +kernel
theorem dX10_entersIf_6 : decode cX10_entersIf 6 = .ok (.istore_n 3, 1) := by decide +kernel
theorem dX10_entersIf_7 : decode cX10_entersIf 7 = .ok (.aload_n 0, 1) := by decide +kernel
theorem dX10_entersIf_8 : decode cX10_entersIf 8 = .ok (.iload_n 1, 1) := by decide +kernel
theorem dX10_entersIf_9 : decode cX10_entersIf 9 = .ok (.invokevirtual 357, 3) := by decide +kernel
theorem dX10_entersIf_12 : decode cX10_entersIf 12 = .ok (.istore 4, 2) := by decide +kernel
theorem dX10_entersIf_14 : decode cX10_entersIf 14 = .ok (.aload_n 0, 1) := by decide +kernel
theorem dX10_entersIf_15 : decode cX10_entersIf 15 = .ok (.getfield 93, 3) := by decide +kernel
theorem dX10_entersIf_18 : decode cX10_entersIf 18 = .ok (.iload_n 3, 1) := by decide +kernel
theorem dX10_entersIf_19 : decode cX10_entersIf 19 = .ok (.iaload, 1) := by decide +kernel
theorem dX10_entersIf_20 : decode cX10_entersIf 20 = .ok (.ifCond .ne 47, 3) := by decide +kernel
theorem dX10_entersIf_23 : decode cX10_entersIf 23 = .ok (.aload_n 0, 1) := by decide +kernel
theorem dX10_entersIf_24 : decode cX10_entersIf 24 = .ok (.getfield 102, 3) := by decide +kernel
theorem dX10_entersIf_27 : decode cX10_entersIf 27 = .ok (.iload_n 3, 1) := by decide +kernel
theorem dX10_entersIf_28 : decode cX10_entersIf 28 = .ok (.iaload, 1) := by decide +kernel
theorem dX10_entersIf_29 : decode cX10_entersIf 29 = .ok (.iconst 1, 1) := by decide +kernel
theorem dX10_entersIf_30 : decode cX10_entersIf 30 = .ok (.if_icmp .eq 37, 3) := by decide +kernel
theorem dX10_entersIf_33 : decode cX10_entersIf 33 = .ok (.aload_n 0, 1) := by decide +kernel
theorem dX10_entersIf_34 : decode cX10_entersIf 34 = .ok (.getfield 360, 3) := by decide +kernel
theorem dX10_entersIf_37 : decode cX10_entersIf 37 = .ok (.iconst 2, 1) := by decide +kernel
theorem dX10_entersIf_38 : decode cX10_entersIf 38 = .ok (.if_icmp .ne 11, 3) := by decide +kernel
theorem dX10_entersIf_41 : decode cX10_entersIf 41 = .ok (.iload_n 2, 1) := by decide +kernel
theorem dX10_entersIf_42 : decode cX10_entersIf 42 = .ok (.aload_n 0, 1) := by decide +kernel
theorem dX10_entersIf_43 : decode cX10_entersIf 43 = .ok (.getfield 114, 3) := by decide +kernel
theorem dX10_entersIf_46 : decode cX10_entersIf 46 = .ok (.if_icmp .eq 21, 3) := by decide +kernel
theorem dX10_entersIf_49 : decode cX10_entersIf 49 = .ok (.iload 4, 2) := by decide +kernel
theorem dX10_entersIf_51 : decode cX10_entersIf 51 = .ok (.iconst (-1), 1) := by decide +kernel
theorem dX10_entersIf_52 : decode cX10_entersIf 52 = .ok (.if_icmp .eq 15, 3) := by decide +kernel
theorem dX10_entersIf_55 : decode cX10_entersIf 55 = .ok (.aload_n 0, 1) := by decide +kernel
theorem dX10_entersIf_56 : decode cX10_entersIf 56 = .ok (.iload_n 1, 1) := by decide +kernel
theorem dX10_entersIf_57 : decode cX10_entersIf 57 = .ok (.iload_n 2, 1) := by decide +kernel
theorem dX10_entersIf_58 : decode cX10_entersIf 58 = .ok (.iload 4, 2) := by decide +kernel
theorem dX10_entersIf_60 : decode cX10_entersIf 60 = .ok (.iconst 0, 1) := by decide +kernel
theorem dX10_entersIf_61 : decode cX10_entersIf 61 = .ok (.invokevirtual 363, 3) := by decide +kernel
theorem dX10_entersIf_64 : decode cX10_entersIf 64 = .ok (.ifCond .ne 4, 3) := by decide +kernel
theorem dX10_entersIf_67 : decode cX10_entersIf 67 = .ok (.return_, 1) := by decide +kernel
theorem dX10_entersIf_68 : decode cX10_entersIf 68 = .ok (.aload_n 0, 1) := by decide +kernel
theorem dX10_entersIf_69 : decode cX10_entersIf 69 = .ok (.getfield 93, 3) := by decide +kernel
theorem dX10_entersIf_72 : decode cX10_entersIf 72 = .ok (.iload_n 3, 1) := by decide +kernel
theorem dX10_entersIf_73 : decode cX10_entersIf 73 = .ok (.iconst 1, 1) := by decide +kernel
theorem dX10_entersIf_74 : decode cX10_entersIf 74 = .ok (.iastore, 1) := by decide +kernel
theorem dX10_entersIf_75 : decode cX10_entersIf 75 = .ok (.aload_n 0, 1) := by decide +kernel
theorem dX10_entersIf_76 : decode cX10_entersIf 76 = .ok (.getfield 96, 3) := by decide +kernel
theorem dX10_entersIf_79 : decode cX10_entersIf 79 = .ok (.iload_n 3, 1) := by decide +kernel
theorem dX10_entersIf_80 : decode cX10_entersIf 80 = .ok (.iload 4, 2) := by decide +kernel
theorem dX10_entersIf_82 : decode cX10_entersIf 82 = .ok (.iastore, 1) := by decide +kernel
theorem dX10_entersIf_83 : decode cX10_entersIf 83 = .ok (.aload_n 0, 1) := by decide +kernel
theorem dX10_entersIf_84 : decode cX10_entersIf 84 = .ok (.getfield 99, 3) := by decide +kernel
theorem dX10_entersIf_87 : decode cX10_entersIf 87 = .ok (.iload_n 3, 1) := by decide +kernel
theorem dX10_entersIf_88 : decode cX10_entersIf 88 = .ok (.iconst 0, 1) := by decide +kernel
theorem dX10_entersIf_89 : decode cX10_entersIf 89 = .ok (.iastore, 1) := by decide +kernel
theorem dX10_entersIf_90 : decode cX10_entersIf 90 = .ok (.aload_n 0, 1) := by decide +kernel
theorem dX10_entersIf_91 : decode cX10_entersIf 91 = .ok (.dup, 1) := by decide +kernel
theorem dX10_entersIf_92 : decode cX10_entersIf 92 = .ok (.getfield 367, 3) := by decide +kernel
theorem dX10_entersIf_95 : decode cX10_entersIf 95 = .ok (.iconst 1, 1) := by decide +kernel
theorem dX10_entersIf_96 : decode cX10_entersIf 96 = .ok (.iload_n 2, 1) := by decide +kernel
theorem dX10_entersIf_97 : decode cX10_entersIf 97 = .ok (.ishl, 1) := by decide +kernel
theorem dX10_entersIf_98 : decode cX10_entersIf 98 = .ok (.ior, 1) := by decide +kernel
theorem dX10_entersIf_99 : decode cX10_entersIf 99 = .ok (.putfield 367, 3) := by decide +kernel
theorem dX10_entersIf_102 : decode cX10_entersIf 102 = .ok (.return_, 1) := by decide +kernel
theorem dX10_falls_0 : decode cX10_falls 0 = .ok (.iload_n 3, 1) := by decide +kernel
theorem dX10_falls_1 : decode cX10_falls 1 = .ok (.ifCond .eq 13, 3) := by decide +kernel
theorem dX10_falls_4 : decode cX10_falls 4 = .ok (.iload_n 2, 1) := by decide +kernel
theorem dX10_falls_5 : decode cX10_falls 5 = .ok (.ifCond .eq 9, 3) := by decide +kernel
theorem dX10_falls_8 : decode cX10_falls 8 = .ok (.iload_n 2, 1) := by decide +kernel
theorem dX10_falls_9 : decode cX10_falls 9 = .ok (.bipush 100, 2) := by decide +kernel
theorem dX10_falls_11 : decode cX10_falls 11 = .ok (.if_icmp .ne 15, 3) := by decide +kernel
theorem dX10_falls_14 : decode cX10_falls 14 = .ok (.iload_n 2, 1) := by decide +kernel
theorem dX10_falls_15 : decode cX10_falls 15 = .ok (.bipush 50, 2) := by decide +kernel
theorem dX10_falls_17 : decode cX10_falls 17 = .ok (.if_icmp .lt 7, 3) := by decide +kernel
theorem dX10_falls_20 : decode cX10_falls 20 = .ok (.iconst 1, 1) := by decide +kernel
theorem dX10_falls_21 : decode cX10_falls 21 = .ok (.goto 4, 3) := by decide +kernel
theorem dX10_falls_24 : decode cX10_falls 24 = .ok (.iconst 0, 1) := by decide +kernel
theorem dX10_falls_25 : decode cX10_falls 25 = .ok (.ireturn, 1) := by decide +kernel
theorem dX10_falls_26 : decode cX10_falls 26 = .ok (.aload_n 0, 1) := by decide +kernel
theorem dX10_falls_27 : decode cX10_falls 27 = .ok (.getfield 75, 3) := by decide +kernel
theorem dX10_falls_30 : decode cX10_falls 30 = .ok (.iload_n 1, 1) := by decide +kernel
theorem dX10_falls_31 : decode cX10_falls 31 = .ok (.aload_n 0, 1) := by decide +kernel
theorem dX10_falls_32 : decode cX10_falls 32 = .ok (.getfield 75, 3) := by decide +kernel
theorem dX10_falls_35 : decode cX10_falls 35 = .ok (.iload_n 1, 1) := by decide +kernel
theorem dX10_falls_36 : decode cX10_falls 36 = .ok (.iaload, 1) := by decide +kernel
theorem dX10_falls_37 : decode cX10_falls 37 = .ok (.ldc_w 370, 3) := by decide +kernel
theorem dX10_falls_40 : decode cX10_falls 40 = .ok (.imul, 1) := by decide +kernel
theorem dX10_falls_41 : decode cX10_falls 41 = .ok (.sipush 12345, 3) := by decide +kernel
theorem dX10_falls_44 : decode cX10_falls 44 = .ok (.iadd, 1) := by decide +kernel
theorem dX10_falls_45 : decode cX10_falls 45 = .ok (.ldc_w 373, 3) := by decide +kernel
theorem dX10_falls_48 : decode cX10_falls 48 = .ok (.iand, 1) := by decide +kernel
theorem dX10_falls_49 : decode cX10_falls 49 = .ok (.iastore, 1) := by decide +kernel
theorem dX10_falls_50 : decode cX10_falls 50 = .ok (.aload_n 0, 1) := by decide +kernel
theorem dX10_falls_51 : decode cX10_falls 51 = .ok (.getfield 75, 3) := by decide +kernel
theorem dX10_falls_54 : decode cX10_falls 54 = .ok (.iload_n 1, 1) := by decide +kernel
theorem dX10_falls_55 : decode cX10_falls 55 = .ok (.iaload, 1) := by decide +kernel
theorem dX10_falls_56 : decode cX10_falls 56 = .ok (.bipush 16, 2) := by decide +kernel
theorem dX10_falls_58 : decode cX10_falls 58 = .ok (.ishr, 1) := by decide +kernel
theorem dX10_falls_59 : decode cX10_falls 59 = .ok (.bipush 100, 2) := by decide +kernel
theorem dX10_falls_61 : decode cX10_falls 61 = .ok (.irem, 1) := by decide +kernel
theorem dX10_falls_62 : decode cX10_falls 62 = .ok (.iload_n 2, 1) := by decide +kernel
theorem dX10_falls_63 : decode cX10_falls 63 = .ok (.if_icmp .ge 7, 3) := by decide +kernel
theorem dX10_falls_66 : decode cX10_falls 66 = .ok (.iconst 1, 1) := by decide +kernel
theorem dX10_falls_67 : decode cX10_falls 67 = .ok (.goto 4, 3) := by decide +kernel
theorem dX10_falls_70 : decode cX10_falls 70 = .ok (.iconst 0, 1) := by decide +kernel
theorem dX10_falls_71 : decode cX10_falls 71 = .ok (.ireturn, 1) := by decide +kernel
theorem dX10_isHurt_0 : decode cX10_isHurt 0 = .ok (.aload_n 0, 1) := by decide +kernel
theorem dX10_isHurt_1 : decode cX10_isHurt 1 = .ok (.getfield 360, 3) := by decide +kernel
theorem dX10_isHurt_4 : decode cX10_isHurt 4 = .ok (.iconst 3, 1) := by decide +kernel
theorem dX10_isHurt_5 : decode cX10_isHurt 5 = .ok (.if_icmp .ne 5, 3) := by decide +kernel
theorem dX10_isHurt_8 : decode cX10_isHurt 8 = .ok (.iconst 0, 1) := by decide +kernel
theorem dX10_isHurt_9 : decode cX10_isHurt 9 = .ok (.ireturn, 1) := by decide +kernel
theorem dX10_isHurt_10 : decode cX10_isHurt 10 = .ok (.aload_n 0, 1) := by decide +kernel
theorem dX10_isHurt_11 : decode cX10_isHurt 11 = .ok (.iload_n 1, 1) := by decide +kernel
theorem dX10_isHurt_12 : decode cX10_isHurt 12 = .ok (.iload_n 2, 1) := by decide +kernel
theorem dX10_isHurt_13 : decode cX10_isHurt 13 = .ok (.aload_n 0, 1) := by decide +kernel
theorem dX10_isHurt_14 : decode cX10_isHurt 14 = .ok (.getfield 96, 3) := by decide +kernel
theorem dX10_isHurt_17 : decode cX10_isHurt 17 = .ok (.bipush 6, 2) := by decide +kernel
theorem dX10_isHurt_19 : decode cX10_isHurt 19 = .ok (.iload_n 1, 1) := by decide +kernel
theorem dX10_isHurt_20 : decode cX10_isHurt 20 = .ok (.imul, 1) := by decide +kernel
theorem dX10_isHurt_21 : decode cX10_isHurt 21 = .ok (.iload_n 2, 1) := by decide +kernel
theorem dX10_isHurt_22 : decode cX10_isHurt 22 = .ok (.iadd, 1) := by decide +kernel
theorem dX10_isHurt_23 : decode cX10_isHurt 23 = .ok (.iaload, 1) := by decide +kernel
theorem dX10_isHurt_24 : decode cX10_isHurt 24 = .ok (.iconst 0, 1) := by decide +kernel
theorem dX10_isHurt_25 : decode cX10_isHurt 25 = .ok (.invokevirtual 340, 3) := by decide +kernel
theorem dX10_isHurt_28 : decode cX10_isHurt 28 = .ok (.aload_n 0, 1) := by decide +kernel
theorem dX10_isHurt_29 : decode cX10_isHurt 29 = .ok (.iload_n 1, 1) := by decide +kernel
theorem dX10_isHurt_30 : decode cX10_isHurt 30 = .ok (.aload_n 0, 1) := by decide +kernel
theorem dX10_isHurt_31 : decode cX10_isHurt 31 = .ok (.iconst 2, 1) := by decide +kernel
theorem dX10_isHurt_32 : decode cX10_isHurt 32 = .ok (.iconst 0, 1) := by decide +kernel
theorem dX10_isHurt_33 : decode cX10_isHurt 33 = .ok (.bipush 100, 2) := by decide +kernel
theorem dX10_isHurt_35 : decode cX10_isHurt 35 = .ok (.aload_n 0, 1) := by decide +kernel
theorem dX10_isHurt_36 : decode cX10_isHurt 36 = .ok (.getfield 13, 3) := by decide +kernel
theorem dX10_isHurt_39 : decode cX10_isHurt 39 = .ok (.bipush 6, 2) := by decide +kernel
theorem dX10_isHurt_41 : decode cX10_isHurt 41 = .ok (.iaload, 1) := by decide +kernel
theorem dX10_isHurt_42 : decode cX10_isHurt 42 = .ok (.invokevirtual 374, 3) := by decide +kernel
theorem dX10_isHurt_45 : decode cX10_isHurt 45 = .ok (.iload_n 3, 1) := by decide +kernel
theorem dX10_isHurt_46 : decode cX10_isHurt 46 = .ok (.invokevirtual 378, 3) := by decide +kernel
theorem dX10_isHurt_49 : decode cX10_isHurt 49 = .ok (.ireturn, 1) := by decide +kernel
theorem dX10_leaves_0 : decode cX10_leaves 0 = .ok (.aload_n 0, 1) := by decide +kernel
theorem dX10_leaves_1 : decode cX10_leaves 1 = .ok (.getfield 93, 3) := by decide +kernel
theorem dX10_leaves_4 : decode cX10_leaves 4 = .ok (.bipush 6, 2) := by decide +kernel
theorem dX10_leaves_6 : decode cX10_leaves 6 = .ok (.iload_n 1, 1) := by decide +kernel
theorem dX10_leaves_7 : decode cX10_leaves 7 = .ok (.imul, 1) := by decide +kernel
theorem dX10_leaves_8 : decode cX10_leaves 8 = .ok (.iload_n 2, 1) := by decide +kernel
theorem dX10_leaves_9 : decode cX10_leaves 9 = .ok (.iadd, 1) := by decide +kernel
theorem dX10_leaves_10 : decode cX10_leaves 10 = .ok (.iload_n 3, 1) := by decide +kernel
theorem dX10_leaves_11 : decode cX10_leaves 11 = .ok (.iastore, 1) := by decide +kernel
theorem dX10_leaves_12 : decode cX10_leaves 12 = .ok (.aload_n 0, 1) := by decide +kernel
theorem dX10_leaves_13 : decode cX10_leaves 13 = .ok (.getfield 96, 3) := by decide +kernel
theorem dX10_leaves_16 : decode cX10_leaves 16 = .ok (.bipush 6, 2) := by decide +kernel
theorem dX10_leaves_18 : decode cX10_leaves 18 = .ok (.iload_n 1, 1) := by decide +kernel
theorem dX10_leaves_19 : decode cX10_leaves 19 = .ok (.imul, 1) := by decide +kernel
theorem dX10_leaves_20 : decode cX10_leaves 20 = .ok (.iload_n 2, 1) := by decide +kernel
theorem dX10_leaves_21 : decode cX10_leaves 21 = .ok (.iadd, 1) := by decide +kernel
theorem dX10_leaves_22 : decode cX10_leaves 22 = .ok (.iconst (-1), 1) := by decide +kernel
theorem dX10_leaves_23 : decode cX10_leaves 23 = .ok (.iastore, 1) := by decide +kernel
theorem dX10_leaves_24 : decode cX10_leaves 24 = .ok (.aload_n 0, 1) := by decide +kernel
theorem dX10_leaves_25 : decode cX10_leaves 25 = .ok (.getfield 99, 3) := by decide +kernel
theorem dX10_leaves_28 : decode cX10_leaves 28 = .ok (.bipush 6, 2) := by decide +kernel
theorem dX10_leaves_30 : decode cX10_leaves 30 = .ok (.iload_n 1, 1) := by decide +kernel
theorem dX10_leaves_31 : decode cX10_leaves 31 = .ok (.imul, 1) := by decide +kernel
theorem dX10_leaves_32 : decode cX10_leaves 32 = .ok (.iload_n 2, 1) := by decide +kernel
theorem dX10_leaves_33 : decode cX10_leaves 33 = .ok (.iadd, 1) := by decide +kernel
theorem dX10_leaves_34 : decode cX10_leaves 34 = .ok (.iconst 0, 1) := by decide +kernel
theorem dX10_leaves_35 : decode cX10_leaves 35 = .ok (.iastore, 1) := by decide +kernel
theorem dX10_leaves_36 : decode cX10_leaves 36 = .ok (.return_, 1) := by decide +kernel
theorem dX10_goesOnInside_0 : decode cX10_goesOnInside 0 = .ok (.bipush 6, 2) := by decide +kernel
theorem dX10_goesOnInside_2 : decode cX10_goesOnInside 2 = .ok (.iload_n 1, 1) := by decide +kernel
theorem dX10_goesOnInside_3 : decode cX10_goesOnInside 3 = .ok (.imul, 1) := by decide +kernel
theorem dX10_goesOnInside_4 : decode cX10_goesOnInside 4 = .ok (.iload_n 2, 1) := by decide +kernel
theorem dX10_goesOnInside_5 : decode cX10_goesOnInside 5 = .ok (.iadd, 1) := by decide +kernel
theorem dX10_goesOnInside_6 : decode cX10_goesOnInside 6 = .ok (.istore 4, 2) := by decide +kernel
theorem dX10_goesOnInside_8 : decode cX10_goesOnInside 8 = .ok (.aload_n 0, 1) := by decide +kernel
theorem dX10_goesOnInside_9 : decode cX10_goesOnInside 9 = .ok (.getfield 96, 3) := by decide +kernel
theorem dX10_goesOnInside_12 : decode cX10_goesOnInside 12 = .ok (.iload 4, 2) := by decide +kernel
theorem dX10_goesOnInside_14 : decode cX10_goesOnInside 14 = .ok (.iaload, 1) := by decide +kernel
theorem dX10_goesOnInside_15 : decode cX10_goesOnInside 15 = .ok (.istore 5, 2) := by decide +kernel
theorem dX10_goesOnInside_17 : decode cX10_goesOnInside 17 = .ok (.bipush 8, 2) := by decide +kernel
theorem dX10_goesOnInside_19 : decode cX10_goesOnInside 19 = .ok (.iload_n 1, 1) := by decide +kernel
theorem dX10_goesOnInside_20 : decode cX10_goesOnInside 20 = .ok (.imul, 1) := by decide +kernel
theorem dX10_goesOnInside_21 : decode cX10_goesOnInside 21 = .ok (.iload 5, 2) := by decide +kernel
theorem dX10_goesOnInside_23 : decode cX10_goesOnInside 23 = .ok (.iadd, 1) := by decide +kernel
theorem dX10_goesOnInside_24 : decode cX10_goesOnInside 24 = .ok (.istore 6, 2) := by decide +kernel
theorem dX10_goesOnInside_26 : decode cX10_goesOnInside 26 = .ok (.aload_n 0, 1) := by decide +kernel
theorem dX10_goesOnInside_27 : decode cX10_goesOnInside 27 = .ok (.getfield 99, 3) := by decide +kernel
theorem dX10_goesOnInside_30 : decode cX10_goesOnInside 30 = .ok (.iload 4, 2) := by decide +kernel
theorem dX10_goesOnInside_32 : decode cX10_goesOnInside 32 = .ok (.dup2, 1) := by decide +kernel
theorem dX10_goesOnInside_33 : decode cX10_goesOnInside 33 = .ok (.iaload, 1) := by decide +kernel
theorem dX10_goesOnInside_34 : decode cX10_goesOnInside 34 = .ok (.iconst 1, 1) := by decide +kernel
theorem dX10_goesOnInside_35 : decode cX10_goesOnInside 35 = .ok (.iadd, 1) := by decide +kernel
theorem dX10_goesOnInside_36 : decode cX10_goesOnInside 36 = .ok (.iastore, 1) := by decide +kernel
theorem dX10_goesOnInside_37 : decode cX10_goesOnInside 37 = .ok (.aload_n 0, 1) := by decide +kernel
theorem dX10_goesOnInside_38 : decode cX10_goesOnInside 38 = .ok (.iload_n 1, 1) := by decide +kernel
theorem dX10_goesOnInside_39 : decode cX10_goesOnInside 39 = .ok (.iload_n 2, 1) := by decide +kernel
theorem dX10_goesOnInside_40 : decode cX10_goesOnInside 40 = .ok (.iload_n 3, 1) := by decide +kernel
theorem dX10_goesOnInside_41 : decode cX10_goesOnInside 41 = .ok (.invokevirtual 382, 3) := by decide +kernel
theorem dX10_goesOnInside_44 : decode cX10_goesOnInside 44 = .ok (.ifCond .eq 30, 3) := by decide +kernel
