theorem dX10_product_36 : decode cX10_product 36 = .ok (.invokevirtual 288, 3) := by decide +kernel
theorem dX10_product_39 : decode cX10_product 39 = .ok (.aload_n 0, 1) := by decide +kernel
theorem dX10_product_40 : decode cX10_product 40 = .ok (.iconst 2, 1) := by decide +kernel
theorem dX10_product_41 : decode cX10_product 41 = .ok (.iload_n 1, 1) := by decide +kernel
theorem dX10_product_42 : decode cX10_product 42 = .ok (.invokevirtual 276, 3) := by decide +kernel
theorem dX10_product_45 : decode cX10_product 45 = .ok (.goto (-41), 3) := by decide +kernel
theorem dX10_product_48 : decode cX10_product 48 = .ok (.return_, 1) := by decide +kernel
theorem dX10_primary_0 : decode cX10_primary 0 = .ok (.aload_n 0, 1) := by decide +kernel
theorem dX10_primary_1 : decode cX10_primary 1 = .ok (.getfield 208, 3) := by decide +kernel
theorem dX10_primary_4 : decode cX10_primary 4 = .ok (.ifCond .eq 4, 3) := by decide +kernel
theorem dX10_primary_7 : decode cX10_primary 7 = .ok (.return_, 1) := by decide +kernel
theorem dX10_primary_8 : decode cX10_primary 8 = .ok (.aload_n 0, 1) := by decide +kernel
theorem dX10_primary_9 : decode cX10_primary 9 = .ok (.bipush 40, 2) := by decide +kernel
theorem dX10_primary_11 : decode cX10_primary 11 = .ok (.invokevirtual 255, 3) := by decide +kernel
theorem dX10_primary_14 : decode cX10_primary 14 = .ok (.ifCond .eq 87, 3) := by decide +kernel
theorem dX10_primary_17 : decode cX10_primary 17 = .ok (.aload_n 0, 1) := by decide +kernel
theorem dX10_primary_18 : decode cX10_primary 18 = .ok (.getfield 291, 3) := by decide +kernel
theorem dX10_primary_21 : decode cX10_primary 21 = .ok (.bipush 8, 2) := by decide +kernel
theorem dX10_primary_23 : decode cX10_primary 23 = .ok (.if_icmp .ne 8, 3) := by decide +kernel
theorem dX10_primary_26 : decode cX10_primary 26 = .ok (.aload_n 0, 1) := by decide +kernel
theorem dX10_primary_27 : decode cX10_primary 27 = .ok (.iconst 2, 1) := by decide +kernel
theorem dX10_primary_28 : decode cX10_primary 28 = .ok (.invokevirtual 217, 3) := by decide +kernel
theorem dX10_primary_31 : decode cX10_primary 31 = .ok (.aload_n 0, 1) := by decide +kernel
theorem dX10_primary_32 : decode cX10_primary 32 = .ok (.getfield 208, 3) := by decide +kernel
theorem dX10_primary_35 : decode cX10_primary 35 = .ok (.ifCond .eq 4, 3) := by decide +kernel
theorem dX10_primary_38 : decode cX10_primary 38 = .ok (.return_, 1) := by decide +kernel
theorem dX10_primary_39 : decode cX10_primary 39 = .ok (.aload_n 0, 1) := by decide +kernel
theorem dX10_primary_40 : decode cX10_primary 40 = .ok (.dup, 1) := by decide +kernel
theorem dX10_primary_41 : decode cX10_primary 41 = .ok (.getfield 291, 3) := by decide +kernel
theorem dX10_primary_44 : decode cX10_primary 44 = .ok (.iconst 1, 1) := by decide +kernel
theorem dX10_primary_45 : decode cX10_primary 45 = .ok (.iadd, 1) := by decide +kernel
theorem dX10_primary_46 : decode cX10_primary 46 = .ok (.putfield 291, 3) := by decide +kernel
theorem dX10_primary_49 : decode cX10_primary 49 = .ok (.aload_n 0, 1) := by decide +kernel
theorem dX10_primary_50 : decode cX10_primary 50 = .ok (.invokevirtual 214, 3) := by decide +kernel
theorem dX10_primary_53 : decode cX10_primary 53 = .ok (.aload_n 0, 1) := by decide +kernel
theorem dX10_primary_54 : decode cX10_primary 54 = .ok (.invokevirtual 261, 3) := by decide +kernel
theorem dX10_primary_57 : decode cX10_primary 57 = .ok (.aload_n 0, 1) := by decide +kernel
theorem dX10_primary_58 : decode cX10_primary 58 = .ok (.getfield 208, 3) := by decide +kernel
theorem dX10_primary_61 : decode cX10_primary 61 = .ok (.ifCond .ne 17, 3) := by decide +kernel
theorem dX10_primary_64 : decode cX10_primary 64 = .ok (.aload_n 0, 1) := by decide +kernel
theorem dX10_primary_65 : decode cX10_primary 65 = .ok (.bipush 41, 2) := by decide +kernel
theorem dX10_primary_67 : decode cX10_primary 67 = .ok (.invokevirtual 255, 3) := by decide +kernel
theorem dX10_primary_70 : decode cX10_primary 70 = .ok (.ifCond .ne 8, 3) := by decide +kernel
theorem dX10_primary_73 : decode cX10_primary 73 = .ok (.aload_n 0, 1) := by decide +kernel
theorem dX10_primary_74 : decode cX10_primary 74 = .ok (.iconst 1, 1) := by decide +kernel
theorem dX10_primary_75 : decode cX10_primary 75 = .ok (.invokevirtual 217, 3) := by decide +kernel
theorem dX10_primary_78 : decode cX10_primary 78 = .ok (.aload_n 0, 1) := by decide +kernel
theorem dX10_primary_79 : decode cX10_primary 79 = .ok (.getfield 208, 3) := by decide +kernel
theorem dX10_primary_82 : decode cX10_primary 82 = .ok (.ifCond .eq 4, 3) := by decide +kernel
theorem dX10_primary_85 : decode cX10_primary 85 = .ok (.return_, 1) := by decide +kernel
theorem dX10_primary_86 : decode cX10_primary 86 = .ok (.aload_n 0, 1) := by decide +kernel
theorem dX10_primary_87 : decode cX10_primary 87 = .ok (.dup, 1) := by decide +kernel
theorem dX10_primary_88 : decode cX10_primary 88 = .ok (.getfield 291, 3) := by decide +kernel
theorem dX10_primary_91 : decode cX10_primary 91 = .ok (.iconst 1, 1) := by decide +kernel
theorem dX10_primary_92 : decode cX10_primary 92 = .ok (.isub, 1) := by decide +kernel
theorem dX10_primary_93 : decode cX10_primary 93 = .ok (.putfield 291, 3) := by decide +kernel
theorem dX10_primary_96 : decode cX10_primary 96 = .ok (.aload_n 0, 1) := by decide +kernel
theorem dX10_primary_97 : decode cX10_primary 97 = .ok (.invokevirtual 214, 3) := by decide +kernel
theorem dX10_primary_100 : decode cX10_primary 100 = .ok (.return_, 1) := by decide +kernel
theorem dX10_primary_101 : decode cX10_primary 101 = .ok (.aload_n 0, 1) := by decide +kernel
theorem dX10_primary_102 : decode cX10_primary 102 = .ok (.getfield 173, 3) := by decide +kernel
theorem dX10_primary_105 : decode cX10_primary 105 = .ok (.iconst 2, 1) := by decide +kernel
theorem dX10_primary_106 : decode cX10_primary 106 = .ok (.if_icmp .ne 7, 3) := by decide +kernel
theorem dX10_primary_109 : decode cX10_primary 109 = .ok (.iconst 1, 1) := by decide +kernel
theorem dX10_primary_110 : decode cX10_primary 110 = .ok (.goto 4, 3) := by decide +kernel
theorem dX10_primary_113 : decode cX10_primary 113 = .ok (.iconst 0, 1) := by decide +kernel
theorem dX10_primary_114 : decode cX10_primary 114 = .ok (.istore_n 1, 1) := by decide +kernel
theorem dX10_primary_115 : decode cX10_primary 115 = .ok (.iload_n 1, 1) := by decide +kernel
theorem dX10_primary_116 : decode cX10_primary 116 = .ok (.ifCond .eq 21, 3) := by decide +kernel
theorem dX10_primary_119 : decode cX10_primary 119 = .ok (.aload_n 0, 1) := by decide +kernel
theorem dX10_primary_120 : decode cX10_primary 120 = .ok (.getfield 183, 3) := by decide +kernel
theorem dX10_primary_123 : decode cX10_primary 123 = .ok (.sipush 9999, 3) := by decide +kernel
theorem dX10_primary_126 : decode cX10_primary 126 = .ok (.if_icmp .le 11, 3) := by decide +kernel
theorem dX10_primary_129 : decode cX10_primary 129 = .ok (.aload_n 0, 1) := by decide +kernel
theorem dX10_primary_130 : decode cX10_primary 130 = .ok (.iconst 2, 1) := by decide +kernel
theorem dX10_primary_131 : decode cX10_primary 131 = .ok (.invokevirtual 217, 3) := by decide +kernel
theorem dX10_primary_134 : decode cX10_primary 134 = .ok (.goto 28, 3) := by decide +kernel
theorem dX10_primary_137 : decode cX10_primary 137 = .ok (.iload_n 1, 1) := by decide +kernel
theorem dX10_primary_138 : decode cX10_primary 138 = .ok (.ifCond .ne 24, 3) := by decide +kernel
theorem dX10_primary_141 : decode cX10_primary 141 = .ok (.aload_n 0, 1) := by decide +kernel
theorem dX10_primary_142 : decode cX10_primary 142 = .ok (.getfield 173, 3) := by decide +kernel
theorem dX10_primary_145 : decode cX10_primary 145 = .ok (.ifCond .ne 12, 3) := by decide +kernel
theorem dX10_primary_148 : decode cX10_primary 148 = .ok (.aload_n 0, 1) := by decide +kernel
theorem dX10_primary_149 : decode cX10_primary 149 = .ok (.getfield 183, 3) := by decide +kernel
theorem dX10_primary_152 : decode cX10_primary 152 = .ok (.bipush 15, 2) := by decide +kernel
theorem dX10_primary_154 : decode cX10_primary 154 = .ok (.if_icmp .ge 8, 3) := by decide +kernel
theorem dX10_primary_157 : decode cX10_primary 157 = .ok (.aload_n 0, 1) := by decide +kernel
theorem dX10_primary_158 : decode cX10_primary 158 = .ok (.iconst 1, 1) := by decide +kernel
theorem dX10_primary_159 : decode cX10_primary 159 = .ok (.invokevirtual 217, 3) := by decide +kernel
theorem dX10_primary_162 : decode cX10_primary 162 = .ok (.aload_n 0, 1) := by decide +kernel
theorem dX10_primary_163 : decode cX10_primary 163 = .ok (.invokevirtual 273, 3) := by decide +kernel
theorem dX10_primary_166 : decode cX10_primary 166 = .ok (.aload_n 0, 1) := by decide +kernel
theorem dX10_primary_167 : decode cX10_primary 167 = .ok (.iload_n 1, 1) := by decide +kernel
theorem dX10_primary_168 : decode cX10_primary 168 = .ok (.ifCond .eq 7, 3) := by decide +kernel
theorem dX10_primary_171 : decode cX10_primary 171 = .ok (.iconst 0, 1) := by decide +kernel
theorem dX10_primary_172 : decode cX10_primary 172 = .ok (.goto 4, 3) := by decide +kernel
theorem dX10_primary_175 : decode cX10_primary 175 = .ok (.iconst 1, 1) := by decide +kernel
theorem dX10_primary_176 : decode cX10_primary 176 = .ok (.iload_n 1, 1) := by decide +kernel
theorem dX10_primary_177 : decode cX10_primary 177 = .ok (.ifCond .eq 10, 3) := by decide +kernel
theorem dX10_primary_180 : decode cX10_primary 180 = .ok (.aload_n 0, 1) := by decide +kernel
theorem dX10_primary_181 : decode cX10_primary 181 = .ok (.getfield 183, 3) := by decide +kernel
theorem dX10_primary_184 : decode cX10_primary 184 = .ok (.goto 10, 3) := by decide +kernel
theorem dX10_primary_187 : decode cX10_primary 187 = .ok (.aload_n 0, 1) := by decide +kernel
theorem dX10_primary_188 : decode cX10_primary 188 = .ok (.getfield 183, 3) := by decide +kernel
theorem dX10_primary_191 : decode cX10_primary 191 = .ok (.bipush 15, 2) := by decide +kernel
theorem dX10_primary_193 : decode cX10_primary 193 = .ok (.isub, 1) := by decide +kernel
theorem dX10_primary_194 : decode cX10_primary 194 = .ok (.invokevirtual 276, 3) := by decide +kernel
theorem dX10_primary_197 : decode cX10_primary 197 = .ok (.aload_n 0, 1) := by decide +kernel
theorem dX10_primary_198 : decode cX10_primary 198 = .ok (.invokevirtual 228, 3) := by decide +kernel
theorem dX10_primary_201 : decode cX10_primary 201 = .ok (.return_, 1) := by decide +kernel
theorem dX10_half_0 : decode cX10_half 0 = .ok (.aload_n 0, 1) := by decide +kernel
theorem dX10_half_1 : decode cX10_half 1 = .ok (.arraylength, 1) := by decide +kernel
theorem dX10_half_2 : decode cX10_half 2 = .ok (.iconst 2, 1) := by decide +kernel
theorem dX10_half_3 : decode cX10_half 3 = .ok (.idiv, 1) := by decide +kernel
theorem dX10_half_4 : decode cX10_half 4 = .ok (.istore_n 1, 1) := by decide +kernel
theorem dX10_half_5 : decode cX10_half 5 = .ok (.iconst 0, 1) := by decide +kernel
theorem dX10_half_6 : decode cX10_half 6 = .ok (.istore_n 2, 1) := by decide +kernel
theorem dX10_half_7 : decode cX10_half 7 = .ok (.iload_n 2, 1) := by decide +kernel
theorem dX10_half_8 : decode cX10_half 8 = .ok (.iload_n 1, 1) := by decide +kernel
theorem dX10_half_9 : decode cX10_half 9 = .ok (.if_icmp .ge 17, 3) := by decide +kernel
theorem dX10_half_12 : decode cX10_half 12 = .ok (.aload_n 0, 1) := by decide +kernel
theorem dX10_half_13 : decode cX10_half 13 = .ok (.iload_n 2, 1) := by decide +kernel
theorem dX10_half_14 : decode cX10_half 14 = .ok (.aload_n 0, 1) := by decide +kernel
theorem dX10_half_15 : decode cX10_half 15 = .ok (.iload_n 1, 1) := by decide +kernel
theorem dX10_half_16 : decode cX10_half 16 = .ok (.iload_n 2, 1) := by decide +kernel
theorem dX10_half_17 : decode cX10_half 17 = .ok (.iadd, 1) := by decide +kernel
theorem dX10_half_18 : decode cX10_half 18 = .ok (.iaload, 1) := by decide +kernel
theorem dX10_half_19 : decode cX10_half 19 = .ok (.iastore, 1) := by decide +kernel
theorem dX10_half_20 : decode cX10_half 20 = .ok (.iinc 2 1, 3) := by decide +kernel
theorem dX10_half_23 : decode cX10_half 23 = .ok (.goto (-16), 3) := by decide +kernel
theorem dX10_half_26 : decode cX10_half 26 = .ok (.return_, 1) := by decide +kernel
theorem dX10_text_0 : decode cX10_text 0 = .ok (.aload_n 0, 1) := by decide +kernel
theorem dX10_text_1 : decode cX10_text 1 = .ok (.iconst 0, 1) := by decide +kernel
theorem dX10_text_2 : decode cX10_text 2 = .ok (.putfield 154, 3) := by decide +kernel
theorem dX10_text_5 : decode cX10_text 5 = .ok (.iload_n 1, 1) := by decide +kernel
theorem dX10_text_6 : decode cX10_text 6 = .ok (.ifCond .lt 11, 3) := by decide +kernel
theorem dX10_text_9 : decode cX10_text 9 = .ok (.iload_n 1, 1) := by decide +kernel
theorem dX10_text_10 : decode cX10_text 10 = .ok (.aload_n 0, 1) := by decide +kernel
theorem dX10_text_11 : decode cX10_text 11 = .ok (.getfield 157, 3) := by decide +kernel
theorem dX10_text_14 : decode cX10_text 14 = .ok (.if_icmp .le 6, 3) := by decide +kernel
theorem dX10_text_17 : decode cX10_text 17 = .ok (.bipush (-2), 2) := by decide +kernel
theorem dX10_text_19 : decode cX10_text 19 = .ok (.ireturn, 1) := by decide +kernel
theorem dX10_text_20 : decode cX10_text 20 = .ok (.aload_n 0, 1) := by decide +kernel
theorem dX10_text_21 : decode cX10_text 21 = .ok (.iload_n 1, 1) := by decide +kernel
theorem dX10_text_22 : decode cX10_text 22 = .ok (.putfield 163, 3) := by decide +kernel
theorem dX10_text_25 : decode cX10_text 25 = .ok (.aload_n 0, 1) := by decide +kernel
theorem dX10_text_26 : decode cX10_text 26 = .ok (.iconst 0, 1) := by decide +kernel
theorem dX10_text_27 : decode cX10_text 27 = .ok (.putfield 157, 3) := by decide +kernel
theorem dX10_text_30 : decode cX10_text 30 = .ok (.aload_n 0, 1) := by decide +kernel
theorem dX10_text_31 : decode cX10_text 31 = .ok (.iconst 0, 1) := by decide +kernel
theorem dX10_text_32 : decode cX10_text 32 = .ok (.putfield 160, 3) := by decide +kernel
theorem dX10_text_35 : decode cX10_text 35 = .ok (.aload_n 0, 1) := by decide +kernel
theorem dX10_text_36 : decode cX10_text 36 = .ok (.iconst 0, 1) := by decide +kernel
theorem dX10_text_37 : decode cX10_text 37 = .ok (.putfield 208, 3) := by decide +kernel
theorem dX10_text_40 : decode cX10_text 40 = .ok (.aload_n 0, 1) := by decide +kernel
theorem dX10_text_41 : decode cX10_text 41 = .ok (.iconst (-1), 1) := by decide +kernel
theorem dX10_text_42 : decode cX10_text 42 = .ok (.putfield 211, 3) := by decide +kernel
theorem dX10_text_45 : decode cX10_text 45 = .ok (.iconst 0, 1) := by decide +kernel
theorem dX10_text_46 : decode cX10_text 46 = .ok (.istore_n 2, 1) := by decide +kernel
theorem dX10_text_47 : decode cX10_text 47 = .ok (.iload_n 2, 1) := by decide +kernel
theorem dX10_text_48 : decode cX10_text 48 = .ok (.bipush 9, 2) := by decide +kernel
theorem dX10_text_50 : decode cX10_text 50 = .ok (.if_icmp .ge 34, 3) := by decide +kernel
theorem dX10_text_53 : decode cX10_text 53 = .ok (.aload_n 0, 1) := by decide +kernel
theorem dX10_text_54 : decode cX10_text 54 = .ok (.iload_n 2, 1) := by decide +kernel
theorem dX10_text_55 : decode cX10_text 55 = .ok (.iload_n 2, 1) := by decide +kernel
theorem dX10_text_56 : decode cX10_text 56 = .ok (.iconst 3, 1) := by decide +kernel
theorem dX10_text_57 : decode cX10_text 57 = .ok (.if_icmp .ne 8, 3) := by decide +kernel
theorem dX10_text_60 : decode cX10_text 60 = .ok (.bipush 99, 2) := by decide +kernel
theorem dX10_text_62 : decode cX10_text 62 = .ok (.goto 13, 3) := by decide +kernel
theorem dX10_text_65 : decode cX10_text 65 = .ok (.iload_n 2, 1) := by decide +kernel
theorem dX10_text_66 : decode cX10_text 66 = .ok (.iconst 4, 1) := by decide +kernel
theorem dX10_text_67 : decode cX10_text 67 = .ok (.if_icmp .ne 7, 3) := by decide +kernel
theorem dX10_text_70 : decode cX10_text 70 = .ok (.iconst 1, 1) := by decide +kernel
theorem dX10_text_71 : decode cX10_text 71 = .ok (.goto 4, 3) := by decide +kernel
theorem dX10_text_74 : decode cX10_text 74 = .ok (.iconst 0, 1) := by decide +kernel
theorem dX10_text_75 : decode cX10_text 75 = .ok (.invokevirtual 245, 3) := by decide +kernel
theorem dX10_text_78 : decode cX10_text 78 = .ok (.iinc 2 1, 3) := by decide +kernel
theorem dX10_text_81 : decode cX10_text 81 = .ok (.goto (-34), 3) := by decide +kernel
theorem dX10_text_84 : decode cX10_text 84 = .ok (.iconst 3, 1) := by decide +kernel
theorem dX10_text_85 : decode cX10_text 85 = .ok (.istore_n 2, 1) := by decide +kernel
theorem dX10_text_86 : decode cX10_text 86 = .ok (.iload_n 2, 1) := by decide +kernel
theorem dX10_text_87 : decode cX10_text 87 = .ok (.bipush 6, 2) := by decide +kernel
theorem dX10_text_89 : decode cX10_text 89 = .ok (.if_icmp .ge 23, 3) := by decide +kernel
theorem dX10_text_92 : decode cX10_text 92 = .ok (.aload_n 0, 1) := by decide +kernel
theorem dX10_text_93 : decode cX10_text 93 = .ok (.getfield 49, 3) := by decide +kernel
theorem dX10_text_96 : decode cX10_text 96 = .ok (.iload_n 2, 1) := by decide +kernel
theorem dX10_text_97 : decode cX10_text 97 = .ok (.iconst 0, 1) := by decide +kernel
theorem dX10_text_98 : decode cX10_text 98 = .ok (.iastore, 1) := by decide +kernel
theorem dX10_text_99 : decode cX10_text 99 = .ok (.aload_n 0, 1) := by decide +kernel
theorem dX10_text_100 : decode cX10_text 100 = .ok (.getfield 52, 3) := by decide +kernel
theorem dX10_text_103 : decode cX10_text 103 = .ok (.iload_n 2, 1) := by decide +kernel
theorem dX10_text_104 : decode cX10_text 104 = .ok (.iconst 0, 1) := by decide +kernel
theorem dX10_text_105 : decode cX10_text 105 = .ok (.iastore, 1) := by decide +kernel
theorem dX10_text_106 : decode cX10_text 106 = .ok (.iinc 2 1, 3) := by decide +kernel
theorem dX10_text_109 : decode cX10_text 109 = .ok (.goto (-23), 3) := by decide +kernel
theorem dX10_text_112 : decode cX10_text 112 = .ok (.aload_n 0, 1) := by decide +kernel
theorem dX10_text_113 : decode cX10_text 113 = .ok (.iconst 0, 1) := by decide +kernel
theorem dX10_text_114 : decode cX10_text 114 = .ok (.putfield 234, 3) := by decide +kernel
theorem dX10_text_117 : decode cX10_text 117 = .ok (.aload_n 0, 1) := by decide +kernel
theorem dX10_text_118 : decode cX10_text 118 = .ok (.iconst 0, 1) := by decide +kernel
theorem dX10_text_119 : decode cX10_text 119 = .ok (.putfield 258, 3) := by decide +kernel
theorem dX10_text_122 : decode cX10_text 122 = .ok (.aload_n 0, 1) := by decide +kernel
theorem dX10_text_123 : decode cX10_text 123 = .ok (.iconst 0, 1) := by decide +kernel
theorem dX10_text_124 : decode cX10_text 124 = .ok (.putfield 291, 3) := by decide +kernel
theorem dX10_text_127 : decode cX10_text 127 = .ok (.aload_n 0, 1) := by decide +kernel
theorem dX10_text_128 : decode cX10_text 128 = .ok (.iconst 0, 1) := by decide +kernel
theorem dX10_text_129 : decode cX10_text 129 = .ok (.putfield 264, 3) := by decide +kernel
theorem dX10_text_132 : decode cX10_text 132 = .ok (.aload_n 0, 1) := by decide +kernel
theorem dX10_text_133 : decode cX10_text 133 = .ok (.invokevirtual 214, 3) := by decide +kernel
theorem dX10_text_136 : decode cX10_text 136 = .ok (.aload_n 0, 1) := by decide +kernel
theorem dX10_text_137 : decode cX10_text 137 = .ok (.getfield 208, 3) := by decide +kernel
theorem dX10_text_140 : decode cX10_text 140 = .ok (.ifCond .ne 18, 3) := by decide +kernel
theorem dX10_text_143 : decode cX10_text 143 = .ok (.aload_n 0, 1) := by decide +kernel
theorem dX10_text_144 : decode cX10_text 144 = .ok (.getfield 173, 3) := by decide +kernel
theorem dX10_text_147 : decode cX10_text 147 = .ok (.iconst 4, 1) := by decide +kernel
theorem dX10_text_148 : decode cX10_text 148 = .ok (.if_icmp .eq 10, 3) := by decide +kernel
theorem dX10_text_151 : decode cX10_text 151 = .ok (.aload_n 0, 1) := by decide +kernel
theorem dX10_text_152 : decode cX10_text 152 = .ok (.invokevirtual 294, 3) := by decide +kernel
theorem dX10_text_155 : decode cX10_text 155 = .ok (.goto (-19), 3) := by decide +kernel
theorem dX10_text_158 : decode cX10_text 158 = .ok (.aload_n 0, 1) := by decide +kernel
theorem dX10_text_159 : decode cX10_text 159 = .ok (.aload_n 0, 1) := by decide +kernel
theorem dX10_text_160 : decode cX10_text 160 = .ok (.getfield 208, 3) := by decide +kernel
theorem dX10_text_163 : decode cX10_text 163 = .ok (.putfield 297, 3) := by decide +kernel
theorem dX10_text_166 : decode cX10_text 166 = .ok (.aload_n 0, 1) := by decide +kernel
theorem dX10_text_167 : decode cX10_text 167 = .ok (.aload_n 0, 1) := by decide +kernel
theorem dX10_text_168 : decode cX10_text 168 = .ok (.getfield 211, 3) := by decide +kernel
theorem dX10_text_171 : decode cX10_text 171 = .ok (.putfield 61, 3) := by decide +kernel
theorem dX10_text_174 : decode cX10_text 174 = .ok (.aload_n 0, 1) := by decide +kernel
theorem dX10_text_175 : decode cX10_text 175 = .ok (.getfield 208, 3) := by decide +kernel
theorem dX10_text_178 : decode cX10_text 178 = .ok (.ifCond .eq 5, 3) := by decide +kernel
theorem dX10_text_181 : decode cX10_text 181 = .ok (.iconst (-1), 1) := by decide +kernel
theorem dX10_text_182 : decode cX10_text 182 = .ok (.ireturn, 1) := by decide +kernel
theorem dX10_text_183 : decode cX10_text 183 = .ok (.aload_n 0, 1) := by decide +kernel
theorem dX10_text_184 : decode cX10_text 184 = .ok (.getfield 13, 3) := by decide +kernel
theorem dX10_text_187 : decode cX10_text 187 = .ok (.invokestatic 300, 3) := by decide +kernel
theorem dX10_text_190 : decode cX10_text 190 = .ok (.aload_n 0, 1) := by decide +kernel
theorem dX10_text_191 : decode cX10_text 191 = .ok (.getfield 16, 3) := by decide +kernel
theorem dX10_text_194 : decode cX10_text 194 = .ok (.invokestatic 300, 3) := by decide +kernel
theorem dX10_text_197 : decode cX10_text 197 = .ok (.aload_n 0, 1) := by decide +kernel
theorem dX10_text_198 : decode cX10_text 198 = .ok (.getfield 19, 3) := by decide +kernel
theorem dX10_text_201 : decode cX10_text 201 = .ok (.invokestatic 300, 3) := by decide +kernel
theorem dX10_text_204 : decode cX10_text 204 = .ok (.aload_n 0, 1) := by decide +kernel
theorem dX10_text_205 : decode cX10_text 205 = .ok (.getfield 22, 3) := by decide +kernel
theorem dX10_text_208 : decode cX10_text 208 = .ok (.invokestatic 300, 3) := by decide +kernel
theorem dX10_text_211 : decode cX10_text 211 = .ok (.aload_n 0, 1) := by decide +kernel
theorem dX10_text_212 : decode cX10_text 212 = .ok (.getfield 25, 3) := by decide +kernel
theorem dX10_text_215 : decode cX10_text 215 = .ok (.invokestatic 300, 3) := by decide +kernel
theorem dX10_text_218 : decode cX10_text 218 = .ok (.aload_n 0, 1) := by decide +kernel
theorem dX10_text_219 : decode cX10_text 219 = .ok (.getfield 28, 3) := by decide +kernel
theorem dX10_text_222 : decode cX10_text 222 = .ok (.invokestatic 300, 3) := by decide +kernel
theorem dX10_text_225 : decode cX10_text 225 = .ok (.aload_n 0, 1) := by decide +kernel
theorem dX10_text_226 : decode cX10_text 226 = .ok (.getfield 31, 3) := by decide +kernel
theorem dX10_text_229 : decode cX10_text 229 = .ok (.invokestatic 300, 3) := by decide +kernel
theorem dX10_text_232 : decode cX10_text 232 = .ok (.aload_n 0, 1) := by decide +kernel
theorem dX10_text_233 : decode cX10_text 233 = .ok (.getfield 34, 3) := by decide +kernel
theorem dX10_text_236 : decode cX10_text 236 = .ok (.invokestatic 300, 3) := by decide +kernel
theorem dX10_text_239 : decode cX10_text 239 = .ok (.aload_n 0, 1) := by decide +kernel
theorem dX10_text_240 : decode cX10_text 240 = .ok (.getfield 37, 3) := by decide +kernel
theorem dX10_text_243 : decode cX10_text 243 = .ok (.invokestatic 300, 3) := by decide +kernel
theorem dX10_text_246 : decode cX10_text 246 = .ok (.aload_n 0, 1) := by decide +kernel
theorem dX10_text_247 : decode cX10_text 247 = .ok (.getfield 40, 3) := by decide +kernel
theorem dX10_text_250 : decode cX10_text 250 = .ok (.invokestatic 300, 3) := by decide +kernel
theorem dX10_text_253 : decode cX10_text 253 = .ok (.aload_n 0, 1) := by decide +kernel
theorem dX10_text_254 : decode cX10_text 254 = .ok (.getfield 43, 3) := by decide +kernel
theorem dX10_text_257 : decode cX10_text 257 = .ok (.invokestatic 300, 3) := by decide +kernel
theorem dX10_text_260 : decode cX10_text 260 = .ok (.aload_n 0, 1) := by decide +kernel
theorem dX10_text_261 : decode cX10_text 261 = .ok (.getfield 46, 3) := by decide +kernel
theorem dX10_text_264 : decode cX10_text 264 = .ok (.invokestatic 300, 3) := by decide +kernel
theorem dX10_text_267 : decode cX10_text 267 = .ok (.aload_n 0, 1) := by decide +kernel
theorem dX10_text_268 : decode cX10_text 268 = .ok (.getfield 49, 3) := by decide +kernel
theorem dX10_text_271 : decode cX10_text 271 = .ok (.invokestatic 300, 3) := by decide +kernel
theorem dX10_text_274 : decode cX10_text 274 = .ok (.aload_n 0, 1) := by decide +kernel
theorem dX10_text_275 : decode cX10_text 275 = .ok (.getfield 52, 3) := by decide +kernel
theorem dX10_text_278 : decode cX10_text 278 = .ok (.invokestatic 300, 3) := by decide +kernel
theorem dX10_text_281 : decode cX10_text 281 = .ok (.aload_n 0, 1) := by decide +kernel
theorem dX10_text_282 : decode cX10_text 282 = .ok (.getfield 55, 3) := by decide +kernel
theorem dX10_text_285 : decode cX10_text 285 = .ok (.invokestatic 300, 3) := by decide +kernel
theorem dX10_text_288 : decode cX10_text 288 = .ok (.aload_n 0, 1) := by decide +kernel
theorem dX10_text_289 : decode cX10_text 289 = .ok (.getfield 58, 3) := by decide +kernel
theorem dX10_text_292 : decode cX10_text 292 = .ok (.invokestatic 300, 3) := by decide +kernel
theorem dX10_text_295 : decode cX10_text 295 = .ok (.aload_n 0, 1) := by decide +kernel
theorem dX10_text_296 : decode cX10_text 296 = .ok (.iconst 0, 1) := by decide +kernel
theorem dX10_text_297 : decode cX10_text 297 = .ok (.putfield 304, 3) := by decide +kernel
theorem dX10_text_300 : decode cX10_text 300 = .ok (.aload_n 0, 1) := by decide +kernel
theorem dX10_text_301 : decode cX10_text 301 = .ok (.iconst (-1), 1) := by decide +kernel
theorem dX10_text_302 : decode cX10_text 302 = .ok (.putfield 132, 3) := by decide +kernel
theorem dX10_text_305 : decode cX10_text 305 = .ok (.aload_n 0, 1) := by decide +kernel
theorem dX10_text_306 : decode cX10_text 306 = .ok (.iconst 0, 1) := by decide +kernel
theorem dX10_text_307 : decode cX10_text 307 = .ok (.putfield 307, 3) := by decide +kernel
theorem dX10_text_310 : decode cX10_text 310 = .ok (.aload_n 0, 1) := by decide +kernel
theorem dX10_text_311 : decode cX10_text 311 = .ok (.iconst 0, 1) := by decide +kernel
theorem dX10_text_312 : decode cX10_text 312 = .ok (.putfield 311, 3) := by decide +kernel
theorem dX10_text_315 : decode cX10_text 315 = .ok (.aload_n 0, 1) := by decide +kernel
theorem dX10_text_316 : decode cX10_text 316 = .ok (.invokevirtual 151, 3) := by decide +kernel
theorem dX10_text_319 : decode cX10_text 319 = .ok (.aload_n 0, 1) := by decide +kernel
theorem dX10_text_320 : decode cX10_text 320 = .ok (.getfield 258, 3) := by decide +kernel
theorem dX10_text_323 : decode cX10_text 323 = .ok (.ireturn, 1) := by decide +kernel
theorem dX10_fault_0 : decode cX10_fault 0 = .ok (.aload_n 0, 1) := by decide +kernel
theorem dX10_fault_1 : decode cX10_fault 1 = .ok (.iconst 0, 1) := by decide +kernel
theorem dX10_fault_2 : decode cX10_fault 2 = .ok (.putfield 154, 3) := by decide +kernel
theorem dX10_fault_5 : decode cX10_fault 5 = .ok (.iload_n 1, 1) := by decide +kernel
theorem dX10_fault_6 : decode cX10_fault 6 = .ok (.ifCond .ne 10, 3) := by decide +kernel
theorem dX10_fault_9 : decode cX10_fault 9 = .ok (.aload_n 0, 1) := by decide +kernel
theorem dX10_fault_10 : decode cX10_fault 10 = .ok (.getfield 297, 3) := by decide +kernel
theorem dX10_fault_13 : decode cX10_fault 13 = .ok (.goto 16, 3) := by decide +kernel
theorem dX10_fault_16 : decode cX10_fault 16 = .ok (.iload_n 1, 1) := by decide +kernel
theorem dX10_fault_17 : decode cX10_fault 17 = .ok (.iconst 1, 1) := by decide +kernel
theorem dX10_fault_18 : decode cX10_fault 18 = .ok (.if_icmp .ne 10, 3) := by decide +kernel
theorem dX10_fault_21 : decode cX10_fault 21 = .ok (.aload_n 0, 1) := by decide +kernel
theorem dX10_fault_22 : decode cX10_fault 22 = .ok (.getfield 61, 3) := by decide +kernel
theorem dX10_fault_25 : decode cX10_fault 25 = .ok (.goto 4, 3) := by decide +kernel
theorem dX10_fault_28 : decode cX10_fault 28 = .ok (.iconst (-1), 1) := by decide +kernel
theorem dX10_fault_29 : decode cX10_fault 29 = .ok (.ireturn, 1) := by decide +kernel
theorem dX10_named_0 : decode cX10_named 0 = .ok (.aload_n 0, 1) := by decide +kernel
theorem dX10_named_1 : decode cX10_named 1 = .ok (.iconst 0, 1) := by decide +kernel
theorem dX10_named_2 : decode cX10_named 2 = .ok (.putfield 154, 3) := by decide +kernel
theorem dX10_named_5 : decode cX10_named 5 = .ok (.iload_n 1, 1) := by decide +kernel
theorem dX10_named_6 : decode cX10_named 6 = .ok (.lookupswitch 58 #[(0, 26), (1, 42)], 26) := by decide +kernel
theorem dX10_named_32 : decode cX10_named 32 = .ok (.aload_n 0, 1) := by decide +kernel
theorem dX10_named_33 : decode cX10_named 33 = .ok (.getfield 16, 3) := by decide +kernel
theorem dX10_named_36 : decode cX10_named 36 = .ok (.iconst 0, 1) := by decide +kernel
theorem dX10_named_37 : decode cX10_named 37 = .ok (.aload_n 0, 1) := by decide +kernel
theorem dX10_named_38 : decode cX10_named 38 = .ok (.getfield 13, 3) := by decide +kernel
theorem dX10_named_41 : decode cX10_named 41 = .ok (.iconst 0, 1) := by decide +kernel
theorem dX10_named_42 : decode cX10_named 42 = .ok (.iaload, 1) := by decide +kernel
theorem dX10_named_43 : decode cX10_named 43 = .ok (.iload_n 2, 1) := by decide +kernel
theorem dX10_named_44 : decode cX10_named 44 = .ok (.invokestatic 220, 3) := by decide +kernel
theorem dX10_named_47 : decode cX10_named 47 = .ok (.ireturn, 1) := by decide +kernel
theorem dX10_named_48 : decode cX10_named 48 = .ok (.aload_n 0, 1) := by decide +kernel
theorem dX10_named_49 : decode cX10_named 49 = .ok (.getfield 28, 3) := by decide +kernel
theorem dX10_named_52 : decode cX10_named 52 = .ok (.iconst 0, 1) := by decide +kernel
theorem dX10_named_53 : decode cX10_named 53 = .ok (.aload_n 0, 1) := by decide +kernel
theorem dX10_named_54 : decode cX10_named 54 = .ok (.getfield 13, 3) := by decide +kernel
theorem dX10_named_57 : decode cX10_named 57 = .ok (.iconst 1, 1) := by decide +kernel
theorem dX10_named_58 : decode cX10_named 58 = .ok (.iaload, 1) := by decide +kernel
theorem dX10_named_59 : decode cX10_named 59 = .ok (.iload_n 2, 1) := by decide +kernel
theorem dX10_named_60 : decode cX10_named 60 = .ok (.invokestatic 220, 3) := by decide +kernel
theorem dX10_named_63 : decode cX10_named 63 = .ok (.ireturn, 1) := by decide +kernel
theorem dX10_named_64 : decode cX10_named 64 = .ok (.iconst (-1), 1) := by decide +kernel
theorem dX10_named_65 : decode cX10_named 65 = .ok (.ireturn, 1) := by decide +kernel
theorem dX10_is_0 : decode cX10_is 0 = .ok (.iload_n 0, 1) := by decide +kernel
theorem dX10_is_1 : decode cX10_is 1 = .ok (.ifCond .eq 7, 3) := by decide +kernel
theorem dX10_is_4 : decode cX10_is 4 = .ok (.lconst 1, 1) := by decide +kernel
theorem dX10_is_5 : decode cX10_is 5 = .ok (.goto 4, 3) := by decide +kernel
theorem dX10_is_8 : decode cX10_is 8 = .ok (.lconst 0, 1) := by decide +kernel
theorem dX10_is_9 : decode cX10_is 9 = .ok (.lreturn, 1) := by decide +kernel
theorem dX10_works_0 : decode cX10_works 0 = .ok (.aload_n 0, 1) := by decide +kernel
theorem dX10_works_1 : decode cX10_works 1 = .ok (.getfield 69, 3) := by decide +kernel
theorem dX10_works_4 : decode cX10_works 4 = .ok (.aload_n 0, 1) := by decide +kernel
theorem dX10_works_5 : decode cX10_works 5 = .ok (.getfield 314, 3) := by decide +kernel
theorem dX10_works_8 : decode cX10_works 8 = .ok (.iconst 1, 1) := by decide +kernel
theorem dX10_works_9 : decode cX10_works 9 = .ok (.isub, 1) := by decide +kernel
theorem dX10_works_10 : decode cX10_works 10 = .ok (.laload, 1) := by decide +kernel
theorem dX10_works_11 : decode cX10_works 11 = .ok (.lstore_n 2, 1) := by decide +kernel
theorem dX10_works_12 : decode cX10_works 12 = .ok (.iload_n 1, 1) := by decide +kernel
theorem dX10_works_13 : decode cX10_works 13 = .ok (.sipush 260, 3) := by decide +kernel
theorem dX10_works_16 : decode cX10_works 16 = .ok (.if_icmp .ne 30, 3) := by decide +kernel
theorem dX10_works_19 : decode cX10_works 19 = .ok (.aload_n 0, 1) := by decide +kernel
theorem dX10_works_20 : decode cX10_works 20 = .ok (.getfield 69, 3) := by decide +kernel
theorem dX10_works_23 : decode cX10_works 23 = .ok (.aload_n 0, 1) := by decide +kernel
theorem dX10_works_24 : decode cX10_works 24 = .ok (.getfield 314, 3) := by decide +kernel
theorem dX10_works_27 : decode cX10_works 27 = .ok (.iconst 1, 1) := by decide +kernel
theorem dX10_works_28 : decode cX10_works 28 = .ok (.isub, 1) := by decide +kernel
theorem dX10_works_29 : decode cX10_works 29 = .ok (.lload_n 2, 1) := by decide +kernel
theorem dX10_works_30 : decode cX10_works 30 = .ok (.lconst 0, 1) := by decide +kernel
theorem dX10_works_31 : decode cX10_works 31 = .ok (.lcmp, 1) := by decide +kernel
theorem dX10_works_32 : decode cX10_works 32 = .ok (.ifCond .ne 7, 3) := by decide +kernel
theorem dX10_works_35 : decode cX10_works 35 = .ok (.iconst 1, 1) := by decide +kernel
theorem dX10_works_36 : decode cX10_works 36 = .ok (.goto 4, 3) := by decide +kernel
theorem dX10_works_39 : decode cX10_works 39 = .ok (.iconst 0, 1) := by decide +kernel
theorem dX10_works_40 : decode cX10_works 40 = .ok (.invokestatic 317, 3) := by decide +kernel
theorem dX10_works_43 : decode cX10_works 43 = .ok (.lastore, 1) := by decide +kernel
theorem dX10_works_44 : decode cX10_works 44 = .ok (.iconst 1, 1) := by decide +kernel
theorem dX10_works_45 : decode cX10_works 45 = .ok (.ireturn, 1) := by decide +kernel
theorem dX10_works_46 : decode cX10_works 46 = .ok (.aload_n 0, 1) := by decide +kernel
theorem dX10_works_47 : decode cX10_works 47 = .ok (.getfield 69, 3) := by decide +kernel
theorem dX10_works_50 : decode cX10_works 50 = .ok (.aload_n 0, 1) := by decide +kernel
theorem dX10_works_51 : decode cX10_works 51 = .ok (.getfield 314, 3) := by decide +kernel
theorem dX10_works_54 : decode cX10_works 54 = .ok (.iconst 2, 1) := by decide +kernel
theorem dX10_works_55 : decode cX10_works 55 = .ok (.isub, 1) := by decide +kernel
theorem dX10_works_56 : decode cX10_works 56 = .ok (.laload, 1) := by decide +kernel
theorem dX10_works_57 : decode cX10_works 57 = .ok (.lstore 4, 2) := by decide +kernel
theorem dX10_works_59 : decode cX10_works 59 = .ok (.aload_n 0, 1) := by decide +kernel
theorem dX10_works_60 : decode cX10_works 60 = .ok (.dup, 1) := by decide +kernel
theorem dX10_works_61 : decode cX10_works 61 = .ok (.getfield 314, 3) := by decide +kernel
theorem dX10_works_64 : decode cX10_works 64 = .ok (.iconst 1, 1) := by decide +kernel
theorem dX10_works_65 : decode cX10_works 65 = .ok (.isub, 1) := by decide +kernel
theorem dX10_works_66 : decode cX10_works 66 = .ok (.putfield 314, 3) := by decide +kernel
theorem dX10_works_69 : decode cX10_works 69 = .ok (.iload_n 1, 1) := by decide +kernel
theorem dX10_works_70 : decode cX10_works 70 = .ok (.lookupswitch 314 #[(42, 116), (43, 98), (45, 107), (47, 151), (60, 168), (61, 208), (62, 188), (256, 228), (257, 268), (258, 248), (261, 288)], 98) := by decide +kernel
theorem dX10_works_168 : decode cX10_works 168 = .ok (.lload 4, 2) := by decide +kernel
theorem dX10_works_170 : decode cX10_works 170 = .ok (.lload_n 2, 1) := by decide +kernel
theorem dX10_works_171 : decode cX10_works 171 = .ok (.ladd, 1) := by decide +kernel
theorem dX10_works_172 : decode cX10_works 172 = .ok (.lstore 6, 2) := by decide +kernel
theorem dX10_works_174 : decode cX10_works 174 = .ok (.goto 233, 3) := by decide +kernel
theorem dX10_works_177 : decode cX10_works 177 = .ok (.lload 4, 2) := by decide +kernel
theorem dX10_works_179 : decode cX10_works 179 = .ok (.lload_n 2, 1) := by decide +kernel
theorem dX10_works_180 : decode cX10_works 180 = .ok (.lsub, 1) := by decide +kernel
theorem dX10_works_181 : decode cX10_works 181 = .ok (.lstore 6, 2) := by decide +kernel
theorem dX10_works_183 : decode cX10_works 183 = .ok (.goto 224, 3) := by decide +kernel
theorem dX10_works_186 : decode cX10_works 186 = .ok (.lload 4, 2) := by decide +kernel
theorem dX10_works_188 : decode cX10_works 188 = .ok (.lconst 0, 1) := by decide +kernel
theorem dX10_works_189 : decode cX10_works 189 = .ok (.lcmp, 1) := by decide +kernel
theorem dX10_works_190 : decode cX10_works 190 = .ok (.ifCond .eq 22, 3) := by decide +kernel
theorem dX10_works_193 : decode cX10_works 193 = .ok (.lload_n 2, 1) := by decide +kernel
theorem dX10_works_194 : decode cX10_works 194 = .ok (.invokestatic 321, 3) := by decide +kernel
theorem dX10_works_197 : decode cX10_works 197 = .ok (.ldc2_w 327, 3) := by decide +kernel
theorem dX10_works_200 : decode cX10_works 200 = .ok (.lload 4, 2) := by decide +kernel
theorem dX10_works_202 : decode cX10_works 202 = .ok (.invokestatic 321, 3) := by decide +kernel
theorem dX10_works_205 : decode cX10_works 205 = .ok (.ldiv, 1) := by decide +kernel
theorem dX10_works_206 : decode cX10_works 206 = .ok (.lcmp, 1) := by decide +kernel
theorem dX10_works_207 : decode cX10_works 207 = .ok (.ifCond .le 5, 3) := by decide +kernel
theorem dX10_works_210 : decode cX10_works 210 = .ok (.iconst 0, 1) := by decide +kernel
theorem dX10_works_211 : decode cX10_works 211 = .ok (.ireturn, 1) := by decide +kernel
theorem dX10_works_212 : decode cX10_works 212 = .ok (.lload 4, 2) := by decide +kernel
theorem dX10_works_214 : decode cX10_works 214 = .ok (.lload_n 2, 1) := by decide +kernel
theorem dX10_works_215 : decode cX10_works 215 = .ok (.lmul, 1) := by decide +kernel
theorem dX10_works_216 : decode cX10_works 216 = .ok (.lstore 6, 2) := by decide +kernel
theorem dX10_works_218 : decode cX10_works 218 = .ok (.goto 189, 3) := by decide +kernel
theorem dX10_works_221 : decode cX10_works 221 = .ok (.lload_n 2, 1) := by decide +kernel
theorem dX10_works_222 : decode cX10_works 222 = .ok (.lconst 0, 1) := by decide +kernel
theorem dX10_works_223 : decode cX10_works 223 = .ok (.lcmp, 1) := by decide +kernel
theorem dX10_works_224 : decode cX10_works 224 = .ok (.ifCond .ne 5, 3) := by decide +kernel
theorem dX10_works_227 : decode cX10_works 227 = .ok (.iconst 0, 1) := by decide +kernel
theorem dX10_works_228 : decode cX10_works 228 = .ok (.ireturn, 1) := by decide +kernel
theorem dX10_works_229 : decode cX10_works 229 = .ok (.lload 4, 2) := by decide +kernel
theorem dX10_works_231 : decode cX10_works 231 = .ok (.lload_n 2, 1) := by decide +kernel
theorem dX10_works_232 : decode cX10_works 232 = .ok (.ldiv, 1) := by decide +kernel
theorem dX10_works_233 : decode cX10_works 233 = .ok (.lstore 6, 2) := by decide +kernel
theorem dX10_works_235 : decode cX10_works 235 = .ok (.goto 172, 3) := by decide +kernel
theorem dX10_works_238 : decode cX10_works 238 = .ok (.lload 4, 2) := by decide +kernel
theorem dX10_works_240 : decode cX10_works 240 = .ok (.lload_n 2, 1) := by decide +kernel
theorem dX10_works_241 : decode cX10_works 241 = .ok (.lcmp, 1) := by decide +kernel
theorem dX10_works_242 : decode cX10_works 242 = .ok (.ifCond .ge 7, 3) := by decide +kernel
theorem dX10_works_245 : decode cX10_works 245 = .ok (.iconst 1, 1) := by decide +kernel
theorem dX10_works_246 : decode cX10_works 246 = .ok (.goto 4, 3) := by decide +kernel
theorem dX10_works_249 : decode cX10_works 249 = .ok (.iconst 0, 1) := by decide +kernel
theorem dX10_works_250 : decode cX10_works 250 = .ok (.invokestatic 317, 3) := by decide +kernel
theorem dX10_works_253 : decode cX10_works 253 = .ok (.lstore 6, 2) := by decide +kernel
theorem dX10_works_255 : decode cX10_works 255 = .ok (.goto 152, 3) := by decide +kernel
theorem dX10_works_258 : decode cX10_works 258 = .ok (.lload 4, 2) := by decide +kernel
theorem dX10_works_260 : decode cX10_works 260 = .ok (.lload_n 2, 1) := by decide +kernel
theorem dX10_works_261 : decode cX10_works 261 = .ok (.lcmp, 1) := by decide +kernel
theorem dX10_works_262 : decode cX10_works 262 = .ok (.ifCond .le 7, 3) := by decide +kernel
theorem dX10_works_265 : decode cX10_works 265 = .ok (.iconst 1, 1) := by decide +kernel
theorem dX10_works_266 : decode cX10_works 266 = .ok (.goto 4, 3) := by decide +kernel
theorem dX10_works_269 : decode cX10_works 269 = .ok (.iconst 0, 1) := by decide +kernel
theorem dX10_works_270 : decode cX10_works 270 = .ok (.invokestatic 317, 3) := by decide +kernel
theorem dX10_works_273 : decode cX10_works 273 = .ok (.lstore 6, 2) := by decide +kernel
theorem dX10_works_275 : decode cX10_works 275 = .ok (.goto 132, 3) := by decide +kernel
theorem dX10_works_278 : decode cX10_works 278 = .ok (.lload 4, 2) := by decide +kernel
theorem dX10_works_280 : decode cX10_works 280 = .ok (.lload_n 2, 1) := by decide +kernel
theorem dX10_works_281 : decode cX10_works 281 = .ok (.lcmp, 1) := by decide +kernel
theorem dX10_works_282 : decode cX10_works 282 = .ok (.ifCond .ne 7, 3) := by decide +kernel
theorem dX10_works_285 : decode cX10_works 285 = .ok (.iconst 1, 1) := by decide +kernel
theorem dX10_works_286 : decode cX10_works 286 = .ok (.goto 4, 3) := by decide +kernel
theorem dX10_works_289 : decode cX10_works 289 = .ok (.iconst 0, 1) := by decide +kernel
theorem dX10_works_290 : decode cX10_works 290 = .ok (.invokestatic 317, 3) := by decide +kernel
theorem dX10_works_293 : decode cX10_works 293 = .ok (.lstore 6, 2) := by decide +kernel
theorem dX10_works_295 : decode cX10_works 295 = .ok (.goto 112, 3) := by decide +kernel
theorem dX10_works_298 : decode cX10_works 298 = .ok (.lload 4, 2) := by decide +kernel
theorem dX10_works_300 : decode cX10_works 300 = .ok (.lload_n 2, 1) := by decide +kernel
theorem dX10_works_301 : decode cX10_works 301 = .ok (.lcmp, 1) := by decide +kernel
theorem dX10_works_302 : decode cX10_works 302 = .ok (.ifCond .gt 7, 3) := by decide +kernel
theorem dX10_works_305 : decode cX10_works 305 = .ok (.iconst 1, 1) := by decide +kernel
theorem dX10_works_306 : decode cX10_works 306 = .ok (.goto 4, 3) := by decide +kernel
theorem dX10_works_309 : decode cX10_works 309 = .ok (.iconst 0, 1) := by decide +kernel
theorem dX10_works_310 : decode cX10_works 310 = .ok (.invokestatic 317, 3) := by decide +kernel
theorem dX10_works_313 : decode cX10_works 313 = .ok (.lstore 6, 2) := by decide +kernel
theorem dX10_works_315 : decode cX10_works 315 = .ok (.goto 92, 3) := by decide +kernel
theorem dX10_works_318 : decode cX10_works 318 = .ok (.lload 4, 2) := by decide +kernel
theorem dX10_works_320 : decode cX10_works 320 = .ok (.lload_n 2, 1) := by decide +kernel
theorem dX10_works_321 : decode cX10_works 321 = .ok (.lcmp, 1) := by decide +kernel
theorem dX10_works_322 : decode cX10_works 322 = .ok (.ifCond .lt 7, 3) := by decide +kernel
theorem dX10_works_325 : decode cX10_works 325 = .ok (.iconst 1, 1) := by decide +kernel
theorem dX10_works_326 : decode cX10_works 326 = .ok (.goto 4, 3) := by decide +kernel
theorem dX10_works_329 : decode cX10_works 329 = .ok (.iconst 0, 1) := by decide +kernel
theorem dX10_works_330 : decode cX10_works 330 = .ok (.invokestatic 317, 3) := by decide +kernel
theorem dX10_works_333 : decode cX10_works 333 = .ok (.lstore 6, 2) := by decide +kernel
theorem dX10_works_335 : decode cX10_works 335 = .ok (.goto 72, 3) := by decide +kernel
theorem dX10_works_338 : decode cX10_works 338 = .ok (.lload 4, 2) := by decide +kernel
theorem dX10_works_340 : decode cX10_works 340 = .ok (.lload_n 2, 1) := by decide +kernel
theorem dX10_works_341 : decode cX10_works 341 = .ok (.lcmp, 1) := by decide +kernel
theorem dX10_works_342 : decode cX10_works 342 = .ok (.ifCond .eq 7, 3) := by decide +kernel
theorem dX10_works_345 : decode cX10_works 345 = .ok (.iconst 1, 1) := by decide +kernel
theorem dX10_works_346 : decode cX10_works 346 = .ok (.goto 4, 3) := by decide +kernel
theorem dX10_works_349 : decode cX10_works 349 = .ok (.iconst 0, 1) := by decide +kernel
theorem dX10_works_350 : decode cX10_works 350 = .ok (.invokestatic 317, 3) := by decide +kernel
theorem dX10_works_353 : decode cX10_works 353 = .ok (.lstore 6, 2) := by decide +kernel
theorem dX10_works_355 : decode cX10_works 355 = .ok (.goto 52, 3) := by decide +kernel
theorem dX10_works_358 : decode cX10_works 358 = .ok (.lload 4, 2) := by decide +kernel
theorem dX10_works_360 : decode cX10_works 360 = .ok (.lconst 0, 1) := by decide +kernel
theorem dX10_works_361 : decode cX10_works 361 = .ok (.lcmp, 1) := by decide +kernel
theorem dX10_works_362 : decode cX10_works 362 = .ok (.ifCond .eq 13, 3) := by decide +kernel
theorem dX10_works_365 : decode cX10_works 365 = .ok (.lload_n 2, 1) := by decide +kernel
theorem dX10_works_366 : decode cX10_works 366 = .ok (.lconst 0, 1) := by decide +kernel
theorem dX10_works_367 : decode cX10_works 367 = .ok (.lcmp, 1) := by decide +kernel
theorem dX10_works_368 : decode cX10_works 368 = .ok (.ifCond .eq 7, 3) := by decide +kernel
theorem dX10_works_371 : decode cX10_works 371 = .ok (.iconst 1, 1) := by decide +kernel
theorem dX10_works_372 : decode cX10_works 372 = .ok (.goto 4, 3) := by decide +kernel
theorem dX10_works_375 : decode cX10_works 375 = .ok (.iconst 0, 1) := by decide +kernel
theorem dX10_works_376 : decode cX10_works 376 = .ok (.invokestatic 317, 3) := by decide +kernel
theorem dX10_works_379 : decode cX10_works 379 = .ok (.lstore 6, 2) := by decide +kernel
theorem dX10_works_381 : decode cX10_works 381 = .ok (.goto 26, 3) := by decide +kernel
theorem dX10_works_384 : decode cX10_works 384 = .ok (.lload 4, 2) := by decide +kernel
theorem dX10_works_386 : decode cX10_works 386 = .ok (.lconst 0, 1) := by decide +kernel
theorem dX10_works_387 : decode cX10_works 387 = .ok (.lcmp, 1) := by decide +kernel
theorem dX10_works_388 : decode cX10_works 388 = .ok (.ifCond .ne 9, 3) := by decide +kernel
theorem dX10_works_391 : decode cX10_works 391 = .ok (.lload_n 2, 1) := by decide +kernel
theorem dX10_works_392 : decode cX10_works 392 = .ok (.lconst 0, 1) := by decide +kernel
theorem dX10_works_393 : decode cX10_works 393 = .ok (.lcmp, 1) := by decide +kernel
theorem dX10_works_394 : decode cX10_works 394 = .ok (.ifCond .eq 7, 3) := by decide +kernel
theorem dX10_works_397 : decode cX10_works 397 = .ok (.iconst 1, 1) := by decide +kernel
theorem dX10_works_398 : decode cX10_works 398 = .ok (.goto 4, 3) := by decide +kernel
theorem dX10_works_401 : decode cX10_works 401 = .ok (.iconst 0, 1) := by decide +kernel
theorem dX10_works_402 : decode cX10_works 402 = .ok (.invokestatic 317, 3) := by decide +kernel
theorem dX10_works_405 : decode cX10_works 405 = .ok (.lstore 6, 2) := by decide +kernel
theorem dX10_works_407 : decode cX10_works 407 = .ok (.aload_n 0, 1) := by decide +kernel
theorem dX10_works_408 : decode cX10_works 408 = .ok (.getfield 69, 3) := by decide +kernel
theorem dX10_works_411 : decode cX10_works 411 = .ok (.aload_n 0, 1) := by decide +kernel
theorem dX10_works_412 : decode cX10_works 412 = .ok (.getfield 314, 3) := by decide +kernel
theorem dX10_works_415 : decode cX10_works 415 = .ok (.iconst 1, 1) := by decide +kernel
theorem dX10_works_416 : decode cX10_works 416 = .ok (.isub, 1) := by decide +kernel
theorem dX10_works_417 : decode cX10_works 417 = .ok (.lload 6, 2) := by decide +kernel
theorem dX10_works_419 : decode cX10_works 419 = .ok (.lastore, 1) := by decide +kernel
theorem dX10_works_420 : decode cX10_works 420 = .ok (.lload 6, 2) := by decide +kernel
theorem dX10_works_422 : decode cX10_works 422 = .ok (.ldc2_w 327, 3) := by decide +kernel
theorem dX10_works_425 : decode cX10_works 425 = .ok (.lcmp, 1) := by decide +kernel
theorem dX10_works_426 : decode cX10_works 426 = .ok (.ifCond .gt 16, 3) := by decide +kernel
theorem dX10_works_429 : decode cX10_works 429 = .ok (.lload 6, 2) := by decide +kernel
theorem dX10_works_431 : decode cX10_works 431 = .ok (.ldc2_w 329, 3) := by decide +kernel
theorem dX10_works_434 : decode cX10_works 434 = .ok (.lcmp, 1) := by decide +kernel
theorem dX10_works_435 : decode cX10_works 435 = .ok (.ifCond .lt 7, 3) := by decide +kernel
theorem dX10_works_438 : decode cX10_works 438 = .ok (.iconst 1, 1) := by decide +kernel
theorem dX10_works_439 : decode cX10_works 439 = .ok (.goto 4, 3) := by decide +kernel
theorem dX10_works_442 : decode cX10_works 442 = .ok (.iconst 0, 1) := by decide +kernel
theorem dX10_works_443 : decode cX10_works 443 = .ok (.ireturn, 1) := by decide +kernel
theorem dX10_comesOut_0 : decode cX10_comesOut 0 = .ok (.aload_n 0, 1) := by decide +kernel
theorem dX10_comesOut_1 : decode cX10_comesOut 1 = .ok (.iconst 0, 1) := by decide +kernel
theorem dX10_comesOut_2 : decode cX10_comesOut 2 = .ok (.putfield 314, 3) := by decide +kernel
theorem dX10_comesOut_5 : decode cX10_comesOut 5 = .ok (.aload_n 0, 1) := by decide +kernel
theorem dX10_comesOut_6 : decode cX10_comesOut 6 = .ok (.getfield 49, 3) := by decide +kernel
theorem dX10_comesOut_9 : decode cX10_comesOut 9 = .ok (.iload_n 1, 1) := by decide +kernel
theorem dX10_comesOut_10 : decode cX10_comesOut 10 = .ok (.iaload, 1) := by decide +kernel
theorem dX10_comesOut_11 : decode cX10_comesOut 11 = .ok (.istore_n 2, 1) := by decide +kernel
theorem dX10_comesOut_12 : decode cX10_comesOut 12 = .ok (.iload_n 2, 1) := by decide +kernel
theorem dX10_comesOut_13 : decode cX10_comesOut 13 = .ok (.aload_n 0, 1) := by decide +kernel
theorem dX10_comesOut_14 : decode cX10_comesOut 14 = .ok (.getfield 52, 3) := by decide +kernel
theorem dX10_comesOut_17 : decode cX10_comesOut 17 = .ok (.iload_n 1, 1) := by decide +kernel
theorem dX10_comesOut_18 : decode cX10_comesOut 18 = .ok (.iaload, 1) := by decide +kernel
theorem dX10_comesOut_19 : decode cX10_comesOut 19 = .ok (.if_icmp .ge 83, 3) := by decide +kernel
theorem dX10_comesOut_22 : decode cX10_comesOut 22 = .ok (.aload_n 0, 1) := by decide +kernel
theorem dX10_comesOut_23 : decode cX10_comesOut 23 = .ok (.getfield 55, 3) := by decide +kernel
theorem dX10_comesOut_26 : decode cX10_comesOut 26 = .ok (.iload_n 2, 1) := by decide +kernel
theorem dX10_comesOut_27 : decode cX10_comesOut 27 = .ok (.iaload, 1) := by decide +kernel
theorem dX10_comesOut_28 : decode cX10_comesOut 28 = .ok (.iconst 2, 1) := by decide +kernel
theorem dX10_comesOut_29 : decode cX10_comesOut 29 = .ok (.if_icmp .ne 18, 3) := by decide +kernel
theorem dX10_comesOut_32 : decode cX10_comesOut 32 = .ok (.aload_n 0, 1) := by decide +kernel
theorem dX10_comesOut_33 : decode cX10_comesOut 33 = .ok (.aload_n 0, 1) := by decide +kernel
theorem dX10_comesOut_34 : decode cX10_comesOut 34 = .ok (.getfield 58, 3) := by decide +kernel
theorem dX10_comesOut_37 : decode cX10_comesOut 37 = .ok (.iload_n 2, 1) := by decide +kernel
theorem dX10_comesOut_38 : decode cX10_comesOut 38 = .ok (.iaload, 1) := by decide +kernel
theorem dX10_comesOut_39 : decode cX10_comesOut 39 = .ok (.invokevirtual 331, 3) := by decide +kernel
theorem dX10_comesOut_42 : decode cX10_comesOut 42 = .ok (.ifCond .ne 54, 3) := by decide +kernel
theorem dX10_comesOut_45 : decode cX10_comesOut 45 = .ok (.iconst 0, 1) := by decide +kernel
theorem dX10_comesOut_46 : decode cX10_comesOut 46 = .ok (.ireturn, 1) := by decide +kernel
theorem dX10_comesOut_47 : decode cX10_comesOut 47 = .ok (.aload_n 0, 1) := by decide +kernel
theorem dX10_comesOut_48 : decode cX10_comesOut 48 = .ok (.getfield 69, 3) := by decide +kernel
theorem dX10_comesOut_51 : decode cX10_comesOut 51 = .ok (.aload_n 0, 1) := by decide +kernel
theorem dX10_comesOut_52 : decode cX10_comesOut 52 = .ok (.getfield 314, 3) := by decide +kernel
theorem dX10_comesOut_55 : decode cX10_comesOut 55 = .ok (.aload_n 0, 1) := by decide +kernel
theorem dX10_comesOut_56 : decode cX10_comesOut 56 = .ok (.getfield 55, 3) := by decide +kernel
theorem dX10_comesOut_59 : decode cX10_comesOut 59 = .ok (.iload_n 2, 1) := by decide +kernel
theorem dX10_comesOut_60 : decode cX10_comesOut 60 = .ok (.iaload, 1) := by decide +kernel
theorem dX10_comesOut_61 : decode cX10_comesOut 61 = .ok (.ifCond .ne 13, 3) := by decide +kernel
theorem dX10_comesOut_64 : decode cX10_comesOut 64 = .ok (.aload_n 0, 1) := by decide +kernel
theorem dX10_comesOut_65 : decode cX10_comesOut 65 = .ok (.getfield 58, 3) := by decide +kernel
theorem dX10_comesOut_68 : decode cX10_comesOut 68 = .ok (.iload_n 2, 1) := by decide +kernel
theorem dX10_comesOut_69 : decode cX10_comesOut 69 = .ok (.iaload, 1) := by decide +kernel
theorem dX10_comesOut_70 : decode cX10_comesOut 70 = .ok (.i2l, 1) := by decide +kernel
theorem dX10_comesOut_71 : decode cX10_comesOut 71 = .ok (.goto 14, 3) := by decide +kernel
theorem dX10_comesOut_74 : decode cX10_comesOut 74 = .ok (.aload_n 0, 1) := by decide +kernel
theorem dX10_comesOut_75 : decode cX10_comesOut 75 = .ok (.getfield 65, 3) := by decide +kernel
theorem dX10_comesOut_78 : decode cX10_comesOut 78 = .ok (.aload_n 0, 1) := by decide +kernel
theorem dX10_comesOut_79 : decode cX10_comesOut 79 = .ok (.getfield 58, 3) := by decide +kernel
theorem dX10_comesOut_82 : decode cX10_comesOut 82 = .ok (.iload_n 2, 1) := by decide +kernel
theorem dX10_comesOut_83 : decode cX10_comesOut 83 = .ok (.iaload, 1) := by decide +kernel
theorem dX10_comesOut_84 : decode cX10_comesOut 84 = .ok (.laload, 1) := by decide +kernel
theorem dX10_comesOut_85 : decode cX10_comesOut 85 = .ok (.lastore, 1) := by decide +kernel
theorem dX10_comesOut_86 : decode cX10_comesOut 86 = .ok (.aload_n 0, 1) := by decide +kernel
theorem dX10_comesOut_87 : decode cX10_comesOut 87 = .ok (.dup, 1) := by decide +kernel
theorem dX10_comesOut_88 : decode cX10_comesOut 88 = .ok (.getfield 314, 3) := by decide +kernel
theorem dX10_comesOut_91 : decode cX10_comesOut 91 = .ok (.iconst 1, 1) := by decide +kernel
theorem dX10_comesOut_92 : decode cX10_comesOut 92 = .ok (.iadd, 1) := by decide +kernel
theorem dX10_comesOut_93 : decode cX10_comesOut 93 = .ok (.putfield 314, 3) := by decide +kernel
theorem dX10_comesOut_96 : decode cX10_comesOut 96 = .ok (.iinc 2 1, 3) := by decide +kernel
theorem dX10_comesOut_99 : decode cX10_comesOut 99 = .ok (.goto (-87), 3) := by decide +kernel
theorem dX10_comesOut_102 : decode cX10_comesOut 102 = .ok (.iconst 1, 1) := by decide +kernel
theorem dX10_comesOut_103 : decode cX10_comesOut 103 = .ok (.ireturn, 1) := by decide +kernel
theorem dX10_hasLaw_0 : decode cX10_hasLaw 0 = .ok (.aload_n 0, 1) := by decide +kernel
theorem dX10_hasLaw_1 : decode cX10_hasLaw 1 = .ok (.getfield 52, 3) := by decide +kernel
theorem dX10_hasLaw_4 : decode cX10_hasLaw 4 = .ok (.iload_n 1, 1) := by decide +kernel
theorem dX10_hasLaw_5 : decode cX10_hasLaw 5 = .ok (.iaload, 1) := by decide +kernel
theorem dX10_hasLaw_6 : decode cX10_hasLaw 6 = .ok (.aload_n 0, 1) := by decide +kernel
theorem dX10_hasLaw_7 : decode cX10_hasLaw 7 = .ok (.getfield 49, 3) := by decide +kernel
theorem dX10_hasLaw_10 : decode cX10_hasLaw 10 = .ok (.iload_n 1, 1) := by decide +kernel
theorem dX10_hasLaw_11 : decode cX10_hasLaw 11 = .ok (.iaload, 1) := by decide +kernel
theorem dX10_hasLaw_12 : decode cX10_hasLaw 12 = .ok (.if_icmp .le 7, 3) := by decide +kernel
theorem dX10_hasLaw_15 : decode cX10_hasLaw 15 = .ok (.iconst 1, 1) := by decide +kernel
theorem dX10_hasLaw_16 : decode cX10_hasLaw 16 = .ok (.goto 4, 3) := by decide +kernel
theorem dX10_hasLaw_19 : decode cX10_hasLaw 19 = .ok (.iconst 0, 1) := by decide +kernel
theorem dX10_hasLaw_20 : decode cX10_hasLaw 20 = .ok (.ireturn, 1) := by decide +kernel
theorem dX10_starts_0 : decode cX10_starts 0 = .ok (.aload_n 0, 1) := by decide +kernel
theorem dX10_starts_1 : decode cX10_starts 1 = .ok (.getfield 72, 3) := by decide +kernel
theorem dX10_starts_4 : decode cX10_starts 4 = .ok (.iload_n 1, 1) := by decide +kernel
theorem dX10_starts_5 : decode cX10_starts 5 = .ok (.iconst 0, 1) := by decide +kernel
theorem dX10_starts_6 : decode cX10_starts 6 = .ok (.iastore, 1) := by decide +kernel
theorem dX10_starts_7 : decode cX10_starts 7 = .ok (.aload_n 0, 1) := by decide +kernel
theorem dX10_starts_8 : decode cX10_starts 8 = .ok (.getfield 75, 3) := by decide +kernel
theorem dX10_starts_11 : decode cX10_starts 11 = .ok (.iload_n 1, 1) := by decide +kernel
theorem dX10_starts_12 : decode cX10_starts 12 = .ok (.aload_n 0, 1) := by decide +kernel
theorem dX10_starts_13 : decode cX10_starts 13 = .ok (.getfield 13, 3) := by decide +kernel
theorem dX10_starts_16 : decode cX10_starts 16 = .ok (.bipush 7, 2) := by decide +kernel
theorem dX10_starts_18 : decode cX10_starts 18 = .ok (.iaload, 1) := by decide +kernel
theorem dX10_starts_19 : decode cX10_starts 19 = .ok (.iastore, 1) := by decide +kernel
theorem dX10_starts_20 : decode cX10_starts 20 = .ok (.aload_n 0, 1) := by decide +kernel
theorem dX10_starts_21 : decode cX10_starts 21 = .ok (.getfield 78, 3) := by decide +kernel
theorem dX10_starts_24 : decode cX10_starts 24 = .ok (.iload_n 1, 1) := by decide +kernel
theorem dX10_starts_25 : decode cX10_starts 25 = .ok (.iconst 0, 1) := by decide +kernel
theorem dX10_starts_26 : decode cX10_starts 26 = .ok (.iastore, 1) := by decide +kernel
theorem dX10_starts_27 : decode cX10_starts 27 = .ok (.aload_n 0, 1) := by decide +kernel
theorem dX10_starts_28 : decode cX10_starts 28 = .ok (.getfield 81, 3) := by decide +kernel
theorem dX10_starts_31 : decode cX10_starts 31 = .ok (.iload_n 1, 1) := by decide +kernel
theorem dX10_starts_32 : decode cX10_starts 32 = .ok (.aload_n 0, 1) := by decide +kernel
theorem dX10_starts_33 : decode cX10_starts 33 = .ok (.getfield 13, 3) := by decide +kernel
theorem dX10_starts_36 : decode cX10_starts 36 = .ok (.iconst 3, 1) := by decide +kernel
theorem dX10_starts_37 : decode cX10_starts 37 = .ok (.iaload, 1) := by decide +kernel
theorem dX10_starts_38 : decode cX10_starts 38 = .ok (.iastore, 1) := by decide +kernel
theorem dX10_starts_39 : decode cX10_starts 39 = .ok (.aload_n 0, 1) := by decide +kernel
theorem dX10_starts_40 : decode cX10_starts 40 = .ok (.getfield 84, 3) := by decide +kernel
theorem dX10_starts_43 : decode cX10_starts 43 = .ok (.iload_n 1, 1) := by decide +kernel
theorem dX10_starts_44 : decode cX10_starts 44 = .ok (.iconst 0, 1) := by decide +kernel
theorem dX10_starts_45 : decode cX10_starts 45 = .ok (.iastore, 1) := by decide +kernel
theorem dX10_starts_46 : decode cX10_starts 46 = .ok (.iconst 0, 1) := by decide +kernel
theorem dX10_starts_47 : decode cX10_starts 47 = .ok (.istore_n 2, 1) := by decide +kernel
theorem dX10_starts_48 : decode cX10_starts 48 = .ok (.iload_n 2, 1) := by decide +kernel
theorem dX10_starts_49 : decode cX10_starts 49 = .ok (.bipush 6, 2) := by decide +kernel
theorem dX10_starts_51 : decode cX10_starts 51 = .ok (.if_icmp .ge 84, 3) := by decide +kernel
theorem dX10_starts_54 : decode cX10_starts 54 = .ok (.bipush 6, 2) := by decide +kernel
theorem dX10_starts_56 : decode cX10_starts 56 = .ok (.iload_n 1, 1) := by decide +kernel
theorem dX10_starts_57 : decode cX10_starts 57 = .ok (.imul, 1) := by decide +kernel
theorem dX10_starts_58 : decode cX10_starts 58 = .ok (.iload_n 2, 1) := by decide +kernel
theorem dX10_starts_59 : decode cX10_starts 59 = .ok (.iadd, 1) := by decide +kernel
theorem dX10_starts_60 : decode cX10_starts 60 = .ok (.istore_n 3, 1) := by decide +kernel
theorem dX10_starts_61 : decode cX10_starts 61 = .ok (.aload_n 0, 1) := by decide +kernel
theorem dX10_starts_62 : decode cX10_starts 62 = .ok (.getfield 87, 3) := by decide +kernel
theorem dX10_starts_65 : decode cX10_starts 65 = .ok (.iload_n 3, 1) := by decide +kernel
theorem dX10_starts_66 : decode cX10_starts 66 = .ok (.iload_n 2, 1) := by decide +kernel
theorem dX10_starts_67 : decode cX10_starts 67 = .ok (.aload_n 0, 1) := by decide +kernel
theorem dX10_starts_68 : decode cX10_starts 68 = .ok (.getfield 13, 3) := by decide +kernel
theorem dX10_starts_71 : decode cX10_starts 71 = .ok (.iconst 0, 1) := by decide +kernel
theorem dX10_starts_72 : decode cX10_starts 72 = .ok (.iaload, 1) := by decide +kernel
theorem dX10_starts_73 : decode cX10_starts 73 = .ok (.if_icmp .ge 12, 3) := by decide +kernel
theorem dX10_starts_76 : decode cX10_starts 76 = .ok (.aload_n 0, 1) := by decide +kernel
theorem dX10_starts_77 : decode cX10_starts 77 = .ok (.getfield 22, 3) := by decide +kernel
theorem dX10_starts_80 : decode cX10_starts 80 = .ok (.iload_n 2, 1) := by decide +kernel
theorem dX10_starts_81 : decode cX10_starts 81 = .ok (.iaload, 1) := by decide +kernel
theorem dX10_starts_82 : decode cX10_starts 82 = .ok (.goto 4, 3) := by decide +kernel
theorem dX10_starts_85 : decode cX10_starts 85 = .ok (.iconst 0, 1) := by decide +kernel
theorem dX10_starts_86 : decode cX10_starts 86 = .ok (.iastore, 1) := by decide +kernel
theorem dX10_starts_87 : decode cX10_starts 87 = .ok (.aload_n 0, 1) := by decide +kernel
theorem dX10_starts_88 : decode cX10_starts 88 = .ok (.getfield 90, 3) := by decide +kernel
theorem dX10_starts_91 : decode cX10_starts 91 = .ok (.iload_n 3, 1) := by decide +kernel
theorem dX10_starts_92 : decode cX10_starts 92 = .ok (.iconst 0, 1) := by decide +kernel
theorem dX10_starts_93 : decode cX10_starts 93 = .ok (.iastore, 1) := by decide +kernel
theorem dX10_starts_94 : decode cX10_starts 94 = .ok (.aload_n 0, 1) := by decide +kernel
theorem dX10_starts_95 : decode cX10_starts 95 = .ok (.getfield 93, 3) := by decide +kernel
theorem dX10_starts_98 : decode cX10_starts 98 = .ok (.iload_n 3, 1) := by decide +kernel
theorem dX10_starts_99 : decode cX10_starts 99 = .ok (.iconst 0, 1) := by decide +kernel
theorem dX10_starts_100 : decode cX10_starts 100 = .ok (.iastore, 1) := by decide +kernel
theorem dX10_starts_101 : decode cX10_starts 101 = .ok (.aload_n 0, 1) := by decide +kernel
theorem dX10_starts_102 : decode cX10_starts 102 = .ok (.getfield 96, 3) := by decide +kernel
theorem dX10_starts_105 : decode cX10_starts 105 = .ok (.iload_n 3, 1) := by decide +kernel
theorem dX10_starts_106 : decode cX10_starts 106 = .ok (.iconst (-1), 1) := by decide +kernel
theorem dX10_starts_107 : decode cX10_starts 107 = .ok (.iastore, 1) := by decide +kernel
theorem dX10_starts_108 : decode cX10_starts 108 = .ok (.aload_n 0, 1) := by decide +kernel
theorem dX10_starts_109 : decode cX10_starts 109 = .ok (.getfield 99, 3) := by decide +kernel
theorem dX10_starts_112 : decode cX10_starts 112 = .ok (.iload_n 3, 1) := by decide +kernel
theorem dX10_starts_113 : decode cX10_starts 113 = .ok (.iconst 0, 1) := by decide +kernel
theorem dX10_starts_114 : decode cX10_starts 114 = .ok (.iastore, 1) := by decide +kernel
theorem dX10_starts_115 : decode cX10_starts 115 = .ok (.aload_n 0, 1) := by decide +kernel
theorem dX10_starts_116 : decode cX10_starts 116 = .ok (.getfield 102, 3) := by decide +kernel
theorem dX10_starts_119 : decode cX10_starts 119 = .ok (.iload_n 3, 1) := by decide +kernel
theorem dX10_starts_120 : decode cX10_starts 120 = .ok (.iconst 0, 1) := by decide +kernel
theorem dX10_starts_121 : decode cX10_starts 121 = .ok (.iastore, 1) := by decide +kernel
theorem dX10_starts_122 : decode cX10_starts 122 = .ok (.aload_n 0, 1) := by decide +kernel
theorem dX10_starts_123 : decode cX10_starts 123 = .ok (.getfield 105, 3) := by decide +kernel
theorem dX10_starts_126 : decode cX10_starts 126 = .ok (.iload_n 3, 1) := by decide +kernel
theorem dX10_starts_127 : decode cX10_starts 127 = .ok (.iload_n 2, 1) := by decide +kernel
theorem dX10_starts_128 : decode cX10_starts 128 = .ok (.iastore, 1) := by decide +kernel
