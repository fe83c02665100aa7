def gX10_copies_L190 (x1 : Int32) (x2 : Int32) (rc190 : (Int32 × zM) → Option zM) (s : (Int32 × zM)) : Option zM :=
  (if 8 ≤ s.1 then some s.2
  else zg (zok ((8 * x2) + s.1) 184) (zg (zok ((8 * x1) + s.1) 184) (zlet (zI s.2 130 (((8 * x1) + s.1) : Int32).toNatClampNeg (s.2.1 130 (((8 * x2) + s.1) : Int32).toNatClampNeg)) (fun M23_ => zg (zok ((8 * x2) + s.1) 184) (zg (zok ((8 * x1) + s.1) 184) (zlet (zI M23_ 131 (((8 * x1) + s.1) : Int32).toNatClampNeg (M23_.1 131 (((8 * x2) + s.1) : Int32).toNatClampNeg)) (fun M27_ => rc190 ((s.1 + 1), M27_))))))))
set_option maxRecDepth 100000 in
set_option maxHeartbeats 2000000 in
theorem aX10_copies_L190 {G : zG} {X : zX} {x1 : Int32} {x2 : Int32} (hX : zC G X cX10_copies 6 RX10 none 1)    {res : zM}  : ∀ (N : Nat) (s : (Int32 × zM)), zfix N (gX10_copies_L190 x1 x2) s = some res → Z G X (zQv res) 190 [some (.ref 98), some (.int x1), some (.int x2), some (.int s.1), none, none] [] s.2 := by
  intro N
  induction N with
  | zero => intro s h; cases h
  | succ N hrc190 =>
    intro s h
    replace h : gX10_copies_L190 x1 x2 (zfix N (gX10_copies_L190 x1 x2)) s = some res := h
    unfold gX10_copies_L190 at h
    refine z_iload_n hX dX10_copies_190 rfl 191 rfl ?_
    refine z_bipush hX dX10_copies_191 qb_8 193 rfl ?_
    refine z_icmp_ge hX dX10_copies_193 246 196 (by decide) rfl (fun hc => ?_) (fun hc => ?_)
    · rw [if_pos hc] at h
      exact z_return hX dX10_copies_246 (zend_v h)
    · rw [if_neg hc] at h
      refine z_aload_n hX dX10_copies_196 rfl 197 rfl ?_
      refine z_getF hX fX10_108 dX10_copies_197 zs_98 (by decide) rfl 200 rfl ?_
      refine z_bipush hX dX10_copies_200 qb_8 202 rfl ?_
      refine z_iload_n hX dX10_copies_202 rfl 203 rfl ?_
      refine z_imul hX dX10_copies_203 204 rfl ?_
      refine z_iload_n hX dX10_copies_204 rfl 205 rfl ?_
      refine z_iadd hX dX10_copies_205 206 rfl ?_
      refine z_aload_n hX dX10_copies_206 rfl 207 rfl ?_
      refine z_getF hX fX10_108 dX10_copies_207 zs_98 (by decide) rfl 210 rfl ?_
      refine z_bipush hX dX10_copies_210 qb_8 212 rfl ?_
      refine z_iload_n hX dX10_copies_212 rfl 213 rfl ?_
      refine z_imul hX dX10_copies_213 214 rfl ?_
      refine z_iload_n hX dX10_copies_214 rfl 215 rfl ?_
      refine z_iadd hX dX10_copies_215 216 rfl ?_
      obtain ⟨hb, h21_⟩ := zgd h
      refine z_iald hX dX10_copies_216 zs_130 (zok_in hb) 217 rfl ?_
      obtain ⟨hb, h22_⟩ := zgd h21_
      refine z_iast hX dX10_copies_217 zs_130 (zok_in hb) 218 rfl ?_
      refine z_mem h22_ (fun M23_ h24_ => ?_)
      refine z_aload_n hX dX10_copies_218 rfl 219 rfl ?_
      refine z_getF hX fX10_111 dX10_copies_219 zs_98 (by decide) rfl 222 rfl ?_
      refine z_bipush hX dX10_copies_222 qb_8 224 rfl ?_
      refine z_iload_n hX dX10_copies_224 rfl 225 rfl ?_
      refine z_imul hX dX10_copies_225 226 rfl ?_
      refine z_iload_n hX dX10_copies_226 rfl 227 rfl ?_
      refine z_iadd hX dX10_copies_227 228 rfl ?_
      refine z_aload_n hX dX10_copies_228 rfl 229 rfl ?_
      refine z_getF hX fX10_111 dX10_copies_229 zs_98 (by decide) rfl 232 rfl ?_
      refine z_bipush hX dX10_copies_232 qb_8 234 rfl ?_
      refine z_iload_n hX dX10_copies_234 rfl 235 rfl ?_
      refine z_imul hX dX10_copies_235 236 rfl ?_
      refine z_iload_n hX dX10_copies_236 rfl 237 rfl ?_
      refine z_iadd hX dX10_copies_237 238 rfl ?_
      obtain ⟨hb, h25_⟩ := zgd h24_
      refine z_iald hX dX10_copies_238 zs_131 (zok_in hb) 239 rfl ?_
      obtain ⟨hb, h26_⟩ := zgd h25_
      refine z_iast hX dX10_copies_239 zs_131 (zok_in hb) 240 rfl ?_
      refine z_mem h26_ (fun M27_ h28_ => ?_)
      refine z_iinc (v := (s.1 + 1)) hX dX10_copies_240 rfl (by rfl) (by decide) 243 rfl ?_
      refine z_goto hX dX10_copies_243 190 (by decide) ?_
      refine z_mask [true, true, true, true, false, false] ?_
      have hz := hrc190 _ h28_
      exact hz
def gX10_copies_L62 (x1 : Int32) (x2 : Int32) (rc62 : (Int32 × zM) → Option zM) (s : (Int32 × zM)) : Option zM :=
  (if 6 ≤ s.1 then zfix zFu (gX10_copies_L190 x1 x2) (0, s.2)
  else zg (zok ((6 * x2) + s.1) 138) (zg (zok ((6 * x1) + s.1) 138) (zlet (zI s.2 123 (((6 * x1) + s.1) : Int32).toNatClampNeg (s.2.1 123 (((6 * x2) + s.1) : Int32).toNatClampNeg)) (fun M31_ => zg (zok ((6 * x2) + s.1) 138) (zg (zok ((6 * x1) + s.1) 138) (zlet (zI M31_ 124 (((6 * x1) + s.1) : Int32).toNatClampNeg (M31_.1 124 (((6 * x2) + s.1) : Int32).toNatClampNeg)) (fun M35_ => zg (zok ((6 * x2) + s.1) 138) (zg (zok ((6 * x1) + s.1) 138) (zlet (zI M35_ 125 (((6 * x1) + s.1) : Int32).toNatClampNeg (M35_.1 125 (((6 * x2) + s.1) : Int32).toNatClampNeg)) (fun M39_ => zg (zok ((6 * x2) + s.1) 138) (zg (zok ((6 * x1) + s.1) 138) (zlet (zI M39_ 126 (((6 * x1) + s.1) : Int32).toNatClampNeg (M39_.1 126 (((6 * x2) + s.1) : Int32).toNatClampNeg)) (fun M43_ => zg (zok ((6 * x2) + s.1) 138) (zg (zok ((6 * x1) + s.1) 138) (zlet (zI M43_ 127 (((6 * x1) + s.1) : Int32).toNatClampNeg (M43_.1 127 (((6 * x2) + s.1) : Int32).toNatClampNeg)) (fun M47_ => zg (zok ((6 * x2) + s.1) 138) (zg (zok ((6 * x1) + s.1) 138) (zlet (zI M47_ 128 (((6 * x1) + s.1) : Int32).toNatClampNeg (M47_.1 128 (((6 * x2) + s.1) : Int32).toNatClampNeg)) (fun M51_ => zg (zok ((6 * x2) + s.1) 138) (zg (zok ((6 * x1) + s.1) 138) (zlet (zI M51_ 129 (((6 * x1) + s.1) : Int32).toNatClampNeg (M51_.1 129 (((6 * x2) + s.1) : Int32).toNatClampNeg)) (fun M55_ => rc62 ((s.1 + 1), M55_)))))))))))))))))))))))
set_option maxRecDepth 100000 in
set_option maxHeartbeats 2000000 in
theorem aX10_copies_L62 {G : zG} {X : zX} {x1 : Int32} {x2 : Int32} (hX : zC G X cX10_copies 6 RX10 none 1)    {res : zM}  : ∀ (N : Nat) (s : (Int32 × zM)), zfix N (gX10_copies_L62 x1 x2) s = some res → Z G X (zQv res) 62 [some (.ref 98), some (.int x1), some (.int x2), some (.int s.1), none, none] [] s.2 := by
  intro N
  induction N with
  | zero => intro s h; cases h
  | succ N hrc62 =>
    intro s h
    replace h : gX10_copies_L62 x1 x2 (zfix N (gX10_copies_L62 x1 x2)) s = some res := h
    unfold gX10_copies_L62 at h
    refine z_iload_n hX dX10_copies_62 rfl 63 rfl ?_
    refine z_bipush hX dX10_copies_63 qb_6 65 rfl ?_
    refine z_icmp_ge hX dX10_copies_65 188 68 (by decide) rfl (fun hc => ?_) (fun hc => ?_)
    · rw [if_pos hc] at h
      refine z_iconst hX dX10_copies_188 qi_0 189 rfl ?_
      refine z_istore_n hX dX10_copies_189 (by decide) 190 rfl ?_
      refine z_mask [true, true, true, true, false, false] ?_
      have hz := aX10_copies_L190 hX _ _ h
      exact hz
    · rw [if_neg hc] at h
      refine z_bipush hX dX10_copies_68 qb_6 70 rfl ?_
      refine z_iload_n hX dX10_copies_70 rfl 71 rfl ?_
      refine z_imul hX dX10_copies_71 72 rfl ?_
      refine z_iload_n hX dX10_copies_72 rfl 73 rfl ?_
      refine z_iadd hX dX10_copies_73 74 rfl ?_
      refine z_istore hX dX10_copies_74 (by decide) 76 rfl ?_
      refine z_bipush hX dX10_copies_76 qb_6 78 rfl ?_
      refine z_iload_n hX dX10_copies_78 rfl 79 rfl ?_
      refine z_imul hX dX10_copies_79 80 rfl ?_
      refine z_iload_n hX dX10_copies_80 rfl 81 rfl ?_
      refine z_iadd hX dX10_copies_81 82 rfl ?_
      refine z_istore hX dX10_copies_82 (by decide) 84 rfl ?_
      refine z_aload_n hX dX10_copies_84 rfl 85 rfl ?_
      refine z_getF hX fX10_87 dX10_copies_85 zs_98 (by decide) rfl 88 rfl ?_
      refine z_iload hX dX10_copies_88 rfl 90 rfl ?_
      refine z_aload_n hX dX10_copies_90 rfl 91 rfl ?_
      refine z_getF hX fX10_87 dX10_copies_91 zs_98 (by decide) rfl 94 rfl ?_
      refine z_iload hX dX10_copies_94 rfl 96 rfl ?_
      obtain ⟨hb, h29_⟩ := zgd h
      refine z_iald hX dX10_copies_96 zs_123 (zok_in hb) 97 rfl ?_
      obtain ⟨hb, h30_⟩ := zgd h29_
      refine z_iast hX dX10_copies_97 zs_123 (zok_in hb) 98 rfl ?_
      refine z_mem h30_ (fun M31_ h32_ => ?_)
      refine z_aload_n hX dX10_copies_98 rfl 99 rfl ?_
      refine z_getF hX fX10_90 dX10_copies_99 zs_98 (by decide) rfl 102 rfl ?_
      refine z_iload hX dX10_copies_102 rfl 104 rfl ?_
      refine z_aload_n hX dX10_copies_104 rfl 105 rfl ?_
      refine z_getF hX fX10_90 dX10_copies_105 zs_98 (by decide) rfl 108 rfl ?_
      refine z_iload hX dX10_copies_108 rfl 110 rfl ?_
      obtain ⟨hb, h33_⟩ := zgd h32_
      refine z_iald hX dX10_copies_110 zs_124 (zok_in hb) 111 rfl ?_
      obtain ⟨hb, h34_⟩ := zgd h33_
      refine z_iast hX dX10_copies_111 zs_124 (zok_in hb) 112 rfl ?_
      refine z_mem h34_ (fun M35_ h36_ => ?_)
      refine z_aload_n hX dX10_copies_112 rfl 113 rfl ?_
      refine z_getF hX fX10_93 dX10_copies_113 zs_98 (by decide) rfl 116 rfl ?_
      refine z_iload hX dX10_copies_116 rfl 118 rfl ?_
      refine z_aload_n hX dX10_copies_118 rfl 119 rfl ?_
      refine z_getF hX fX10_93 dX10_copies_119 zs_98 (by decide) rfl 122 rfl ?_
      refine z_iload hX dX10_copies_122 rfl 124 rfl ?_
      obtain ⟨hb, h37_⟩ := zgd h36_
      refine z_iald hX dX10_copies_124 zs_125 (zok_in hb) 125 rfl ?_
      obtain ⟨hb, h38_⟩ := zgd h37_
      refine z_iast hX dX10_copies_125 zs_125 (zok_in hb) 126 rfl ?_
      refine z_mem h38_ (fun M39_ h40_ => ?_)
      refine z_aload_n hX dX10_copies_126 rfl 127 rfl ?_
      refine z_getF hX fX10_96 dX10_copies_127 zs_98 (by decide) rfl 130 rfl ?_
      refine z_iload hX dX10_copies_130 rfl 132 rfl ?_
      refine z_aload_n hX dX10_copies_132 rfl 133 rfl ?_
      refine z_getF hX fX10_96 dX10_copies_133 zs_98 (by decide) rfl 136 rfl ?_
      refine z_iload hX dX10_copies_136 rfl 138 rfl ?_
      obtain ⟨hb, h41_⟩ := zgd h40_
      refine z_iald hX dX10_copies_138 zs_126 (zok_in hb) 139 rfl ?_
      obtain ⟨hb, h42_⟩ := zgd h41_
      refine z_iast hX dX10_copies_139 zs_126 (zok_in hb) 140 rfl ?_
      refine z_mem h42_ (fun M43_ h44_ => ?_)
      refine z_aload_n hX dX10_copies_140 rfl 141 rfl ?_
      refine z_getF hX fX10_99 dX10_copies_141 zs_98 (by decide) rfl 144 rfl ?_
      refine z_iload hX dX10_copies_144 rfl 146 rfl ?_
      refine z_aload_n hX dX10_copies_146 rfl 147 rfl ?_
      refine z_getF hX fX10_99 dX10_copies_147 zs_98 (by decide) rfl 150 rfl ?_
      refine z_iload hX dX10_copies_150 rfl 152 rfl ?_
      obtain ⟨hb, h45_⟩ := zgd h44_
      refine z_iald hX dX10_copies_152 zs_127 (zok_in hb) 153 rfl ?_
      obtain ⟨hb, h46_⟩ := zgd h45_
      refine z_iast hX dX10_copies_153 zs_127 (zok_in hb) 154 rfl ?_
      refine z_mem h46_ (fun M47_ h48_ => ?_)
      refine z_aload_n hX dX10_copies_154 rfl 155 rfl ?_
      refine z_getF hX fX10_102 dX10_copies_155 zs_98 (by decide) rfl 158 rfl ?_
      refine z_iload hX dX10_copies_158 rfl 160 rfl ?_
      refine z_aload_n hX dX10_copies_160 rfl 161 rfl ?_
      refine z_getF hX fX10_102 dX10_copies_161 zs_98 (by decide) rfl 164 rfl ?_
      refine z_iload hX dX10_copies_164 rfl 166 rfl ?_
      obtain ⟨hb, h49_⟩ := zgd h48_
      refine z_iald hX dX10_copies_166 zs_128 (zok_in hb) 167 rfl ?_
      obtain ⟨hb, h50_⟩ := zgd h49_
      refine z_iast hX dX10_copies_167 zs_128 (zok_in hb) 168 rfl ?_
      refine z_mem h50_ (fun M51_ h52_ => ?_)
      refine z_aload_n hX dX10_copies_168 rfl 169 rfl ?_
      refine z_getF hX fX10_105 dX10_copies_169 zs_98 (by decide) rfl 172 rfl ?_
      refine z_iload hX dX10_copies_172 rfl 174 rfl ?_
      refine z_aload_n hX dX10_copies_174 rfl 175 rfl ?_
      refine z_getF hX fX10_105 dX10_copies_175 zs_98 (by decide) rfl 178 rfl ?_
      refine z_iload hX dX10_copies_178 rfl 180 rfl ?_
      obtain ⟨hb, h53_⟩ := zgd h52_
      refine z_iald hX dX10_copies_180 zs_129 (zok_in hb) 181 rfl ?_
      obtain ⟨hb, h54_⟩ := zgd h53_
      refine z_iast hX dX10_copies_181 zs_129 (zok_in hb) 182 rfl ?_
      refine z_mem h54_ (fun M55_ h56_ => ?_)
      refine z_iinc (v := (s.1 + 1)) hX dX10_copies_182 rfl (by rfl) (by decide) 185 rfl ?_
      refine z_goto hX dX10_copies_185 62 (by decide) ?_
      refine z_mask [true, true, true, true, false, false] ?_
      have hz := hrc62 _ h56_
      exact hz
def gX10_copies (x1 : Int32) (x2 : Int32) (M : zM) : Option zM :=
  zg (zok x2 23) (zg (zok x1 23) (zlet (zI M 118 (x1 : Int32).toNatClampNeg (M.1 118 (x2 : Int32).toNatClampNeg)) (fun M3_ => zg (zok x2 23) (zg (zok x1 23) (zlet (zI M3_ 119 (x1 : Int32).toNatClampNeg (M3_.1 119 (x2 : Int32).toNatClampNeg)) (fun M7_ => zg (zok x2 23) (zg (zok x1 23) (zlet (zI M7_ 120 (x1 : Int32).toNatClampNeg (M7_.1 120 (x2 : Int32).toNatClampNeg)) (fun M11_ => zg (zok x2 23) (zg (zok x1 23) (zlet (zI M11_ 121 (x1 : Int32).toNatClampNeg (M11_.1 121 (x2 : Int32).toNatClampNeg)) (fun M15_ => zg (zok x2 23) (zg (zok x1 23) (zlet (zI M15_ 122 (x1 : Int32).toNatClampNeg (M15_.1 122 (x2 : Int32).toNatClampNeg)) (fun M19_ => zfix zFu (gX10_copies_L62 x1 x2) (0, M19_))))))))))))))))
set_option maxRecDepth 100000 in
set_option maxHeartbeats 2000000 in
theorem mX10_copies {G : zG} {x1 : Int32} {x2 : Int32} {M : zM}  {res : zM} (h : gX10_copies x1 x2 M = some res) : Ct G 1 tX10_copies [.ref 98, .int x1, .int x2] M (zQv res) := by
  unfold gX10_copies at h
  refine Ct.of (y := yX10_copies) rfl plX10 (Nat.le_of_ble_eq_true rfl) (fun X hX => ?_)
  replace hX : zC G X cX10_copies 6 RX10 none 1 := hX
  show Z G X _ 0 [some (.ref 98), some (.int x1), some (.int x2), none, none, none] [] M
  refine z_aload_n hX dX10_copies_0 rfl 1 rfl ?_
  refine z_getF hX fX10_72 dX10_copies_1 zs_98 (by decide) rfl 4 rfl ?_
  refine z_iload_n hX dX10_copies_4 rfl 5 rfl ?_
  refine z_aload_n hX dX10_copies_5 rfl 6 rfl ?_
  refine z_getF hX fX10_72 dX10_copies_6 zs_98 (by decide) rfl 9 rfl ?_
  refine z_iload_n hX dX10_copies_9 rfl 10 rfl ?_
  obtain ⟨hb, h1_⟩ := zgd h
  refine z_iald hX dX10_copies_10 zs_118 (zok_in hb) 11 rfl ?_
  obtain ⟨hb, h2_⟩ := zgd h1_
  refine z_iast hX dX10_copies_11 zs_118 (zok_in hb) 12 rfl ?_
  refine z_mem h2_ (fun M3_ h4_ => ?_)
  refine z_aload_n hX dX10_copies_12 rfl 13 rfl ?_
  refine z_getF hX fX10_75 dX10_copies_13 zs_98 (by decide) rfl 16 rfl ?_
  refine z_iload_n hX dX10_copies_16 rfl 17 rfl ?_
  refine z_aload_n hX dX10_copies_17 rfl 18 rfl ?_
  refine z_getF hX fX10_75 dX10_copies_18 zs_98 (by decide) rfl 21 rfl ?_
  refine z_iload_n hX dX10_copies_21 rfl 22 rfl ?_
  obtain ⟨hb, h5_⟩ := zgd h4_
  refine z_iald hX dX10_copies_22 zs_119 (zok_in hb) 23 rfl ?_
  obtain ⟨hb, h6_⟩ := zgd h5_
  refine z_iast hX dX10_copies_23 zs_119 (zok_in hb) 24 rfl ?_
  refine z_mem h6_ (fun M7_ h8_ => ?_)
  refine z_aload_n hX dX10_copies_24 rfl 25 rfl ?_
  refine z_getF hX fX10_78 dX10_copies_25 zs_98 (by decide) rfl 28 rfl ?_
  refine z_iload_n hX dX10_copies_28 rfl 29 rfl ?_
  refine z_aload_n hX dX10_copies_29 rfl 30 rfl ?_
  refine z_getF hX fX10_78 dX10_copies_30 zs_98 (by decide) rfl 33 rfl ?_
  refine z_iload_n hX dX10_copies_33 rfl 34 rfl ?_
  obtain ⟨hb, h9_⟩ := zgd h8_
  refine z_iald hX dX10_copies_34 zs_120 (zok_in hb) 35 rfl ?_
  obtain ⟨hb, h10_⟩ := zgd h9_
  refine z_iast hX dX10_copies_35 zs_120 (zok_in hb) 36 rfl ?_
  refine z_mem h10_ (fun M11_ h12_ => ?_)
  refine z_aload_n hX dX10_copies_36 rfl 37 rfl ?_
  refine z_getF hX fX10_81 dX10_copies_37 zs_98 (by decide) rfl 40 rfl ?_
  refine z_iload_n hX dX10_copies_40 rfl 41 rfl ?_
  refine z_aload_n hX dX10_copies_41 rfl 42 rfl ?_
  refine z_getF hX fX10_81 dX10_copies_42 zs_98 (by decide) rfl 45 rfl ?_
  refine z_iload_n hX dX10_copies_45 rfl 46 rfl ?_
  obtain ⟨hb, h13_⟩ := zgd h12_
  refine z_iald hX dX10_copies_46 zs_121 (zok_in hb) 47 rfl ?_
  obtain ⟨hb, h14_⟩ := zgd h13_
  refine z_iast hX dX10_copies_47 zs_121 (zok_in hb) 48 rfl ?_
  refine z_mem h14_ (fun M15_ h16_ => ?_)
  refine z_aload_n hX dX10_copies_48 rfl 49 rfl ?_
  refine z_getF hX fX10_84 dX10_copies_49 zs_98 (by decide) rfl 52 rfl ?_
  refine z_iload_n hX dX10_copies_52 rfl 53 rfl ?_
  refine z_aload_n hX dX10_copies_53 rfl 54 rfl ?_
  refine z_getF hX fX10_84 dX10_copies_54 zs_98 (by decide) rfl 57 rfl ?_
  refine z_iload_n hX dX10_copies_57 rfl 58 rfl ?_
  obtain ⟨hb, h17_⟩ := zgd h16_
  refine z_iald hX dX10_copies_58 zs_122 (zok_in hb) 59 rfl ?_
  obtain ⟨hb, h18_⟩ := zgd h17_
  refine z_iast hX dX10_copies_59 zs_122 (zok_in hb) 60 rfl ?_
  refine z_mem h18_ (fun M19_ h20_ => ?_)
  refine z_iconst hX dX10_copies_60 qi_0 61 rfl ?_
  refine z_istore_n hX dX10_copies_61 (by decide) 62 rfl ?_
  refine z_mask [true, true, true, true, false, false] ?_
  have hz := aX10_copies_L62 hX _ _ h20_
  exact hz
def gX10_keepNow_J45 (M : zM) : Option zM :=
  zcV (gX10_copies (3 + (M.1 98 50)) 0 M) (fun M1_ => zlet (zI M1_ 98 50 ((M1_.1 98 50) + 1)) (fun M3_ => some M3_))
set_option maxRecDepth 100000 in
set_option maxHeartbeats 2000000 in
theorem aX10_keepNow_J45 {G : zG} {X : zX} (hX : zC G X cX10_keepNow 2 RX10 none 2)   {M : zM} {res : zM}  (h : gX10_keepNow_J45 M = some res) : Z G X (zQv res) 45 [some (.ref 98), none] [] M := by
  unfold gX10_keepNow_J45 at h
  refine z_aload_n hX dX10_keepNow_45 rfl 46 rfl ?_
  refine z_iconst hX dX10_keepNow_46 qi_3 47 rfl ?_
  refine z_aload_n hX dX10_keepNow_47 rfl 48 rfl ?_
  refine z_getI hX fX10_311 dX10_keepNow_48 zs_98 (by decide) rfl 51 rfl ?_
  refine z_iadd hX dX10_keepNow_51 52 rfl ?_
  refine z_iconst hX dX10_keepNow_52 qi_0 53 rfl ?_
  obtain ⟨M1_, hq, h2_⟩ := zcV_of h
  refine z_callV hX vX10_copies lX10_407 dX10_keepNow_53 zs_98 rfl (mX10_copies  hq) (by decide) rfl rfl (Nat.le_of_ble_eq_true rfl) 56 rfl (Qv.to (fun M' hv => ?_))
  subst hv
  refine z_aload_n hX dX10_keepNow_56 rfl 57 rfl ?_
  refine z_dup hX dX10_keepNow_57 rfl 58 rfl ?_
  refine z_getI hX fX10_311 dX10_keepNow_58 zs_98 (by decide) rfl 61 rfl ?_
  refine z_iconst hX dX10_keepNow_61 qi_1 62 rfl ?_
  refine z_iadd hX dX10_keepNow_62 63 rfl ?_
  refine z_putI hX pX10_311 dX10_keepNow_63 zs_98 (by decide) rfl 66 rfl ?_
  refine z_mem h2_ (fun M3_ h4_ => ?_)
  exact z_return hX dX10_keepNow_66 (zend_v h4_)
def gX10_keepNow_L11  (rc11 : (Int32 × zM) → Option zM) (s : (Int32 × zM)) : Option zM :=
  (if 20 ≤ s.1 then zlet (zI s.2 98 50 ((s.2.1 98 50) - 1)) (fun M5_ => gX10_keepNow_J45 M5_)
  else zcV (gX10_copies ((3 + s.1) - 1) (3 + s.1) s.2) (fun M7_ => rc11 ((s.1 + 1), M7_)))
set_option maxRecDepth 100000 in
set_option maxHeartbeats 2000000 in
theorem aX10_keepNow_L11 {G : zG} {X : zX} (hX : zC G X cX10_keepNow 2 RX10 none 2)    {res : zM}  : ∀ (N : Nat) (s : (Int32 × zM)), zfix N (gX10_keepNow_L11 ) s = some res → Z G X (zQv res) 11 [some (.ref 98), some (.int s.1)] [] s.2 := by
  intro N
  induction N with
  | zero => intro s h; cases h
  | succ N hrc11 =>
    intro s h
    replace h : gX10_keepNow_L11  (zfix N (gX10_keepNow_L11 )) s = some res := h
    unfold gX10_keepNow_L11 at h
    refine z_iload_n hX dX10_keepNow_11 rfl 12 rfl ?_
    refine z_bipush hX dX10_keepNow_12 qb_20 14 rfl ?_
    refine z_icmp_ge hX dX10_keepNow_14 35 17 (by decide) rfl (fun hc => ?_) (fun hc => ?_)
    · rw [if_pos hc] at h
      refine z_aload_n hX dX10_keepNow_35 rfl 36 rfl ?_
      refine z_dup hX dX10_keepNow_36 rfl 37 rfl ?_
      refine z_getI hX fX10_311 dX10_keepNow_37 zs_98 (by decide) rfl 40 rfl ?_
      refine z_iconst hX dX10_keepNow_40 qi_1 41 rfl ?_
      refine z_isub hX dX10_keepNow_41 42 rfl ?_
      refine z_putI hX pX10_311 dX10_keepNow_42 zs_98 (by decide) rfl 45 rfl ?_
      refine z_mem h (fun M5_ h6_ => ?_)
      refine z_mask [true, false] ?_
      have hz := aX10_keepNow_J45 hX h6_
      exact hz
    · rw [if_neg hc] at h
      refine z_aload_n hX dX10_keepNow_17 rfl 18 rfl ?_
      refine z_iconst hX dX10_keepNow_18 qi_3 19 rfl ?_
      refine z_iload_n hX dX10_keepNow_19 rfl 20 rfl ?_
      refine z_iadd hX dX10_keepNow_20 21 rfl ?_
      refine z_iconst hX dX10_keepNow_21 qi_1 22 rfl ?_
      refine z_isub hX dX10_keepNow_22 23 rfl ?_
      refine z_iconst hX dX10_keepNow_23 qi_3 24 rfl ?_
      refine z_iload_n hX dX10_keepNow_24 rfl 25 rfl ?_
      refine z_iadd hX dX10_keepNow_25 26 rfl ?_
      obtain ⟨M7_, hq, h8_⟩ := zcV_of h
      refine z_callV hX vX10_copies lX10_407 dX10_keepNow_26 zs_98 rfl (mX10_copies  hq) (by decide) rfl rfl (Nat.le_of_ble_eq_true rfl) 29 rfl (Qv.to (fun M' hv => ?_))
      subst hv
      refine z_iinc (v := (s.1 + 1)) hX dX10_keepNow_29 rfl (by rfl) (by decide) 32 rfl ?_
      refine z_goto hX dX10_keepNow_32 11 (by decide) ?_
      refine z_mask [true, true] ?_
      have hz := hrc11 _ h8_
      exact hz
def gX10_keepNow (M : zM) : Option zM :=
  (if (M.1 98 50) = 20 then zfix zFu (gX10_keepNow_L11 ) (1, M)
  else gX10_keepNow_J45 M)
set_option maxRecDepth 100000 in
set_option maxHeartbeats 2000000 in
theorem mX10_keepNow {G : zG}  {M : zM}  {res : zM} (h : gX10_keepNow M = some res) : Ct G 2 tX10_keepNow [.ref 98] M (zQv res) := by
  unfold gX10_keepNow at h
  refine Ct.of (y := yX10_keepNow) rfl plX10 (Nat.le_of_ble_eq_true rfl) (fun X hX => ?_)
  replace hX : zC G X cX10_keepNow 2 RX10 none 2 := hX
  show Z G X _ 0 [some (.ref 98), none] [] M
  refine z_aload_n hX dX10_keepNow_0 rfl 1 rfl ?_
  refine z_getI hX fX10_311 dX10_keepNow_1 zs_98 (by decide) rfl 4 rfl ?_
  refine z_bipush hX dX10_keepNow_4 qb_20 6 rfl ?_
  refine z_icmp_ne hX dX10_keepNow_6 45 9 (by decide) rfl (fun hc => ?_) (fun hc => ?_)
  · rw [if_neg hc] at h
    refine z_mask [true, false] ?_
    have hz := aX10_keepNow_J45 hX h
    exact hz
  · rw [if_pos hc] at h
    refine z_iconst hX dX10_keepNow_9 qi_1 10 rfl ?_
    refine z_istore_n hX dX10_keepNow_10 (by decide) 11 rfl ?_
    refine z_mask [true, true] ?_
    have hz := aX10_keepNow_L11 hX _ _ h
    exact hz
def gX10_pay (x1 : Int32) (x2 : Int32) (M : zM) : Option (Int32 × zM) :=
  zlet (zI M 98 0 0) (fun M1_ => zcI (gX10_isMan x1 M1_) (fun v3_ => (if v3_ = 0 then some ((-1), M1_)
  else (if x2 < 1 then some ((-1), M1_)
  else (if x2 ≤ 99 then (if x2 ≤ (M1_.1 121 (0 : Int32).toNatClampNeg) then zcV (gX10_keepNow M1_) (fun M5_ => zlet (zI M5_ 121 (0 : Int32).toNatClampNeg ((M5_.1 121 (0 : Int32).toNatClampNeg) - x2)) (fun M7_ => zg (zok x1 138) (zg (zok x1 138) (zlet (zI M7_ 124 (x1 : Int32).toNatClampNeg ((M7_.1 124 (x1 : Int32).toNatClampNeg) + x2)) (fun M11_ => some ((M11_.1 121 (0 : Int32).toNatClampNeg), M11_))))))
  else some ((-2), M1_))
  else some ((-1), M1_))))))
set_option maxRecDepth 100000 in
set_option maxHeartbeats 2000000 in
theorem mX10_pay {G : zG} {x1 : Int32} {x2 : Int32} {M : zM}  {res : (Int32 × zM)} (h : gX10_pay x1 x2 M = some res) : Ct G 3 tX10_pay [.ref 98, .int x1, .int x2] M (zQi res) := by
  unfold gX10_pay at h
  refine Ct.of (y := yX10_pay) rfl plX10 (Nat.le_of_ble_eq_true rfl) (fun X hX => ?_)
  replace hX : zC G X cX10_pay 3 RX10 (some .int) 3 := hX
  show Z G X _ 0 [some (.ref 98), some (.int x1), some (.int x2)] [] M
  refine z_aload_n hX dX10_pay_0 rfl 1 rfl ?_
  refine z_iconst hX dX10_pay_1 qi_0 2 rfl ?_
  refine z_putI hX pX10_154 dX10_pay_2 zs_98 (by decide) rfl 5 rfl ?_
  refine z_mem h (fun M1_ h2_ => ?_)
  refine z_aload_n hX dX10_pay_5 rfl 6 rfl ?_
  refine z_iload_n hX dX10_pay_6 rfl 7 rfl ?_
  obtain ⟨v3_, hq, h4_⟩ := zcI_of h2_
  refine z_callV hX vX10_isMan lX10_413 dX10_pay_7 zs_98 rfl (mX10_isMan  hq) (by decide) rfl rfl (Nat.le_of_ble_eq_true rfl) 10 rfl (Qi.to (fun v' M' hv => ?_))
  obtain ⟨rfl, rfl⟩ := hv
  refine z_if_eq hX dX10_pay_10 24 13 (by decide) rfl (fun hc => ?_) (fun hc => ?_)
  · rw [if_pos hc] at h4_
    refine z_iconst hX dX10_pay_24 qi_m1 25 rfl ?_
    exact z_ireturn hX dX10_pay_25 (zend_i h4_)
  · rw [if_neg hc] at h4_
    refine z_iload_n hX dX10_pay_13 rfl 14 rfl ?_
    refine z_iconst hX dX10_pay_14 qi_1 15 rfl ?_
    refine z_icmp_lt hX dX10_pay_15 24 18 (by decide) rfl (fun hc => ?_) (fun hc => ?_)
    · rw [if_pos hc] at h4_
      refine z_iconst hX dX10_pay_24 qi_m1 25 rfl ?_
      exact z_ireturn hX dX10_pay_25 (zend_i h4_)
    · rw [if_neg hc] at h4_
      refine z_iload_n hX dX10_pay_18 rfl 19 rfl ?_
      refine z_bipush hX dX10_pay_19 qb_99 21 rfl ?_
      refine z_icmp_le hX dX10_pay_21 26 24 (by decide) rfl (fun hc => ?_) (fun hc => ?_)
      · rw [if_pos hc] at h4_
        refine z_aload_n hX dX10_pay_26 rfl 27 rfl ?_
        refine z_getF hX fX10_81 dX10_pay_27 zs_98 (by decide) rfl 30 rfl ?_
        refine z_iconst hX dX10_pay_30 qi_0 31 rfl ?_
        refine z_iald hX dX10_pay_31 zs_121 (zok_in (by decide)) 32 rfl ?_
        refine z_iload_n hX dX10_pay_32 rfl 33 rfl ?_
        refine z_icmp_ge hX dX10_pay_33 39 36 (by decide) rfl (fun hc => ?_) (fun hc => ?_)
        · rw [if_pos hc] at h4_
          refine z_aload_n hX dX10_pay_39 rfl 40 rfl ?_
          obtain ⟨M5_, hq, h6_⟩ := zcV_of h4_
          refine z_callV hX vX10_keepNow lX10_429 dX10_pay_40 zs_98 rfl (mX10_keepNow  hq) (by decide) rfl rfl (Nat.le_of_ble_eq_true rfl) 43 rfl (Qv.to (fun M' hv => ?_))
          subst hv
          refine z_aload_n hX dX10_pay_43 rfl 44 rfl ?_
          refine z_getF hX fX10_81 dX10_pay_44 zs_98 (by decide) rfl 47 rfl ?_
          refine z_iconst hX dX10_pay_47 qi_0 48 rfl ?_
          refine z_dup2 hX dX10_pay_48 rfl rfl 49 rfl ?_
          refine z_iald hX dX10_pay_49 zs_121 (zok_in (by decide)) 50 rfl ?_
          refine z_iload_n hX dX10_pay_50 rfl 51 rfl ?_
          refine z_isub hX dX10_pay_51 52 rfl ?_
          refine z_iast hX dX10_pay_52 zs_121 (zok_in (by decide)) 53 rfl ?_
          refine z_mem h6_ (fun M7_ h8_ => ?_)
          refine z_aload_n hX dX10_pay_53 rfl 54 rfl ?_
          refine z_getF hX fX10_90 dX10_pay_54 zs_98 (by decide) rfl 57 rfl ?_
          refine z_iload_n hX dX10_pay_57 rfl 58 rfl ?_
          refine z_dup2 hX dX10_pay_58 rfl rfl 59 rfl ?_
          obtain ⟨hb, h9_⟩ := zgd h8_
          refine z_iald hX dX10_pay_59 zs_124 (zok_in hb) 60 rfl ?_
          refine z_iload_n hX dX10_pay_60 rfl 61 rfl ?_
          refine z_iadd hX dX10_pay_61 62 rfl ?_
          obtain ⟨hb, h10_⟩ := zgd h9_
          refine z_iast hX dX10_pay_62 zs_124 (zok_in hb) 63 rfl ?_
          refine z_mem h10_ (fun M11_ h12_ => ?_)
          refine z_aload_n hX dX10_pay_63 rfl 64 rfl ?_
          refine z_getF hX fX10_81 dX10_pay_64 zs_98 (by decide) rfl 67 rfl ?_
          refine z_iconst hX dX10_pay_67 qi_0 68 rfl ?_
          refine z_iald hX dX10_pay_68 zs_121 (zok_in (by decide)) 69 rfl ?_
          exact z_ireturn hX dX10_pay_69 (zend_i h12_)
        · rw [if_neg hc] at h4_
          refine z_bipush hX dX10_pay_36 qb_m2 38 rfl ?_
          exact z_ireturn hX dX10_pay_38 (zend_i h4_)
      · rw [if_neg hc] at h4_
        refine z_iconst hX dX10_pay_24 qi_m1 25 rfl ?_
        exact z_ireturn hX dX10_pay_25 (zend_i h4_)
def gX10_swap (x1 : Int32) (x2 : Int32) (M : zM) : Option (Int32 × zM) :=
  zlet (zI M 98 0 0) (fun M1_ => zcI (gX10_isMan x1 M1_) (fun v3_ => (if v3_ = 0 then some (0, M1_)
  else zcI (gX10_isMan x2 M1_) (fun v5_ => (if v5_ = 0 then some (0, M1_)
  else (if x1 = x2 then some (0, M1_)
  else zcV (gX10_keepNow M1_) (fun M7_ => zcI (gX10_placeOf x1 M7_) (fun v9_ => zcI (gX10_placeOf x2 M7_) (fun v11_ => zg (zok v9_ 138) (zlet (zI M7_ 129 (v9_ : Int32).toNatClampNeg x2) (fun M14_ => zg (zok v11_ 138) (zlet (zI M14_ 129 (v11_ : Int32).toNatClampNeg x1) (fun M17_ => some (1, M17_))))))))))))))
set_option maxRecDepth 100000 in
set_option maxHeartbeats 2000000 in
theorem mX10_swap {G : zG} {x1 : Int32} {x2 : Int32} {M : zM}  {res : (Int32 × zM)} (h : gX10_swap x1 x2 M = some res) : Ct G 3 tX10_swap [.ref 98, .int x1, .int x2] M (zQi res) := by
  unfold gX10_swap at h
  refine Ct.of (y := yX10_swap) rfl plX10 (Nat.le_of_ble_eq_true rfl) (fun X hX => ?_)
  replace hX : zC G X cX10_swap 5 RX10 (some .boolean) 3 := hX
  show Z G X _ 0 [some (.ref 98), some (.int x1), some (.int x2), none, none] [] M
  refine z_aload_n hX dX10_swap_0 rfl 1 rfl ?_
  refine z_iconst hX dX10_swap_1 qi_0 2 rfl ?_
  refine z_putI hX pX10_154 dX10_swap_2 zs_98 (by decide) rfl 5 rfl ?_
  refine z_mem h (fun M1_ h2_ => ?_)
  refine z_aload_n hX dX10_swap_5 rfl 6 rfl ?_
  refine z_iload_n hX dX10_swap_6 rfl 7 rfl ?_
  obtain ⟨v3_, hq, h4_⟩ := zcI_of h2_
  refine z_callV hX vX10_isMan lX10_413 dX10_swap_7 zs_98 rfl (mX10_isMan  hq) (by decide) rfl rfl (Nat.le_of_ble_eq_true rfl) 10 rfl (Qi.to (fun v' M' hv => ?_))
  obtain ⟨rfl, rfl⟩ := hv
  refine z_if_eq hX dX10_swap_10 26 13 (by decide) rfl (fun hc => ?_) (fun hc => ?_)
  · rw [if_pos hc] at h4_
    refine z_iconst hX dX10_swap_26 qi_0 27 rfl ?_
    exact z_zreturn hX dX10_swap_27 (by decide) (zend_i h4_)
  · rw [if_neg hc] at h4_
    refine z_aload_n hX dX10_swap_13 rfl 14 rfl ?_
    refine z_iload_n hX dX10_swap_14 rfl 15 rfl ?_
    obtain ⟨v5_, hq, h6_⟩ := zcI_of h4_
    refine z_callV hX vX10_isMan lX10_413 dX10_swap_15 zs_98 rfl (mX10_isMan  hq) (by decide) rfl rfl (Nat.le_of_ble_eq_true rfl) 18 rfl (Qi.to (fun v' M' hv => ?_))
    obtain ⟨rfl, rfl⟩ := hv
    refine z_if_eq hX dX10_swap_18 26 21 (by decide) rfl (fun hc => ?_) (fun hc => ?_)
    · rw [if_pos hc] at h6_
      refine z_iconst hX dX10_swap_26 qi_0 27 rfl ?_
      exact z_zreturn hX dX10_swap_27 (by decide) (zend_i h6_)
    · rw [if_neg hc] at h6_
      refine z_iload_n hX dX10_swap_21 rfl 22 rfl ?_
      refine z_iload_n hX dX10_swap_22 rfl 23 rfl ?_
      refine z_icmp_ne hX dX10_swap_23 28 26 (by decide) rfl (fun hc => ?_) (fun hc => ?_)
      · rw [if_neg hc] at h6_
        refine z_aload_n hX dX10_swap_28 rfl 29 rfl ?_
        obtain ⟨M7_, hq, h8_⟩ := zcV_of h6_
        refine z_callV hX vX10_keepNow lX10_429 dX10_swap_29 zs_98 rfl (mX10_keepNow  hq) (by decide) rfl rfl (Nat.le_of_ble_eq_true rfl) 32 rfl (Qv.to (fun M' hv => ?_))
        subst hv
        refine z_aload_n hX dX10_swap_32 rfl 33 rfl ?_
        refine z_iload_n hX dX10_swap_33 rfl 34 rfl ?_
        obtain ⟨v9_, hq, h10_⟩ := zcI_of h8_
        refine z_callV hX vX10_placeOf lX10_419 dX10_swap_34 zs_98 rfl (mX10_placeOf  hq) (by decide) rfl rfl (Nat.le_of_ble_eq_true rfl) 37 rfl (Qi.to (fun v' M' hv => ?_))
        obtain ⟨rfl, rfl⟩ := hv
        refine z_istore_n hX dX10_swap_37 (by decide) 38 rfl ?_
        refine z_aload_n hX dX10_swap_38 rfl 39 rfl ?_
        refine z_iload_n hX dX10_swap_39 rfl 40 rfl ?_
        obtain ⟨v11_, hq, h12_⟩ := zcI_of h10_
        refine z_callV hX vX10_placeOf lX10_419 dX10_swap_40 zs_98 rfl (mX10_placeOf  hq) (by decide) rfl rfl (Nat.le_of_ble_eq_true rfl) 43 rfl (Qi.to (fun v' M' hv => ?_))
        obtain ⟨rfl, rfl⟩ := hv
        refine z_istore hX dX10_swap_43 (by decide) 45 rfl ?_
        refine z_aload_n hX dX10_swap_45 rfl 46 rfl ?_
        refine z_getF hX fX10_105 dX10_swap_46 zs_98 (by decide) rfl 49 rfl ?_
        refine z_iload_n hX dX10_swap_49 rfl 50 rfl ?_
        refine z_iload_n hX dX10_swap_50 rfl 51 rfl ?_
        obtain ⟨hb, h13_⟩ := zgd h12_
        refine z_iast hX dX10_swap_51 zs_129 (zok_in hb) 52 rfl ?_
        refine z_mem h13_ (fun M14_ h15_ => ?_)
        refine z_aload_n hX dX10_swap_52 rfl 53 rfl ?_
        refine z_getF hX fX10_105 dX10_swap_53 zs_98 (by decide) rfl 56 rfl ?_
        refine z_iload hX dX10_swap_56 rfl 58 rfl ?_
        refine z_iload_n hX dX10_swap_58 rfl 59 rfl ?_
        obtain ⟨hb, h16_⟩ := zgd h15_
        refine z_iast hX dX10_swap_59 zs_129 (zok_in hb) 60 rfl ?_
        refine z_mem h16_ (fun M17_ h18_ => ?_)
        refine z_iconst hX dX10_swap_60 qi_1 61 rfl ?_
        exact z_zreturn hX dX10_swap_61 (by decide) (zend_i h18_)
      · rw [if_pos hc] at h6_
        refine z_iconst hX dX10_swap_26 qi_0 27 rfl ?_
        exact z_zreturn hX dX10_swap_27 (by decide) (zend_i h6_)
def gX10_hold_J28 (x1 : Int32) (x2 : Int32) (y0 : Int32) (M : zM) : Option (Int32 × zM) :=
  (if y0 = x2 then some (0, M)
  else zcV (gX10_keepNow M) (fun M6_ => (if x2 = 0 then zg (zok x1 138) (zlet (zI M6_ 128 (x1 : Int32).toNatClampNeg 0) (fun M9_ => some (1, M9_)))
  else zg (zok x1 138) (zlet (zI M6_ 128 (x1 : Int32).toNatClampNeg 1) (fun M12_ => some (1, M12_))))))
set_option maxRecDepth 100000 in
set_option maxHeartbeats 2000000 in
theorem aX10_hold_J28 {G : zG} {X : zX} {x1 : Int32} {x2 : Int32} {y0 : Int32} (hX : zC G X cX10_hold 3 RX10 (some .boolean) 3)   {M : zM} {res : (Int32 × zM)}  (h : gX10_hold_J28 x1 x2 y0 M = some res) : Z G X (zQi res) 28 [some (.ref 98), some (.int x1), some (.int x2)] [.int y0] M := by
  unfold gX10_hold_J28 at h
  refine z_iload_n hX dX10_hold_28 rfl 29 rfl ?_
  refine z_icmp_ne hX dX10_hold_29 34 32 (by decide) rfl (fun hc => ?_) (fun hc => ?_)
  · rw [if_neg hc] at h
    refine z_aload_n hX dX10_hold_34 rfl 35 rfl ?_
    obtain ⟨M6_, hq, h7_⟩ := zcV_of h
    refine z_callV hX vX10_keepNow lX10_429 dX10_hold_35 zs_98 rfl (mX10_keepNow  hq) (by decide) rfl rfl (Nat.le_of_ble_eq_true rfl) 38 rfl (Qv.to (fun M' hv => ?_))
    subst hv
    refine z_aload_n hX dX10_hold_38 rfl 39 rfl ?_
    refine z_getF hX fX10_102 dX10_hold_39 zs_98 (by decide) rfl 42 rfl ?_
    refine z_iload_n hX dX10_hold_42 rfl 43 rfl ?_
    refine z_iload_n hX dX10_hold_43 rfl 44 rfl ?_
    refine z_if_eq hX dX10_hold_44 51 47 (by decide) rfl (fun hc => ?_) (fun hc => ?_)
    · rw [if_pos hc] at h7_
      refine z_iconst hX dX10_hold_51 qi_0 52 rfl ?_
      obtain ⟨hb, h8_⟩ := zgd h7_
      refine z_iast hX dX10_hold_52 zs_128 (zok_in hb) 53 rfl ?_
      refine z_mem h8_ (fun M9_ h10_ => ?_)
      refine z_iconst hX dX10_hold_53 qi_1 54 rfl ?_
      exact z_zreturn hX dX10_hold_54 (by decide) (zend_i h10_)
    · rw [if_neg hc] at h7_
      refine z_iconst hX dX10_hold_47 qi_1 48 rfl ?_
      refine z_goto hX dX10_hold_48 52 (by decide) ?_
      obtain ⟨hb, h11_⟩ := zgd h7_
      refine z_iast hX dX10_hold_52 zs_128 (zok_in hb) 53 rfl ?_
      refine z_mem h11_ (fun M12_ h13_ => ?_)
      refine z_iconst hX dX10_hold_53 qi_1 54 rfl ?_
      exact z_zreturn hX dX10_hold_54 (by decide) (zend_i h13_)
  · rw [if_pos hc] at h
    refine z_iconst hX dX10_hold_32 qi_0 33 rfl ?_
    exact z_zreturn hX dX10_hold_33 (by decide) (zend_i h)
def gX10_hold (x1 : Int32) (x2 : Int32) (M : zM) : Option (Int32 × zM) :=
  zlet (zI M 98 0 0) (fun M1_ => zcI (gX10_isMan x1 M1_) (fun v3_ => (if v3_ = 0 then some (0, M1_)
  else zg (zok x1 138) ((if (M1_.1 128 (x1 : Int32).toNatClampNeg) = 1 then gX10_hold_J28 x1 x2 1 M1_
  else gX10_hold_J28 x1 x2 0 M1_)))))
set_option maxRecDepth 100000 in
set_option maxHeartbeats 2000000 in
theorem mX10_hold {G : zG} {x1 : Int32} {x2 : Int32} {M : zM}  {res : (Int32 × zM)} (h : gX10_hold x1 x2 M = some res) : Ct G 3 tX10_hold [.ref 98, .int x1, .int x2] M (zQi res) := by
  unfold gX10_hold at h
  refine Ct.of (y := yX10_hold) rfl plX10 (Nat.le_of_ble_eq_true rfl) (fun X hX => ?_)
  replace hX : zC G X cX10_hold 3 RX10 (some .boolean) 3 := hX
  show Z G X _ 0 [some (.ref 98), some (.int x1), some (.int x2)] [] M
  refine z_aload_n hX dX10_hold_0 rfl 1 rfl ?_
  refine z_iconst hX dX10_hold_1 qi_0 2 rfl ?_
  refine z_putI hX pX10_154 dX10_hold_2 zs_98 (by decide) rfl 5 rfl ?_
  refine z_mem h (fun M1_ h2_ => ?_)
  refine z_aload_n hX dX10_hold_5 rfl 6 rfl ?_
  refine z_iload_n hX dX10_hold_6 rfl 7 rfl ?_
  obtain ⟨v3_, hq, h4_⟩ := zcI_of h2_
  refine z_callV hX vX10_isMan lX10_413 dX10_hold_7 zs_98 rfl (mX10_isMan  hq) (by decide) rfl rfl (Nat.le_of_ble_eq_true rfl) 10 rfl (Qi.to (fun v' M' hv => ?_))
  obtain ⟨rfl, rfl⟩ := hv
  refine z_if_eq hX dX10_hold_10 32 13 (by decide) rfl (fun hc => ?_) (fun hc => ?_)
  · rw [if_pos hc] at h4_
    refine z_iconst hX dX10_hold_32 qi_0 33 rfl ?_
    exact z_zreturn hX dX10_hold_33 (by decide) (zend_i h4_)
  · rw [if_neg hc] at h4_
    refine z_aload_n hX dX10_hold_13 rfl 14 rfl ?_
    refine z_getF hX fX10_102 dX10_hold_14 zs_98 (by decide) rfl 17 rfl ?_
    refine z_iload_n hX dX10_hold_17 rfl 18 rfl ?_
    obtain ⟨hb, h5_⟩ := zgd h4_
    refine z_iald hX dX10_hold_18 zs_128 (zok_in hb) 19 rfl ?_
    refine z_iconst hX dX10_hold_19 qi_1 20 rfl ?_
    refine z_icmp_ne hX dX10_hold_20 27 23 (by decide) rfl (fun hc => ?_) (fun hc => ?_)
    · rw [if_neg hc] at h5_
      refine z_iconst hX dX10_hold_27 qi_0 28 rfl ?_
      refine z_mask [true, true, true] ?_
      have hz := aX10_hold_J28 hX h5_
      exact hz
    · rw [if_pos hc] at h5_
      refine z_iconst hX dX10_hold_23 qi_1 24 rfl ?_
      refine z_goto hX dX10_hold_24 28 (by decide) ?_
      refine z_mask [true, true, true] ?_
      have hz := aX10_hold_J28 hX h5_
      exact hz
def gX10_wet (x1 : Int32) (x2 : Int32) (M : zM) : Option (Int32 × zM) :=
  zlet (zI M 98 0 0) (fun M1_ => zcI (gX10_isThing x1 M1_) (fun v3_ => (if v3_ = 0 then some ((-1), M1_)
  else (if x2 < 1 then some ((-1), M1_)
  else (if 20 < x2 then some ((-1), M1_)
  else zg (zok x1 184) ((if (M1_.1 130 (x1 : Int32).toNatClampNeg) = 0 then zcV (gX10_keepNow M1_) (fun M6_ => zg (zok x1 184) (zg (zok x1 184) (zlet (zI M6_ 131 (x1 : Int32).toNatClampNeg (if ((M6_.1 131 (x1 : Int32).toNatClampNeg) + x2) < 999 then ((M6_.1 131 (x1 : Int32).toNatClampNeg) + x2) else 999)) (fun M10_ => zg (zok x1 184) (some ((M10_.1 131 (x1 : Int32).toNatClampNeg), M10_))))))
  else some ((-1), M1_))))))))
set_option maxRecDepth 100000 in
set_option maxHeartbeats 2000000 in
theorem mX10_wet {G : zG} {x1 : Int32} {x2 : Int32} {M : zM}  {res : (Int32 × zM)} (h : gX10_wet x1 x2 M = some res) : Ct G 3 tX10_wet [.ref 98, .int x1, .int x2] M (zQi res) := by
  unfold gX10_wet at h
  refine Ct.of (y := yX10_wet) rfl plX10 (Nat.le_of_ble_eq_true rfl) (fun X hX => ?_)
  replace hX : zC G X cX10_wet 3 RX10 (some .int) 3 := hX
  show Z G X _ 0 [some (.ref 98), some (.int x1), some (.int x2)] [] M
  refine z_aload_n hX dX10_wet_0 rfl 1 rfl ?_
  refine z_iconst hX dX10_wet_1 qi_0 2 rfl ?_
  refine z_putI hX pX10_154 dX10_wet_2 zs_98 (by decide) rfl 5 rfl ?_
  refine z_mem h (fun M1_ h2_ => ?_)
  refine z_aload_n hX dX10_wet_5 rfl 6 rfl ?_
  refine z_iload_n hX dX10_wet_6 rfl 7 rfl ?_
  obtain ⟨v3_, hq, h4_⟩ := zcI_of h2_
  refine z_callV hX vX10_isThing lX10_422 dX10_wet_7 zs_98 rfl (mX10_isThing  hq) (by decide) rfl rfl (Nat.le_of_ble_eq_true rfl) 10 rfl (Qi.to (fun v' M' hv => ?_))
  obtain ⟨rfl, rfl⟩ := hv
  refine z_if_eq hX dX10_wet_10 33 13 (by decide) rfl (fun hc => ?_) (fun hc => ?_)
  · rw [if_pos hc] at h4_
    refine z_iconst hX dX10_wet_33 qi_m1 34 rfl ?_
    exact z_ireturn hX dX10_wet_34 (zend_i h4_)
  · rw [if_neg hc] at h4_
    refine z_iload_n hX dX10_wet_13 rfl 14 rfl ?_
    refine z_iconst hX dX10_wet_14 qi_1 15 rfl ?_
    refine z_icmp_lt hX dX10_wet_15 33 18 (by decide) rfl (fun hc => ?_) (fun hc => ?_)
    · rw [if_pos hc] at h4_
      refine z_iconst hX dX10_wet_33 qi_m1 34 rfl ?_
      exact z_ireturn hX dX10_wet_34 (zend_i h4_)
    · rw [if_neg hc] at h4_
      refine z_iload_n hX dX10_wet_18 rfl 19 rfl ?_
      refine z_bipush hX dX10_wet_19 qb_20 21 rfl ?_
      refine z_icmp_gt hX dX10_wet_21 33 24 (by decide) rfl (fun hc => ?_) (fun hc => ?_)
      · rw [if_pos hc] at h4_
        refine z_iconst hX dX10_wet_33 qi_m1 34 rfl ?_
        exact z_ireturn hX dX10_wet_34 (zend_i h4_)
      · rw [if_neg hc] at h4_
        refine z_aload_n hX dX10_wet_24 rfl 25 rfl ?_
        refine z_getF hX fX10_108 dX10_wet_25 zs_98 (by decide) rfl 28 rfl ?_
        refine z_iload_n hX dX10_wet_28 rfl 29 rfl ?_
        obtain ⟨hb, h5_⟩ := zgd h4_
        refine z_iald hX dX10_wet_29 zs_130 (zok_in hb) 30 rfl ?_
        refine z_if_eq hX dX10_wet_30 35 33 (by decide) rfl (fun hc => ?_) (fun hc => ?_)
        · rw [if_pos hc] at h5_
          refine z_aload_n hX dX10_wet_35 rfl 36 rfl ?_
          obtain ⟨M6_, hq, h7_⟩ := zcV_of h5_
          refine z_callV hX vX10_keepNow lX10_429 dX10_wet_36 zs_98 rfl (mX10_keepNow  hq) (by decide) rfl rfl (Nat.le_of_ble_eq_true rfl) 39 rfl (Qv.to (fun M' hv => ?_))
          subst hv
          refine z_aload_n hX dX10_wet_39 rfl 40 rfl ?_
          refine z_getF hX fX10_111 dX10_wet_40 zs_98 (by decide) rfl 43 rfl ?_
          refine z_iload_n hX dX10_wet_43 rfl 44 rfl ?_
          refine z_sipush hX dX10_wet_44 qs_999 47 rfl ?_
          refine z_aload_n hX dX10_wet_47 rfl 48 rfl ?_
          refine z_getF hX fX10_111 dX10_wet_48 zs_98 (by decide) rfl 51 rfl ?_
          refine z_iload_n hX dX10_wet_51 rfl 52 rfl ?_
          obtain ⟨hb, h8_⟩ := zgd h7_
          refine z_iald hX dX10_wet_52 zs_131 (zok_in hb) 53 rfl ?_
          refine z_iload_n hX dX10_wet_53 rfl 54 rfl ?_
          refine z_iadd hX dX10_wet_54 55 rfl ?_
          refine z_min hX dX10_wet_55 lX10_389 (by decide) (Nat.le_of_ble_eq_true rfl) 58 rfl ?_
          obtain ⟨hb, h9_⟩ := zgd h8_
          refine z_iast hX dX10_wet_58 zs_131 (zok_in hb) 59 rfl ?_
          refine z_mem h9_ (fun M10_ h11_ => ?_)
          refine z_aload_n hX dX10_wet_59 rfl 60 rfl ?_
          refine z_getF hX fX10_111 dX10_wet_60 zs_98 (by decide) rfl 63 rfl ?_
          refine z_iload_n hX dX10_wet_63 rfl 64 rfl ?_
          obtain ⟨hb, h12_⟩ := zgd h11_
          refine z_iald hX dX10_wet_64 zs_131 (zok_in hb) 65 rfl ?_
          exact z_ireturn hX dX10_wet_65 (zend_i h12_)
        · rw [if_neg hc] at h5_
          refine z_iconst hX dX10_wet_33 qi_m1 34 rfl ?_
          exact z_ireturn hX dX10_wet_34 (zend_i h5_)
def gX10_falls_J14 (x2 : Int32) (M : zM) : Option (Int32 × zM) :=
  (if x2 < 50 then some (0, M)
  else some (1, M))
set_option maxRecDepth 100000 in
set_option maxHeartbeats 2000000 in
theorem aX10_falls_J14 {G : zG} {X : zX} {x2 : Int32} (hX : zC G X cX10_falls 4 RX10 (some .boolean) 1)   {M : zM} {res : (Int32 × zM)}  (h : gX10_falls_J14 x2 M = some res) : Z G X (zQi res) 14 [none, none, some (.int x2), none] [] M := by
  unfold gX10_falls_J14 at h
  refine z_iload_n hX dX10_falls_14 rfl 15 rfl ?_
  refine z_bipush hX dX10_falls_15 qb_50 17 rfl ?_
  refine z_icmp_lt hX dX10_falls_17 24 20 (by decide) rfl (fun hc => ?_) (fun hc => ?_)
  · rw [if_pos hc] at h
    refine z_iconst hX dX10_falls_24 qi_0 25 rfl ?_
    exact z_zreturn hX dX10_falls_25 (by decide) (zend_i h)
  · rw [if_neg hc] at h
    refine z_iconst hX dX10_falls_20 qi_1 21 rfl ?_
    refine z_goto hX dX10_falls_21 25 (by decide) ?_
    exact z_zreturn hX dX10_falls_25 (by decide) (zend_i h)
def gX10_falls (x1 : Int32) (x2 : Int32) (x3 : Int32) (M : zM) : Option (Int32 × zM) :=
  (if x3 = 0 then gX10_falls_J14 x2 M
  else (if x2 = 0 then gX10_falls_J14 x2 M
  else (if x2 = 100 then gX10_falls_J14 x2 M
  else zg (zok x1 23) (zg (zok x1 23) (zlet (zI M 119 (x1 : Int32).toNatClampNeg ((((M.1 119 (x1 : Int32).toNatClampNeg) * 1103515245) + 12345) &&& 2147483647)) (fun M3_ => zg (zok x1 23) ((if x2 ≤ ((((M3_.1 119 (x1 : Int32).toNatClampNeg) : Int32) >>> ((16 : Int32) &&& 31)) - (((M3_.1 119 (x1 : Int32).toNatClampNeg) : Int32) >>> ((16 : Int32) &&& 31)) / 100 * 100) then some (0, M3_)
  else some (1, M3_)))))))))
set_option maxRecDepth 100000 in
set_option maxHeartbeats 2000000 in
theorem mX10_falls {G : zG} {x1 : Int32} {x2 : Int32} {x3 : Int32} {M : zM}  {res : (Int32 × zM)} (h : gX10_falls x1 x2 x3 M = some res) : Ct G 1 tX10_falls [.ref 98, .int x1, .int x2, .int x3] M (zQi res) := by
  unfold gX10_falls at h
  refine Ct.of (y := yX10_falls) rfl plX10 (Nat.le_of_ble_eq_true rfl) (fun X hX => ?_)
  replace hX : zC G X cX10_falls 4 RX10 (some .boolean) 1 := hX
  show Z G X _ 0 [some (.ref 98), some (.int x1), some (.int x2), some (.int x3)] [] M
  refine z_iload_n hX dX10_falls_0 rfl 1 rfl ?_
  refine z_if_eq hX dX10_falls_1 14 4 (by decide) rfl (fun hc => ?_) (fun hc => ?_)
  · rw [if_pos hc] at h
    refine z_mask [false, false, true, false] ?_
    have hz := aX10_falls_J14 hX h
    exact hz
  · rw [if_neg hc] at h
    refine z_iload_n hX dX10_falls_4 rfl 5 rfl ?_
    refine z_if_eq hX dX10_falls_5 14 8 (by decide) rfl (fun hc => ?_) (fun hc => ?_)
    · rw [if_pos hc] at h
      refine z_mask [false, false, true, false] ?_
      have hz := aX10_falls_J14 hX h
      exact hz
    · rw [if_neg hc] at h
      refine z_iload_n hX dX10_falls_8 rfl 9 rfl ?_
      refine z_bipush hX dX10_falls_9 qb_100 11 rfl ?_
      refine z_icmp_ne hX dX10_falls_11 26 14 (by decide) rfl (fun hc => ?_) (fun hc => ?_)
      · rw [if_neg hc] at h
        refine z_aload_n hX dX10_falls_26 rfl 27 rfl ?_
        refine z_getF hX fX10_75 dX10_falls_27 zs_98 (by decide) rfl 30 rfl ?_
        refine z_iload_n hX dX10_falls_30 rfl 31 rfl ?_
        refine z_aload_n hX dX10_falls_31 rfl 32 rfl ?_
        refine z_getF hX fX10_75 dX10_falls_32 zs_98 (by decide) rfl 35 rfl ?_
        refine z_iload_n hX dX10_falls_35 rfl 36 rfl ?_
        obtain ⟨hb, h1_⟩ := zgd h
        refine z_iald hX dX10_falls_36 zs_119 (zok_in hb) 37 rfl ?_
        refine z_ldcw hX dX10_falls_37 kX10_370 40 rfl ?_
        refine z_imul hX dX10_falls_40 41 rfl ?_
        refine z_sipush hX dX10_falls_41 qs_12345 44 rfl ?_
        refine z_iadd hX dX10_falls_44 45 rfl ?_
        refine z_ldcw hX dX10_falls_45 kX10_373 48 rfl ?_
        refine z_iand hX dX10_falls_48 49 rfl ?_
        obtain ⟨hb, h2_⟩ := zgd h1_
        refine z_iast hX dX10_falls_49 zs_119 (zok_in hb) 50 rfl ?_
        refine z_mem h2_ (fun M3_ h4_ => ?_)
        refine z_aload_n hX dX10_falls_50 rfl 51 rfl ?_
        refine z_getF hX fX10_75 dX10_falls_51 zs_98 (by decide) rfl 54 rfl ?_
        refine z_iload_n hX dX10_falls_54 rfl 55 rfl ?_
        obtain ⟨hb, h5_⟩ := zgd h4_
        refine z_iald hX dX10_falls_55 zs_119 (zok_in hb) 56 rfl ?_
        refine z_bipush hX dX10_falls_56 qb_16 58 rfl ?_
        refine z_ishr hX dX10_falls_58 59 rfl ?_
        refine z_bipush hX dX10_falls_59 qb_100 61 rfl ?_
        refine z_irem hX dX10_falls_61 (by decide) 62 rfl ?_
        refine z_iload_n hX dX10_falls_62 rfl 63 rfl ?_
        refine z_icmp_ge hX dX10_falls_63 70 66 (by decide) rfl (fun hc => ?_) (fun hc => ?_)
        · rw [if_pos hc] at h5_
          refine z_iconst hX dX10_falls_70 qi_0 71 rfl ?_
          exact z_zreturn hX dX10_falls_71 (by decide) (zend_i h5_)
        · rw [if_neg hc] at h5_
          refine z_iconst hX dX10_falls_66 qi_1 67 rfl ?_
          refine z_goto hX dX10_falls_67 71 (by decide) ?_
          exact z_zreturn hX dX10_falls_71 (by decide) (zend_i h5_)
      · rw [if_pos hc] at h
        refine z_mask [false, false, true, false] ?_
        have hz := aX10_falls_J14 hX h
        exact hz
def gX10_within (x1 : Int32) (x2 : Int32) (x3 : Int32) (x4 : Int32) (M : zM) : Option (Int32 × zM) :=
  zcI (gX10_hasLaw x1 M) (fun v1_ => (if v1_ = 0 then some (x4, M)
  else zcIM (gX10_comesOut x1 M) (fun v3_ M4_ => (if v3_ = 0 then some (x4, M4_)
  else some (((if (if (M4_.2.1 117 (0 : Int32).toNatClampNeg) < (x3 : Int32).toInt64 then (M4_.2.1 117 (0 : Int32).toNatClampNeg) else (x3 : Int32).toInt64) < (x2 : Int32).toInt64 then (x2 : Int32).toInt64 else (if (M4_.2.1 117 (0 : Int32).toNatClampNeg) < (x3 : Int32).toInt64 then (M4_.2.1 117 (0 : Int32).toNatClampNeg) else (x3 : Int32).toInt64)) : Int64).toInt32, M4_)))))
set_option maxRecDepth 100000 in
set_option maxHeartbeats 2000000 in
theorem mX10_within {G : zG} {x1 : Int32} {x2 : Int32} {x3 : Int32} {x4 : Int32} {M : zM}  {res : (Int32 × zM)} (h : gX10_within x1 x2 x3 x4 M = some res) : Ct G 4 tX10_within [.ref 98, .int x1, .int x2, .int x3, .int x4] M (zQi res) := by
  unfold gX10_within at h
  refine Ct.of (y := yX10_within) rfl plX10 (Nat.le_of_ble_eq_true rfl) (fun X hX => ?_)
  replace hX : zC G X cX10_within 5 RX10 (some .int) 4 := hX
  show Z G X _ 0 [some (.ref 98), some (.int x1), some (.int x2), some (.int x3), some (.int x4)] [] M
  refine z_aload_n hX dX10_within_0 rfl 1 rfl ?_
  refine z_iload_n hX dX10_within_1 rfl 2 rfl ?_
  obtain ⟨v1_, hq, h2_⟩ := zcI_of h
  refine z_callV hX vX10_hasLaw lX10_344 dX10_within_2 zs_98 rfl (mX10_hasLaw  hq) (by decide) rfl rfl (Nat.le_of_ble_eq_true rfl) 5 rfl (Qi.to (fun v' M' hv => ?_))
  obtain ⟨rfl, rfl⟩ := hv
  refine z_if_eq hX dX10_within_5 16 8 (by decide) rfl (fun hc => ?_) (fun hc => ?_)
  · rw [if_pos hc] at h2_
    refine z_iload hX dX10_within_16 rfl 18 rfl ?_
    exact z_ireturn hX dX10_within_18 (zend_i h2_)
  · rw [if_neg hc] at h2_
    refine z_aload_n hX dX10_within_8 rfl 9 rfl ?_
    refine z_iload_n hX dX10_within_9 rfl 10 rfl ?_
    obtain ⟨v3_, M4_, hq, h5_⟩ := zcIM_of h2_
    refine z_callV hX vX10_comesOut lX10_347 dX10_within_10 zs_98 rfl (mX10_comesOut  hq) (by decide) rfl rfl (Nat.le_of_ble_eq_true rfl) 13 rfl (Qi.to (fun v' M' hv => ?_))
    cases hv
    refine z_if_ne hX dX10_within_13 19 16 (by decide) rfl (fun hc => ?_) (fun hc => ?_)
    · rw [if_neg hc] at h5_
      refine z_iload_n hX dX10_within_19 rfl 20 rfl ?_
      refine z_i2l hX dX10_within_20 21 rfl ?_
      refine z_iload_n hX dX10_within_21 rfl 22 rfl ?_
      refine z_i2l hX dX10_within_22 23 rfl ?_
      refine z_aload_n hX dX10_within_23 rfl 24 rfl ?_
      refine z_getF hX fX10_69 dX10_within_24 zs_98 (by decide) rfl 27 rfl ?_
      refine z_iconst hX dX10_within_27 qi_0 28 rfl ?_
      refine z_lald hX dX10_within_28 zs_117 (zok_in (by decide)) 29 rfl ?_
      refine z_minL hX dX10_within_29 lX10_350 (by decide) (Nat.le_of_ble_eq_true rfl) 32 rfl ?_
      refine z_maxL hX dX10_within_32 lX10_354 (by decide) (Nat.le_of_ble_eq_true rfl) 35 rfl ?_
      refine z_l2i hX dX10_within_35 36 rfl ?_
      exact z_ireturn hX dX10_within_36 (zend_i h5_)
    · rw [if_pos hc] at h5_
      refine z_iload hX dX10_within_16 rfl 18 rfl ?_
      exact z_ireturn hX dX10_within_18 (zend_i h5_)
def gX10_isHurt (x1 : Int32) (x2 : Int32) (x3 : Int32) (M : zM) : Option (Int32 × zM) :=
  (if (M.1 98 51) = 3 then some (0, M)
  else zg (zok ((6 * x1) + x2) 138) (zcV (gX10_calls x1 x2 (M.1 126 (((6 * x1) + x2) : Int32).toNatClampNeg) 0 M) (fun M2_ => zcIM (gX10_within 2 0 100 (M2_.1 100 (6 : Int32).toNatClampNeg) M2_) (fun v4_ M5_ => zcIM (gX10_falls x1 v4_ x3 M5_) (fun v7_ M8_ => zg (zbit v7_) (some (v7_, M8_)))))))
set_option maxRecDepth 100000 in
set_option maxHeartbeats 2000000 in
theorem mX10_isHurt {G : zG} {x1 : Int32} {x2 : Int32} {x3 : Int32} {M : zM}  {res : (Int32 × zM)} (h : gX10_isHurt x1 x2 x3 M = some res) : Ct G 5 tX10_isHurt [.ref 98, .int x1, .int x2, .int x3] M (zQi res) := by
  unfold gX10_isHurt at h
  refine Ct.of (y := yX10_isHurt) rfl plX10 (Nat.le_of_ble_eq_true rfl) (fun X hX => ?_)
  replace hX : zC G X cX10_isHurt 4 RX10 (some .boolean) 5 := hX
  show Z G X _ 0 [some (.ref 98), some (.int x1), some (.int x2), some (.int x3)] [] M
  refine z_aload_n hX dX10_isHurt_0 rfl 1 rfl ?_
  refine z_getI hX fX10_360 dX10_isHurt_1 zs_98 (by decide) rfl 4 rfl ?_
  refine z_iconst hX dX10_isHurt_4 qi_3 5 rfl ?_
  refine z_icmp_ne hX dX10_isHurt_5 10 8 (by decide) rfl (fun hc => ?_) (fun hc => ?_)
  · rw [if_neg hc] at h
    refine z_aload_n hX dX10_isHurt_10 rfl 11 rfl ?_
    refine z_iload_n hX dX10_isHurt_11 rfl 12 rfl ?_
    refine z_iload_n hX dX10_isHurt_12 rfl 13 rfl ?_
    refine z_aload_n hX dX10_isHurt_13 rfl 14 rfl ?_
    refine z_getF hX fX10_96 dX10_isHurt_14 zs_98 (by decide) rfl 17 rfl ?_
    refine z_bipush hX dX10_isHurt_17 qb_6 19 rfl ?_
    refine z_iload_n hX dX10_isHurt_19 rfl 20 rfl ?_
    refine z_imul hX dX10_isHurt_20 21 rfl ?_
    refine z_iload_n hX dX10_isHurt_21 rfl 22 rfl ?_
    refine z_iadd hX dX10_isHurt_22 23 rfl ?_
    obtain ⟨hb, h1_⟩ := zgd h
    refine z_iald hX dX10_isHurt_23 zs_126 (zok_in hb) 24 rfl ?_
    refine z_iconst hX dX10_isHurt_24 qi_0 25 rfl ?_
    obtain ⟨M2_, hq, h3_⟩ := zcV_of h1_
    refine z_callV hX vX10_calls lX10_340 dX10_isHurt_25 zs_98 rfl (mX10_calls  hq) (by decide) rfl rfl (Nat.le_of_ble_eq_true rfl) 28 rfl (Qv.to (fun M' hv => ?_))
    subst hv
    refine z_aload_n hX dX10_isHurt_28 rfl 29 rfl ?_
    refine z_iload_n hX dX10_isHurt_29 rfl 30 rfl ?_
    refine z_aload_n hX dX10_isHurt_30 rfl 31 rfl ?_
    refine z_iconst hX dX10_isHurt_31 qi_2 32 rfl ?_
    refine z_iconst hX dX10_isHurt_32 qi_0 33 rfl ?_
    refine z_bipush hX dX10_isHurt_33 qb_100 35 rfl ?_
    refine z_aload_n hX dX10_isHurt_35 rfl 36 rfl ?_
    refine z_getF hX fX10_13 dX10_isHurt_36 zs_98 (by decide) rfl 39 rfl ?_
    refine z_bipush hX dX10_isHurt_39 qb_6 41 rfl ?_
    refine z_iald hX dX10_isHurt_41 zs_100 (zok_in (by decide)) 42 rfl ?_
    obtain ⟨v4_, M5_, hq, h6_⟩ := zcIM_of h3_
    refine z_callV hX vX10_within lX10_374 dX10_isHurt_42 zs_98 rfl (mX10_within  hq) (by decide) rfl rfl (Nat.le_of_ble_eq_true rfl) 45 rfl (Qi.to (fun v' M' hv => ?_))
    cases hv
    refine z_iload_n hX dX10_isHurt_45 rfl 46 rfl ?_
    obtain ⟨v7_, M8_, hq, h9_⟩ := zcIM_of h6_
    refine z_callV hX vX10_falls lX10_378 dX10_isHurt_46 zs_98 rfl (mX10_falls  hq) (by decide) rfl rfl (Nat.le_of_ble_eq_true rfl) 49 rfl (Qi.to (fun v' M' hv => ?_))
    cases hv
    obtain ⟨hb, h10_⟩ := zgd h9_
    exact z_zreturn hX dX10_isHurt_49 (zbit_or hb) (zend_i h10_)
  · rw [if_pos hc] at h
    refine z_iconst hX dX10_isHurt_8 qi_0 9 rfl ?_
    exact z_zreturn hX dX10_isHurt_9 (by decide) (zend_i h)
def gX10_leaves (x1 : Int32) (x2 : Int32) (x3 : Int32) (M : zM) : Option zM :=
  zg (zok ((6 * x1) + x2) 138) (zlet (zI M 125 (((6 * x1) + x2) : Int32).toNatClampNeg x3) (fun M2_ => zg (zok ((6 * x1) + x2) 138) (zlet (zI M2_ 126 (((6 * x1) + x2) : Int32).toNatClampNeg (-1)) (fun M5_ => zg (zok ((6 * x1) + x2) 138) (zlet (zI M5_ 127 (((6 * x1) + x2) : Int32).toNatClampNeg 0) (fun M8_ => some M8_))))))
set_option maxRecDepth 100000 in
set_option maxHeartbeats 2000000 in
theorem mX10_leaves {G : zG} {x1 : Int32} {x2 : Int32} {x3 : Int32} {M : zM}  {res : zM} (h : gX10_leaves x1 x2 x3 M = some res) : Ct G 1 tX10_leaves [.ref 98, .int x1, .int x2, .int x3] M (zQv res) := by
  unfold gX10_leaves at h
  refine Ct.of (y := yX10_leaves) rfl plX10 (Nat.le_of_ble_eq_true rfl) (fun X hX => ?_)
  replace hX : zC G X cX10_leaves 4 RX10 none 1 := hX
  show Z G X _ 0 [some (.ref 98), some (.int x1), some (.int x2), some (.int x3)] [] M
  refine z_aload_n hX dX10_leaves_0 rfl 1 rfl ?_
  refine z_getF hX fX10_93 dX10_leaves_1 zs_98 (by decide) rfl 4 rfl ?_
  refine z_bipush hX dX10_leaves_4 qb_6 6 rfl ?_
  refine z_iload_n hX dX10_leaves_6 rfl 7 rfl ?_
  refine z_imul hX dX10_leaves_7 8 rfl ?_
  refine z_iload_n hX dX10_leaves_8 rfl 9 rfl ?_
  refine z_iadd hX dX10_leaves_9 10 rfl ?_
  refine z_iload_n hX dX10_leaves_10 rfl 11 rfl ?_
  obtain ⟨hb, h1_⟩ := zgd h
  refine z_iast hX dX10_leaves_11 zs_125 (zok_in hb) 12 rfl ?_
  refine z_mem h1_ (fun M2_ h3_ => ?_)
  refine z_aload_n hX dX10_leaves_12 rfl 13 rfl ?_
  refine z_getF hX fX10_96 dX10_leaves_13 zs_98 (by decide) rfl 16 rfl ?_
  refine z_bipush hX dX10_leaves_16 qb_6 18 rfl ?_
  refine z_iload_n hX dX10_leaves_18 rfl 19 rfl ?_
  refine z_imul hX dX10_leaves_19 20 rfl ?_
  refine z_iload_n hX dX10_leaves_20 rfl 21 rfl ?_
  refine z_iadd hX dX10_leaves_21 22 rfl ?_
  refine z_iconst hX dX10_leaves_22 qi_m1 23 rfl ?_
  obtain ⟨hb, h4_⟩ := zgd h3_
  refine z_iast hX dX10_leaves_23 zs_126 (zok_in hb) 24 rfl ?_
  refine z_mem h4_ (fun M5_ h6_ => ?_)
  refine z_aload_n hX dX10_leaves_24 rfl 25 rfl ?_
  refine z_getF hX fX10_99 dX10_leaves_25 zs_98 (by decide) rfl 28 rfl ?_
  refine z_bipush hX dX10_leaves_28 qb_6 30 rfl ?_
  refine z_iload_n hX dX10_leaves_30 rfl 31 rfl ?_
  refine z_imul hX dX10_leaves_31 32 rfl ?_
  refine z_iload_n hX dX10_leaves_32 rfl 33 rfl ?_
  refine z_iadd hX dX10_leaves_33 34 rfl ?_
  refine z_iconst hX dX10_leaves_34 qi_0 35 rfl ?_
  obtain ⟨hb, h7_⟩ := zgd h6_
  refine z_iast hX dX10_leaves_35 zs_127 (zok_in hb) 36 rfl ?_
  refine z_mem h7_ (fun M8_ h9_ => ?_)
  exact z_return hX dX10_leaves_36 (zend_v h9_)
def gX10_goesOnInside_J109 (x1 : Int32) (x2 : Int32) (x4 : Int32) (x5 : Int32) (x6 : Int32) (M : zM) : Option zM :=
  zg (zok x4 138) (zg (zok x5 16) ((if (2 * (M.1 107 (x5 : Int32).toNatClampNeg)) ≤ (M.1 127 (x4 : Int32).toNatClampNeg) then zcV (gX10_leaves x1 x2 0 M) (fun M15_ => zg (zok x6 184) ((if (M15_.1 130 (x6 : Int32).toNatClampNeg) = 1 then zg (zok x6 184) (zlet (zI M15_ 130 (x6 : Int32).toNatClampNeg 2) (fun M19_ => zg (zok x1 23) (zg (zok x5 16) (zg (zok x1 23) (zlet (zI M19_ 121 (x1 : Int32).toNatClampNeg (if ((M19_.1 121 (x1 : Int32).toNatClampNeg) + (M19_.1 106 (x5 : Int32).toNatClampNeg)) < 9999 then ((M19_.1 121 (x1 : Int32).toNatClampNeg) + (M19_.1 106 (x5 : Int32).toNatClampNeg)) else 9999)) (fun M24_ => zcV (gX10_calls x1 x2 x5 0 M24_) (fun M26_ => zg (zok x4 138) (zcIM (gX10_within 1 (-9) 9 0 M26_) (fun v29_ M30_ => zg (zok x4 138) (zlet (zI M30_ 123 (x4 : Int32).toNatClampNeg (if 0 < (if ((M26_.1 123 (x4 : Int32).toNatClampNeg) + v29_) < 99 then ((M26_.1 123 (x4 : Int32).toNatClampNeg) + v29_) else 99) then (if ((M26_.1 123 (x4 : Int32).toNatClampNeg) + v29_) < 99 then ((M26_.1 123 (x4 : Int32).toNatClampNeg) + v29_) else 99) else 0)) (fun M33_ => some M33_)))))))))))
  else some M15_)))
  else some M)))
set_option maxRecDepth 100000 in
set_option maxHeartbeats 2000000 in
theorem aX10_goesOnInside_J109 {G : zG} {X : zX} {x1 : Int32} {x2 : Int32} {x4 : Int32} {x5 : Int32} {x6 : Int32} (hX : zC G X cX10_goesOnInside 7 RX10 none 6)   {M : zM} {res : zM}  (h : gX10_goesOnInside_J109 x1 x2 x4 x5 x6 M = some res) : Z G X (zQv res) 109 [some (.ref 98), some (.int x1), some (.int x2), none, some (.int x4), some (.int x5), some (.int x6)] [] M := by
  unfold gX10_goesOnInside_J109 at h
  refine z_aload_n hX dX10_goesOnInside_109 rfl 110 rfl ?_
  refine z_getF hX fX10_99 dX10_goesOnInside_110 zs_98 (by decide) rfl 113 rfl ?_
  refine z_iload hX dX10_goesOnInside_113 rfl 115 rfl ?_
  obtain ⟨hb, h13_⟩ := zgd h
  refine z_iald hX dX10_goesOnInside_115 zs_127 (zok_in hb) 116 rfl ?_
  refine z_iconst hX dX10_goesOnInside_116 qi_2 117 rfl ?_
  refine z_aload_n hX dX10_goesOnInside_117 rfl 118 rfl ?_
  refine z_getF hX fX10_34 dX10_goesOnInside_118 zs_98 (by decide) rfl 121 rfl ?_
  refine z_iload hX dX10_goesOnInside_121 rfl 123 rfl ?_
  obtain ⟨hb, h14_⟩ := zgd h13_
  refine z_iald hX dX10_goesOnInside_123 zs_107 (zok_in hb) 124 rfl ?_
  refine z_imul hX dX10_goesOnInside_124 125 rfl ?_
  refine z_icmp_ge hX dX10_goesOnInside_125 129 128 (by decide) rfl (fun hc => ?_) (fun hc => ?_)
  · rw [if_pos hc] at h14_
    refine z_aload_n hX dX10_goesOnInside_129 rfl 130 rfl ?_
    refine z_iload_n hX dX10_goesOnInside_130 rfl 131 rfl ?_
    refine z_iload_n hX dX10_goesOnInside_131 rfl 132 rfl ?_
    refine z_iconst hX dX10_goesOnInside_132 qi_0 133 rfl ?_
    obtain ⟨M15_, hq, h16_⟩ := zcV_of h14_
    refine z_callV hX vX10_leaves lX10_385 dX10_goesOnInside_133 zs_98 rfl (mX10_leaves  hq) (by decide) rfl rfl (Nat.le_of_ble_eq_true rfl) 136 rfl (Qv.to (fun M' hv => ?_))
    subst hv
    refine z_aload_n hX dX10_goesOnInside_136 rfl 137 rfl ?_
    refine z_getF hX fX10_108 dX10_goesOnInside_137 zs_98 (by decide) rfl 140 rfl ?_
    refine z_iload hX dX10_goesOnInside_140 rfl 142 rfl ?_
    obtain ⟨hb, h17_⟩ := zgd h16_
    refine z_iald hX dX10_goesOnInside_142 zs_130 (zok_in hb) 143 rfl ?_
    refine z_iconst hX dX10_goesOnInside_143 qi_1 144 rfl ?_
    refine z_icmp_eq hX dX10_goesOnInside_144 148 147 (by decide) rfl (fun hc => ?_) (fun hc => ?_)
    · rw [if_pos hc] at h17_
      refine z_aload_n hX dX10_goesOnInside_148 rfl 149 rfl ?_
      refine z_getF hX fX10_108 dX10_goesOnInside_149 zs_98 (by decide) rfl 152 rfl ?_
      refine z_iload hX dX10_goesOnInside_152 rfl 154 rfl ?_
      refine z_iconst hX dX10_goesOnInside_154 qi_2 155 rfl ?_
      obtain ⟨hb, h18_⟩ := zgd h17_
      refine z_iast hX dX10_goesOnInside_155 zs_130 (zok_in hb) 156 rfl ?_
      refine z_mem h18_ (fun M19_ h20_ => ?_)
      refine z_aload_n hX dX10_goesOnInside_156 rfl 157 rfl ?_
      refine z_getF hX fX10_81 dX10_goesOnInside_157 zs_98 (by decide) rfl 160 rfl ?_
      refine z_iload_n hX dX10_goesOnInside_160 rfl 161 rfl ?_
      refine z_sipush hX dX10_goesOnInside_161 qs_9999 164 rfl ?_
      refine z_aload_n hX dX10_goesOnInside_164 rfl 165 rfl ?_
      refine z_getF hX fX10_81 dX10_goesOnInside_165 zs_98 (by decide) rfl 168 rfl ?_
      refine z_iload_n hX dX10_goesOnInside_168 rfl 169 rfl ?_
      obtain ⟨hb, h21_⟩ := zgd h20_
      refine z_iald hX dX10_goesOnInside_169 zs_121 (zok_in hb) 170 rfl ?_
      refine z_aload_n hX dX10_goesOnInside_170 rfl 171 rfl ?_
      refine z_getF hX fX10_31 dX10_goesOnInside_171 zs_98 (by decide) rfl 174 rfl ?_
      refine z_iload hX dX10_goesOnInside_174 rfl 176 rfl ?_
      obtain ⟨hb, h22_⟩ := zgd h21_
      refine z_iald hX dX10_goesOnInside_176 zs_106 (zok_in hb) 177 rfl ?_
      refine z_iadd hX dX10_goesOnInside_177 178 rfl ?_
      refine z_min hX dX10_goesOnInside_178 lX10_389 (by decide) (Nat.le_of_ble_eq_true rfl) 181 rfl ?_
      obtain ⟨hb, h23_⟩ := zgd h22_
      refine z_iast hX dX10_goesOnInside_181 zs_121 (zok_in hb) 182 rfl ?_
      refine z_mem h23_ (fun M24_ h25_ => ?_)
      refine z_aload_n hX dX10_goesOnInside_182 rfl 183 rfl ?_
      refine z_iload_n hX dX10_goesOnInside_183 rfl 184 rfl ?_
      refine z_iload_n hX dX10_goesOnInside_184 rfl 185 rfl ?_
      refine z_iload hX dX10_goesOnInside_185 rfl 187 rfl ?_
      refine z_iconst hX dX10_goesOnInside_187 qi_0 188 rfl ?_
      obtain ⟨M26_, hq, h27_⟩ := zcV_of h25_
      refine z_callV hX vX10_calls lX10_340 dX10_goesOnInside_188 zs_98 rfl (mX10_calls  hq) (by decide) rfl rfl (Nat.le_of_ble_eq_true rfl) 191 rfl (Qv.to (fun M' hv => ?_))
      subst hv
      refine z_aload_n hX dX10_goesOnInside_191 rfl 192 rfl ?_
      refine z_getF hX fX10_87 dX10_goesOnInside_192 zs_98 (by decide) rfl 195 rfl ?_
      refine z_iload hX dX10_goesOnInside_195 rfl 197 rfl ?_
      refine z_iconst hX dX10_goesOnInside_197 qi_0 198 rfl ?_
      refine z_bipush hX dX10_goesOnInside_198 qb_99 200 rfl ?_
      refine z_aload_n hX dX10_goesOnInside_200 rfl 201 rfl ?_
      refine z_getF hX fX10_87 dX10_goesOnInside_201 zs_98 (by decide) rfl 204 rfl ?_
      refine z_iload hX dX10_goesOnInside_204 rfl 206 rfl ?_
      obtain ⟨hb, h28_⟩ := zgd h27_
      refine z_iald hX dX10_goesOnInside_206 zs_123 (zok_in hb) 207 rfl ?_
      refine z_aload_n hX dX10_goesOnInside_207 rfl 208 rfl ?_
      refine z_iconst hX dX10_goesOnInside_208 qi_1 209 rfl ?_
      refine z_bipush hX dX10_goesOnInside_209 qb_m9 211 rfl ?_
      refine z_bipush hX dX10_goesOnInside_211 qb_9 213 rfl ?_
      refine z_iconst hX dX10_goesOnInside_213 qi_0 214 rfl ?_
      obtain ⟨v29_, M30_, hq, h31_⟩ := zcIM_of h28_
      refine z_callV hX vX10_within lX10_374 dX10_goesOnInside_214 zs_98 rfl (mX10_within  hq) (by decide) rfl rfl (Nat.le_of_ble_eq_true rfl) 217 rfl (Qi.to (fun v' M' hv => ?_))
      cases hv
      refine z_iadd hX dX10_goesOnInside_217 218 rfl ?_
      refine z_min hX dX10_goesOnInside_218 lX10_389 (by decide) (Nat.le_of_ble_eq_true rfl) 221 rfl ?_
      refine z_max hX dX10_goesOnInside_221 lX10_391 (by decide) (Nat.le_of_ble_eq_true rfl) 224 rfl ?_
      obtain ⟨hb, h32_⟩ := zgd h31_
      refine z_iast hX dX10_goesOnInside_224 zs_123 (zok_in hb) 225 rfl ?_
      refine z_mem h32_ (fun M33_ h34_ => ?_)
      exact z_return hX dX10_goesOnInside_225 (zend_v h34_)
    · rw [if_neg hc] at h17_
      exact z_return hX dX10_goesOnInside_147 (zend_v h17_)
  · rw [if_neg hc] at h14_
    exact z_return hX dX10_goesOnInside_128 (zend_v h14_)
def gX10_goesOnInside_J66 (x1 : Int32) (x2 : Int32) (M : zM) : Option zM :=
  zcV (gX10_leaves x1 x2 2 M) (fun M40_ => some M40_)
set_option maxRecDepth 100000 in
set_option maxHeartbeats 2000000 in
theorem aX10_goesOnInside_J66 {G : zG} {X : zX} {x1 : Int32} {x2 : Int32} (hX : zC G X cX10_goesOnInside 7 RX10 none 6)   {M : zM} {res : zM}  (h : gX10_goesOnInside_J66 x1 x2 M = some res) : Z G X (zQv res) 66 [some (.ref 98), some (.int x1), some (.int x2), none, none, none, none] [] M := by
  unfold gX10_goesOnInside_J66 at h
  refine z_aload_n hX dX10_goesOnInside_66 rfl 67 rfl ?_
  refine z_iload_n hX dX10_goesOnInside_67 rfl 68 rfl ?_
  refine z_iload_n hX dX10_goesOnInside_68 rfl 69 rfl ?_
  refine z_iconst hX dX10_goesOnInside_69 qi_2 70 rfl ?_
  obtain ⟨M40_, hq, h41_⟩ := zcV_of h
  refine z_callV hX vX10_leaves lX10_385 dX10_goesOnInside_70 zs_98 rfl (mX10_leaves  hq) (by decide) rfl rfl (Nat.le_of_ble_eq_true rfl) 73 rfl (Qv.to (fun M' hv => ?_))
  subst hv
  exact z_return hX dX10_goesOnInside_73 (zend_v h41_)
def gX10_goesOnInside (x1 : Int32) (x2 : Int32) (x3 : Int32) (M : zM) : Option zM :=
  zg (zok ((6 * x1) + x2) 138) (zlet ((M.1 126 (((6 * x1) + x2) : Int32).toNatClampNeg)) (fun x2_ => zg (zok ((6 * x1) + x2) 138) (zg (zok ((6 * x1) + x2) 138) (zlet (zI M 127 (((6 * x1) + x2) : Int32).toNatClampNeg ((M.1 127 (((6 * x1) + x2) : Int32).toNatClampNeg) + 1)) (fun M6_ => zcIM (gX10_isHurt x1 x2 x3 M6_) (fun v8_ M9_ => (if v8_ = 0 then zg (zok ((6 * x1) + x2) 138) (zg (zok x2_ 16) ((if (M9_.1 127 (((6 * x1) + x2) : Int32).toNatClampNeg) = (M9_.1 107 (x2_ : Int32).toNatClampNeg) then zg (zok ((8 * x1) + x2_) 184) ((if (M9_.1 130 (((8 * x1) + x2_) : Int32).toNatClampNeg) = 0 then zg (zok ((8 * x1) + x2_) 184) (zlet (zI M9_ 130 (((8 * x1) + x2_) : Int32).toNatClampNeg 1) (fun M37_ => gX10_goesOnInside_J109 x1 x2 ((6 * x1) + x2) x2_ ((8 * x1) + x2_) M37_))
  else gX10_goesOnInside_J109 x1 x2 ((6 * x1) + x2) x2_ ((8 * x1) + x2_) M9_))
  else gX10_goesOnInside_J109 x1 x2 ((6 * x1) + x2) x2_ ((8 * x1) + x2_) M9_)))
  else zg (zok ((8 * x1) + x2_) 184) ((if (M9_.1 130 (((8 * x1) + x2_) : Int32).toNatClampNeg) = 1 then zg (zok ((8 * x1) + x2_) 184) (zlet (zI M9_ 130 (((8 * x1) + x2_) : Int32).toNatClampNeg 3) (fun M43_ => gX10_goesOnInside_J66 x1 x2 M43_))
  else gX10_goesOnInside_J66 x1 x2 M9_)))))))))
set_option maxRecDepth 100000 in
set_option maxHeartbeats 2000000 in
theorem mX10_goesOnInside {G : zG} {x1 : Int32} {x2 : Int32} {x3 : Int32} {M : zM}  {res : zM} (h : gX10_goesOnInside x1 x2 x3 M = some res) : Ct G 6 tX10_goesOnInside [.ref 98, .int x1, .int x2, .int x3] M (zQv res) := by
  unfold gX10_goesOnInside at h
  refine Ct.of (y := yX10_goesOnInside) rfl plX10 (Nat.le_of_ble_eq_true rfl) (fun X hX => ?_)
  replace hX : zC G X cX10_goesOnInside 7 RX10 none 6 := hX
  show Z G X _ 0 [some (.ref 98), some (.int x1), some (.int x2), some (.int x3), none, none, none] [] M
  refine z_bipush hX dX10_goesOnInside_0 qb_6 2 rfl ?_
  refine z_iload_n hX dX10_goesOnInside_2 rfl 3 rfl ?_
  refine z_imul hX dX10_goesOnInside_3 4 rfl ?_
  refine z_iload_n hX dX10_goesOnInside_4 rfl 5 rfl ?_
  refine z_iadd hX dX10_goesOnInside_5 6 rfl ?_
  refine z_istore hX dX10_goesOnInside_6 (by decide) 8 rfl ?_
  refine z_aload_n hX dX10_goesOnInside_8 rfl 9 rfl ?_
  refine z_getF hX fX10_96 dX10_goesOnInside_9 zs_98 (by decide) rfl 12 rfl ?_
  refine z_iload hX dX10_goesOnInside_12 rfl 14 rfl ?_
  obtain ⟨hb, h1_⟩ := zgd h
  refine z_iald hX dX10_goesOnInside_14 zs_126 (zok_in hb) 15 rfl ?_
  refine z_topi h1_ (fun x2_ h3_ => ?_)
  refine z_istore hX dX10_goesOnInside_15 (by decide) 17 rfl ?_
  refine z_bipush hX dX10_goesOnInside_17 qb_8 19 rfl ?_
  refine z_iload_n hX dX10_goesOnInside_19 rfl 20 rfl ?_
  refine z_imul hX dX10_goesOnInside_20 21 rfl ?_
  refine z_iload hX dX10_goesOnInside_21 rfl 23 rfl ?_
  refine z_iadd hX dX10_goesOnInside_23 24 rfl ?_
  refine z_istore hX dX10_goesOnInside_24 (by decide) 26 rfl ?_
  refine z_aload_n hX dX10_goesOnInside_26 rfl 27 rfl ?_
  refine z_getF hX fX10_99 dX10_goesOnInside_27 zs_98 (by decide) rfl 30 rfl ?_
  refine z_iload hX dX10_goesOnInside_30 rfl 32 rfl ?_
  refine z_dup2 hX dX10_goesOnInside_32 rfl rfl 33 rfl ?_
  obtain ⟨hb, h4_⟩ := zgd h3_
  refine z_iald hX dX10_goesOnInside_33 zs_127 (zok_in hb) 34 rfl ?_
  refine z_iconst hX dX10_goesOnInside_34 qi_1 35 rfl ?_
  refine z_iadd hX dX10_goesOnInside_35 36 rfl ?_
  obtain ⟨hb, h5_⟩ := zgd h4_
  refine z_iast hX dX10_goesOnInside_36 zs_127 (zok_in hb) 37 rfl ?_
  refine z_mem h5_ (fun M6_ h7_ => ?_)
  refine z_aload_n hX dX10_goesOnInside_37 rfl 38 rfl ?_
  refine z_iload_n hX dX10_goesOnInside_38 rfl 39 rfl ?_
  refine z_iload_n hX dX10_goesOnInside_39 rfl 40 rfl ?_
  refine z_iload_n hX dX10_goesOnInside_40 rfl 41 rfl ?_
  obtain ⟨v8_, M9_, hq, h10_⟩ := zcIM_of h7_
  refine z_callV hX vX10_isHurt lX10_382 dX10_goesOnInside_41 zs_98 rfl (mX10_isHurt  hq) (by decide) rfl rfl (Nat.le_of_ble_eq_true rfl) 44 rfl (Qi.to (fun v' M' hv => ?_))
  cases hv
  refine z_if_eq hX dX10_goesOnInside_44 74 47 (by decide) rfl (fun hc => ?_) (fun hc => ?_)
  · rw [if_pos hc] at h10_
    refine z_aload_n hX dX10_goesOnInside_74 rfl 75 rfl ?_
    refine z_getF hX fX10_99 dX10_goesOnInside_75 zs_98 (by decide) rfl 78 rfl ?_
    refine z_iload hX dX10_goesOnInside_78 rfl 80 rfl ?_
    obtain ⟨hb, h11_⟩ := zgd h10_
    refine z_iald hX dX10_goesOnInside_80 zs_127 (zok_in hb) 81 rfl ?_
    refine z_aload_n hX dX10_goesOnInside_81 rfl 82 rfl ?_
    refine z_getF hX fX10_34 dX10_goesOnInside_82 zs_98 (by decide) rfl 85 rfl ?_
    refine z_iload hX dX10_goesOnInside_85 rfl 87 rfl ?_
    obtain ⟨hb, h12_⟩ := zgd h11_
    refine z_iald hX dX10_goesOnInside_87 zs_107 (zok_in hb) 88 rfl ?_
    refine z_icmp_ne hX dX10_goesOnInside_88 109 91 (by decide) rfl (fun hc => ?_) (fun hc => ?_)
    · rw [if_neg hc] at h12_
      refine z_mask [true, true, true, false, true, true, true] ?_
      have hz := aX10_goesOnInside_J109 hX h12_
      exact hz
    · rw [if_pos hc] at h12_
      refine z_aload_n hX dX10_goesOnInside_91 rfl 92 rfl ?_
      refine z_getF hX fX10_108 dX10_goesOnInside_92 zs_98 (by decide) rfl 95 rfl ?_
      refine z_iload hX dX10_goesOnInside_95 rfl 97 rfl ?_
      obtain ⟨hb, h35_⟩ := zgd h12_
      refine z_iald hX dX10_goesOnInside_97 zs_130 (zok_in hb) 98 rfl ?_
      refine z_if_ne hX dX10_goesOnInside_98 109 101 (by decide) rfl (fun hc => ?_) (fun hc => ?_)
      · rw [if_neg hc] at h35_
        refine z_mask [true, true, true, false, true, true, true] ?_
        have hz := aX10_goesOnInside_J109 hX h35_
        exact hz
      · rw [if_pos hc] at h35_
        refine z_aload_n hX dX10_goesOnInside_101 rfl 102 rfl ?_
        refine z_getF hX fX10_108 dX10_goesOnInside_102 zs_98 (by decide) rfl 105 rfl ?_
        refine z_iload hX dX10_goesOnInside_105 rfl 107 rfl ?_
        refine z_iconst hX dX10_goesOnInside_107 qi_1 108 rfl ?_
        obtain ⟨hb, h36_⟩ := zgd h35_
        refine z_iast hX dX10_goesOnInside_108 zs_130 (zok_in hb) 109 rfl ?_
        refine z_mem h36_ (fun M37_ h38_ => ?_)
        refine z_mask [true, true, true, false, true, true, true] ?_
        have hz := aX10_goesOnInside_J109 hX h38_
        exact hz
  · rw [if_neg hc] at h10_
    refine z_aload_n hX dX10_goesOnInside_47 rfl 48 rfl ?_
    refine z_getF hX fX10_108 dX10_goesOnInside_48 zs_98 (by decide) rfl 51 rfl ?_
    refine z_iload hX dX10_goesOnInside_51 rfl 53 rfl ?_
    obtain ⟨hb, h39_⟩ := zgd h10_
    refine z_iald hX dX10_goesOnInside_53 zs_130 (zok_in hb) 54 rfl ?_
    refine z_iconst hX dX10_goesOnInside_54 qi_1 55 rfl ?_
    refine z_icmp_ne hX dX10_goesOnInside_55 66 58 (by decide) rfl (fun hc => ?_) (fun hc => ?_)
    · rw [if_neg hc] at h39_
      refine z_mask [true, true, true, false, false, false, false] ?_
      have hz := aX10_goesOnInside_J66 hX h39_
      exact hz
    · rw [if_pos hc] at h39_
      refine z_aload_n hX dX10_goesOnInside_58 rfl 59 rfl ?_
      refine z_getF hX fX10_108 dX10_goesOnInside_59 zs_98 (by decide) rfl 62 rfl ?_
      refine z_iload hX dX10_goesOnInside_62 rfl 64 rfl ?_
      refine z_iconst hX dX10_goesOnInside_64 qi_3 65 rfl ?_
      obtain ⟨hb, h42_⟩ := zgd h39_
      refine z_iast hX dX10_goesOnInside_65 zs_130 (zok_in hb) 66 rfl ?_
      refine z_mem h42_ (fun M43_ h44_ => ?_)
      refine z_mask [true, true, true, false, false, false, false] ?_
      have hz := aX10_goesOnInside_J66 hX h44_
      exact hz
