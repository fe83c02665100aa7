def gX1_work_J202 (p : Nat) (x2 : Int32) (M : zM) : Option (Int64 × zM) :=
  (if x2 = 1 then some ((M.2.1 (p + 20) (0 : Int32).toNatClampNeg), M)
  else some ((-9223372036854775808), M))
set_option maxRecDepth 100000 in
set_option maxHeartbeats 2000000 in
theorem aX1_work_J202 {G : zG} {X : zX} {p : Nat} {x2 : Int32} (hX : zC G X cX1_work 5 RX1 (some .long) 2) (hp : isPl p)  {M : zM} {res : (Int64 × zM)}  (h : gX1_work_J202 p x2 M = some res) : Z G X (zQl res) 202 [some (.ref (p + 14)), none, some (.int x2), none, none] [] M := by
  unfold gX1_work_J202 at h
  refine z_iload_n hX dX1_work_202 rfl 203 rfl ?_
  refine z_iconst hX dX1_work_203 qi_1 204 rfl ?_
  refine z_icmp_ne hX dX1_work_204 216 207 (by decide) rfl (fun hc => ?_) (fun hc => ?_)
  · rw [if_neg hc] at h
    refine z_ldc2 hX dX1_work_216 kX1_40 219 rfl ?_
    exact z_lreturn hX dX1_work_219 (zend_l h)
  · rw [if_pos hc] at h
    refine z_aload_n hX dX1_work_207 rfl 208 rfl ?_
    refine z_getF hX fX1_30 dX1_work_208 (zsP14 hp) (by decide) rfl 211 rfl ?_
    refine z_iconst hX dX1_work_211 qi_0 212 rfl ?_
    refine z_lald hX dX1_work_212 (zsP20 hp) (zok_in (by decide)) 213 rfl ?_
    refine z_goto hX dX1_work_213 219 (by decide) ?_
    exact z_lreturn hX dX1_work_219 (zend_l h)
def gX1_work_L31 (p : Nat) (x1 : Int32) (rc31 : (Int32 × Int32 × zM) → Option (Int64 × zM)) (s : (Int32 × Int32 × zM)) : Option (Int64 × zM) :=
  zg (zok x1 3) ((if (s.2.2.1 (p + 16) (x1 : Int32).toNatClampNeg) ≤ s.2.1 then gX1_work_J202 p s.1 s.2.2
  else (if 64 ≤ s.2.1 then gX1_work_J202 p s.1 s.2.2
  else zg (zok s.2.1 64) (zlet ((s.2.2.1 (p + 17) (s.2.1 : Int32).toNatClampNeg)) (fun x7_ => (if x7_ = 28 then (if 1 ≤ s.1 then zg (zok (s.1 - 1) 64) ((if (lg_cmp (s.2.2.2.1 (p + 20) ((s.1 - 1) : Int32).toNatClampNeg) 0) = 0 then zg (zok (s.1 - 1) 64) (zlet (zJ s.2.2 (p + 20) ((s.1 - 1) : Int32).toNatClampNeg 1) (fun M28_ => rc31 (s.1, (s.2.1 + 1), M28_)))
  else zg (zok (s.1 - 1) 64) (zlet (zJ s.2.2 (p + 20) ((s.1 - 1) : Int32).toNatClampNeg 0) (fun M25_ => rc31 (s.1, (s.2.1 + 1), M25_)))))
  else some ((-9223372036854775808), s.2.2))
  else (if x7_ < 26 then (if s.1 < 64 then zg (zok s.2.1 64) (zcL (gX1_valueOf p x7_ (s.2.2.1 (p + 18) (s.2.1 : Int32).toNatClampNeg) s.2.2) (fun v10_ => zg (zok s.1 64) (zlet (zJ s.2.2 (p + 20) (s.1 : Int32).toNatClampNeg v10_) (fun M13_ => rc31 ((s.1 + 1), (s.2.1 + 1), M13_)))))
  else some ((-9223372036854775808), s.2.2))
  else (if 2 ≤ s.1 then zg (zok ((s.1 + (-1)) - 1) 64) (zg (zok (s.1 + (-1)) 64) (zcL (gX1_combine x7_ (s.2.2.2.1 (p + 20) (((s.1 + (-1)) - 1) : Int32).toNatClampNeg) (s.2.2.2.1 (p + 20) ((s.1 + (-1)) : Int32).toNatClampNeg) s.2.2) (fun v17_ => zg (zok ((s.1 + (-1)) - 1) 64) (zlet (zJ s.2.2 (p + 20) (((s.1 + (-1)) - 1) : Int32).toNatClampNeg v17_) (fun M20_ => zg (zok ((s.1 + (-1)) - 1) 64) ((if (lg_cmp (M20_.2.1 (p + 20) (((s.1 + (-1)) - 1) : Int32).toNatClampNeg) (-9223372036854775808)) = 0 then some ((-9223372036854775808), M20_)
  else rc31 ((s.1 + (-1)), (s.2.1 + 1), M20_))))))))
  else some ((-9223372036854775808), s.2.2)))))))))
set_option maxRecDepth 100000 in
set_option maxHeartbeats 2000000 in
theorem aX1_work_L31 {G : zG} {X : zX} {p : Nat} {x1 : Int32} (hX : zC G X cX1_work 5 RX1 (some .long) 2) (hp : isPl p)   {res : (Int64 × zM)}  : ∀ (N : Nat) (s : (Int32 × Int32 × zM)), zfix N (gX1_work_L31 p x1) s = some res → Z G X (zQl res) 31 [some (.ref (p + 14)), some (.int x1), some (.int s.1), some (.int s.2.1), none] [] s.2.2 := by
  intro N
  induction N with
  | zero => intro s h; cases h
  | succ N hrc31 =>
    intro s h
    replace h : gX1_work_L31 p x1 (zfix N (gX1_work_L31 p x1)) s = some res := h
    unfold gX1_work_L31 at h
    refine z_iload_n hX dX1_work_31 rfl 32 rfl ?_
    refine z_aload_n hX dX1_work_32 rfl 33 rfl ?_
    refine z_getF hX fX1_15 dX1_work_33 (zsP14 hp) (by decide) rfl 36 rfl ?_
    refine z_iload_n hX dX1_work_36 rfl 37 rfl ?_
    obtain ⟨hb, h5_⟩ := zgd h
    refine z_iald hX dX1_work_37 (zsP16 hp) (zok_in hb) 38 rfl ?_
    refine z_icmp_ge hX dX1_work_38 202 41 (by decide) rfl (fun hc => ?_) (fun hc => ?_)
    · rw [if_pos hc] at h5_
      refine z_mask [true, false, true, false, false] ?_
      have hz := aX1_work_J202 hX hp h5_
      exact hz
    · rw [if_neg hc] at h5_
      refine z_iload_n hX dX1_work_41 rfl 42 rfl ?_
      refine z_bipush hX dX1_work_42 qb_64 44 rfl ?_
      refine z_icmp_ge hX dX1_work_44 202 47 (by decide) rfl (fun hc => ?_) (fun hc => ?_)
      · rw [if_pos hc] at h5_
        refine z_mask [true, false, true, false, false] ?_
        have hz := aX1_work_J202 hX hp h5_
        exact hz
      · rw [if_neg hc] at h5_
        refine z_aload_n hX dX1_work_47 rfl 48 rfl ?_
        refine z_getF hX fX1_18 dX1_work_48 (zsP14 hp) (by decide) rfl 51 rfl ?_
        refine z_iload_n hX dX1_work_51 rfl 52 rfl ?_
        obtain ⟨hb, h6_⟩ := zgd h5_
        refine z_iald hX dX1_work_52 (zsP17 hp) (zok_in hb) 53 rfl ?_
        refine z_topi h6_ (fun x7_ h8_ => ?_)
        refine z_istore hX dX1_work_53 (by decide) 55 rfl ?_
        refine z_iload hX dX1_work_55 rfl 57 rfl ?_
        refine z_bipush hX dX1_work_57 qb_28 59 rfl ?_
        refine z_icmp_ne hX dX1_work_59 100 62 (by decide) rfl (fun hc => ?_) (fun hc => ?_)
        · rw [if_neg hc] at h8_
          refine z_iload hX dX1_work_100 rfl 102 rfl ?_
          refine z_bipush hX dX1_work_102 qb_26 104 rfl ?_
          refine z_icmp_lt hX dX1_work_104 165 107 (by decide) rfl (fun hc => ?_) (fun hc => ?_)
          · rw [if_pos hc] at h8_
            refine z_iload_n hX dX1_work_165 rfl 166 rfl ?_
            refine z_bipush hX dX1_work_166 qb_64 168 rfl ?_
            refine z_icmp_lt hX dX1_work_168 175 171 (by decide) rfl (fun hc => ?_) (fun hc => ?_)
            · rw [if_pos hc] at h8_
              refine z_aload_n hX dX1_work_175 rfl 176 rfl ?_
              refine z_getF hX fX1_30 dX1_work_176 (zsP14 hp) (by decide) rfl 179 rfl ?_
              refine z_iload_n hX dX1_work_179 rfl 180 rfl ?_
              refine z_aload_n hX dX1_work_180 rfl 181 rfl ?_
              refine z_iload hX dX1_work_181 rfl 183 rfl ?_
              refine z_aload_n hX dX1_work_183 rfl 184 rfl ?_
              refine z_getF hX fX1_21 dX1_work_184 (zsP14 hp) (by decide) rfl 187 rfl ?_
              refine z_iload_n hX dX1_work_187 rfl 188 rfl ?_
              obtain ⟨hb, h9_⟩ := zgd h8_
              refine z_iald hX dX1_work_188 (zsP18 hp) (zok_in hb) 189 rfl ?_
              obtain ⟨v10_, hq, h11_⟩ := zcL_of h9_
              refine z_callV hX vX1_valueOf lX1_46 dX1_work_189 (zsP14 hp) rfl (mX1_valueOf hp hq) (by decide) rfl rfl (Nat.le_of_ble_eq_true rfl) 192 rfl (Ql.to (fun v' M' hv => ?_))
              obtain ⟨rfl, rfl⟩ := hv
              obtain ⟨hb, h12_⟩ := zgd h11_
              refine z_last hX dX1_work_192 (zsP20 hp) (zok_in hb) 193 rfl ?_
              refine z_mem h12_ (fun M13_ h14_ => ?_)
              refine z_iinc (v := (s.1 + 1)) hX dX1_work_193 rfl (by rfl) (by decide) 196 rfl ?_
              refine z_iinc (v := (s.2.1 + 1)) hX dX1_work_196 rfl (by rfl) (by decide) 199 rfl ?_
              refine z_goto hX dX1_work_199 31 (by decide) ?_
              refine z_mask [true, true, true, true, false] ?_
              have hz := hrc31 _ h14_
              exact hz
            · rw [if_neg hc] at h8_
              refine z_ldc2 hX dX1_work_171 kX1_40 174 rfl ?_
              exact z_lreturn hX dX1_work_174 (zend_l h8_)
          · rw [if_neg hc] at h8_
            refine z_iload_n hX dX1_work_107 rfl 108 rfl ?_
            refine z_iconst hX dX1_work_108 qi_2 109 rfl ?_
            refine z_icmp_ge hX dX1_work_109 116 112 (by decide) rfl (fun hc => ?_) (fun hc => ?_)
            · rw [if_pos hc] at h8_
              refine z_iinc (v := (s.1 + (-1))) hX dX1_work_116 rfl (by rfl) (by decide) 119 rfl ?_
              refine z_aload_n hX dX1_work_119 rfl 120 rfl ?_
              refine z_getF hX fX1_30 dX1_work_120 (zsP14 hp) (by decide) rfl 123 rfl ?_
              refine z_iload_n hX dX1_work_123 rfl 124 rfl ?_
              refine z_iconst hX dX1_work_124 qi_1 125 rfl ?_
              refine z_isub hX dX1_work_125 126 rfl ?_
              refine z_iload hX dX1_work_126 rfl 128 rfl ?_
              refine z_aload_n hX dX1_work_128 rfl 129 rfl ?_
              refine z_getF hX fX1_30 dX1_work_129 (zsP14 hp) (by decide) rfl 132 rfl ?_
              refine z_iload_n hX dX1_work_132 rfl 133 rfl ?_
              refine z_iconst hX dX1_work_133 qi_1 134 rfl ?_
              refine z_isub hX dX1_work_134 135 rfl ?_
              obtain ⟨hb, h15_⟩ := zgd h8_
              refine z_lald hX dX1_work_135 (zsP20 hp) (zok_in hb) 136 rfl ?_
              refine z_aload_n hX dX1_work_136 rfl 137 rfl ?_
              refine z_getF hX fX1_30 dX1_work_137 (zsP14 hp) (by decide) rfl 140 rfl ?_
              refine z_iload_n hX dX1_work_140 rfl 141 rfl ?_
              obtain ⟨hb, h16_⟩ := zgd h15_
              refine z_lald hX dX1_work_141 (zsP20 hp) (zok_in hb) 142 rfl ?_
              obtain ⟨v17_, hq, h18_⟩ := zcL_of h16_
              refine z_callS hX vX1_combine rfl lX1_42 dX1_work_142 (mX1_combine  hq) (by decide) rfl rfl (Nat.le_of_ble_eq_true rfl) 145 rfl (Ql.to (fun v' M' hv => ?_))
              obtain ⟨rfl, rfl⟩ := hv
              obtain ⟨hb, h19_⟩ := zgd h18_
              refine z_last hX dX1_work_145 (zsP20 hp) (zok_in hb) 146 rfl ?_
              refine z_mem h19_ (fun M20_ h21_ => ?_)
              refine z_aload_n hX dX1_work_146 rfl 147 rfl ?_
              refine z_getF hX fX1_30 dX1_work_147 (zsP14 hp) (by decide) rfl 150 rfl ?_
              refine z_iload_n hX dX1_work_150 rfl 151 rfl ?_
              refine z_iconst hX dX1_work_151 qi_1 152 rfl ?_
              refine z_isub hX dX1_work_152 153 rfl ?_
              obtain ⟨hb, h22_⟩ := zgd h21_
              refine z_lald hX dX1_work_153 (zsP20 hp) (zok_in hb) 154 rfl ?_
              refine z_ldc2 hX dX1_work_154 kX1_40 157 rfl ?_
              refine z_lcmp hX dX1_work_157 158 rfl ?_
              refine z_if_ne hX dX1_work_158 196 161 (by decide) rfl (fun hc => ?_) (fun hc => ?_)
              · rw [if_neg hc] at h22_
                refine z_iinc (v := (s.2.1 + 1)) hX dX1_work_196 rfl (by rfl) (by decide) 199 rfl ?_
                refine z_goto hX dX1_work_199 31 (by decide) ?_
                refine z_mask [true, true, true, true, false] ?_
                have hz := hrc31 _ h22_
                exact hz
              · rw [if_pos hc] at h22_
                refine z_ldc2 hX dX1_work_161 kX1_40 164 rfl ?_
                exact z_lreturn hX dX1_work_164 (zend_l h22_)
            · rw [if_neg hc] at h8_
              refine z_ldc2 hX dX1_work_112 kX1_40 115 rfl ?_
              exact z_lreturn hX dX1_work_115 (zend_l h8_)
        · rw [if_pos hc] at h8_
          refine z_iload_n hX dX1_work_62 rfl 63 rfl ?_
          refine z_iconst hX dX1_work_63 qi_1 64 rfl ?_
          refine z_icmp_ge hX dX1_work_64 71 67 (by decide) rfl (fun hc => ?_) (fun hc => ?_)
          · rw [if_pos hc] at h8_
            refine z_aload_n hX dX1_work_71 rfl 72 rfl ?_
            refine z_getF hX fX1_30 dX1_work_72 (zsP14 hp) (by decide) rfl 75 rfl ?_
            refine z_iload_n hX dX1_work_75 rfl 76 rfl ?_
            refine z_iconst hX dX1_work_76 qi_1 77 rfl ?_
            refine z_isub hX dX1_work_77 78 rfl ?_
            refine z_aload_n hX dX1_work_78 rfl 79 rfl ?_
            refine z_getF hX fX1_30 dX1_work_79 (zsP14 hp) (by decide) rfl 82 rfl ?_
            refine z_iload_n hX dX1_work_82 rfl 83 rfl ?_
            refine z_iconst hX dX1_work_83 qi_1 84 rfl ?_
            refine z_isub hX dX1_work_84 85 rfl ?_
            obtain ⟨hb, h23_⟩ := zgd h8_
            refine z_lald hX dX1_work_85 (zsP20 hp) (zok_in hb) 86 rfl ?_
            refine z_lconst hX dX1_work_86 ql_0 87 rfl ?_
            refine z_lcmp hX dX1_work_87 88 rfl ?_
            refine z_if_ne hX dX1_work_88 95 91 (by decide) rfl (fun hc => ?_) (fun hc => ?_)
            · rw [if_neg hc] at h23_
              refine z_lconst hX dX1_work_95 ql_0 96 rfl ?_
              obtain ⟨hb, h24_⟩ := zgd h23_
              refine z_last hX dX1_work_96 (zsP20 hp) (zok_in hb) 97 rfl ?_
              refine z_mem h24_ (fun M25_ h26_ => ?_)
              refine z_goto hX dX1_work_97 196 (by decide) ?_
              refine z_iinc (v := (s.2.1 + 1)) hX dX1_work_196 rfl (by rfl) (by decide) 199 rfl ?_
              refine z_goto hX dX1_work_199 31 (by decide) ?_
              refine z_mask [true, true, true, true, false] ?_
              have hz := hrc31 _ h26_
              exact hz
            · rw [if_pos hc] at h23_
              refine z_lconst hX dX1_work_91 ql_1 92 rfl ?_
              refine z_goto hX dX1_work_92 96 (by decide) ?_
              obtain ⟨hb, h27_⟩ := zgd h23_
              refine z_last hX dX1_work_96 (zsP20 hp) (zok_in hb) 97 rfl ?_
              refine z_mem h27_ (fun M28_ h29_ => ?_)
              refine z_goto hX dX1_work_97 196 (by decide) ?_
              refine z_iinc (v := (s.2.1 + 1)) hX dX1_work_196 rfl (by rfl) (by decide) 199 rfl ?_
              refine z_goto hX dX1_work_199 31 (by decide) ?_
              refine z_mask [true, true, true, true, false] ?_
              have hz := hrc31 _ h29_
              exact hz
          · rw [if_neg hc] at h8_
            refine z_ldc2 hX dX1_work_67 kX1_40 70 rfl ?_
            exact z_lreturn hX dX1_work_70 (zend_l h8_)
def gX1_work (p : Nat) (x1 : Int32) (M : zM) : Option (Int64 × zM) :=
  (if x1 < 0 then some ((-9223372036854775808), M)
  else (if 3 ≤ x1 then some ((-9223372036854775808), M)
  else zg (zok x1 3) ((if 0 ≤ (M.1 (p + 15) (x1 : Int32).toNatClampNeg) then zg (zok x1 3) (zlet ((M.1 (p + 15) (x1 : Int32).toNatClampNeg)) (fun x3_ => zfix zFu (gX1_work_L31 p x1) (0, x3_, M)))
  else some ((-9223372036854775808), M)))))
set_option maxRecDepth 100000 in
set_option maxHeartbeats 2000000 in
theorem mX1_work {G : zG} {p : Nat} {x1 : Int32} {M : zM} (hp : isPl p) {res : (Int64 × zM)} (h : gX1_work p x1 M = some res) : Ct G 2 tX1_work [.ref (p + 14), .int x1] M (zQl res) := by
  unfold gX1_work at h
  refine Ct.of (y := yX1_work) rfl plX1 (Nat.le_of_ble_eq_true rfl) (fun X hX => ?_)
  replace hX : zC G X cX1_work 5 RX1 (some .long) 2 := hX
  show Z G X _ 0 [some (.ref (p + 14)), some (.int x1), none, none, none] [] M
  refine z_iload_n hX dX1_work_0 rfl 1 rfl ?_
  refine z_if_lt hX dX1_work_1 18 4 (by decide) rfl (fun hc => ?_) (fun hc => ?_)
  · rw [if_pos hc] at h
    refine z_ldc2 hX dX1_work_18 kX1_40 21 rfl ?_
    exact z_lreturn hX dX1_work_21 (zend_l h)
  · rw [if_neg hc] at h
    refine z_iload_n hX dX1_work_4 rfl 5 rfl ?_
    refine z_iconst hX dX1_work_5 qi_3 6 rfl ?_
    refine z_icmp_ge hX dX1_work_6 18 9 (by decide) rfl (fun hc => ?_) (fun hc => ?_)
    · rw [if_pos hc] at h
      refine z_ldc2 hX dX1_work_18 kX1_40 21 rfl ?_
      exact z_lreturn hX dX1_work_21 (zend_l h)
    · rw [if_neg hc] at h
      refine z_aload_n hX dX1_work_9 rfl 10 rfl ?_
      refine z_getF hX fX1_9 dX1_work_10 (zsP14 hp) (by decide) rfl 13 rfl ?_
      refine z_iload_n hX dX1_work_13 rfl 14 rfl ?_
      obtain ⟨hb, h1_⟩ := zgd h
      refine z_iald hX dX1_work_14 (zsP15 hp) (zok_in hb) 15 rfl ?_
      refine z_if_ge hX dX1_work_15 22 18 (by decide) rfl (fun hc => ?_) (fun hc => ?_)
      · rw [if_pos hc] at h1_
        refine z_iconst hX dX1_work_22 qi_0 23 rfl ?_
        refine z_istore_n hX dX1_work_23 (by decide) 24 rfl ?_
        refine z_aload_n hX dX1_work_24 rfl 25 rfl ?_
        refine z_getF hX fX1_9 dX1_work_25 (zsP14 hp) (by decide) rfl 28 rfl ?_
        refine z_iload_n hX dX1_work_28 rfl 29 rfl ?_
        obtain ⟨hb, h2_⟩ := zgd h1_
        refine z_iald hX dX1_work_29 (zsP15 hp) (zok_in hb) 30 rfl ?_
        refine z_topi h2_ (fun x3_ h4_ => ?_)
        refine z_istore_n hX dX1_work_30 (by decide) 31 rfl ?_
        refine z_mask [true, true, true, true, false] ?_
        have hz := aX1_work_L31 hX hp _ _ h4_
        exact hz
      · rw [if_neg hc] at h1_
        refine z_ldc2 hX dX1_work_18 kX1_40 21 rfl ?_
        exact z_lreturn hX dX1_work_21 (zend_l h1_)
def gX8_freeThing_L2 (w : Nat) (M : zM) (rc2 : Int32 → Option Int32) (s : Int32) : Option Int32 :=
  zgP (M.2.2 w 0) (fun p1_ => (if (M.1 p1_ 5) ≤ s then some (-2)
  else (if 8 ≤ s then some (-2)
  else zg (zok s 8) ((if (M.1 (w + 8) (s : Int32).toNatClampNeg) = 0 then zcI (gX8_goerFor w s M) (fun v4_ => (if 0 ≤ v4_ then rc2 (s + 1)
  else some s))
  else rc2 (s + 1))))))
set_option maxRecDepth 100000 in
set_option maxHeartbeats 2000000 in
theorem aX8_freeThing_L2 {G : zG} {X : zX} {w : Nat} (hX : zC G X cX8_freeThing 2 RX8 (some .int) 3) (hw : isW w)  {M : zM} {res : Int32}  : ∀ (N : Nat) (s : Int32), zfix N (gX8_freeThing_L2 w M) s = some res → Z G X (zQip M res) 2 [some (.ref w), some (.int s)] [] M := by
  intro N
  induction N with
  | zero => intro s h; cases h
  | succ N hrc2 =>
    intro s h
    replace h : gX8_freeThing_L2 w M (zfix N (gX8_freeThing_L2 w M)) s = some res := h
    unfold gX8_freeThing_L2 at h
    refine z_iload_n hX dX8_freeThing_2 rfl 3 rfl ?_
    refine z_aload_n hX dX8_freeThing_3 rfl 4 rfl ?_
    obtain ⟨p1_, hm, hp1_, h2_⟩ := zgP_of h
    refine z_getR hX fX8_40 dX8_freeThing_4 (zsW0 hw) (by decide) rfl hm 7 rfl ?_
    refine z_getI hX fX8_80 dX8_freeThing_7 (zsP0 hp1_) (by decide) rfl 10 rfl ?_
    refine z_icmp_ge hX dX8_freeThing_10 44 13 (by decide) rfl (fun hc => ?_) (fun hc => ?_)
    · rw [if_pos hc] at h2_
      refine z_bipush hX dX8_freeThing_44 qb_m2 46 rfl ?_
      exact z_ireturn hX dX8_freeThing_46 (zend_ip h2_)
    · rw [if_neg hc] at h2_
      refine z_iload_n hX dX8_freeThing_13 rfl 14 rfl ?_
      refine z_bipush hX dX8_freeThing_14 qb_8 16 rfl ?_
      refine z_icmp_ge hX dX8_freeThing_16 44 19 (by decide) rfl (fun hc => ?_) (fun hc => ?_)
      · rw [if_pos hc] at h2_
        refine z_bipush hX dX8_freeThing_44 qb_m2 46 rfl ?_
        exact z_ireturn hX dX8_freeThing_46 (zend_ip h2_)
      · rw [if_neg hc] at h2_
        refine z_aload_n hX dX8_freeThing_19 rfl 20 rfl ?_
        refine z_getF hX fX8_34 dX8_freeThing_20 (zsW0 hw) (by decide) rfl 23 rfl ?_
        refine z_iload_n hX dX8_freeThing_23 rfl 24 rfl ?_
        obtain ⟨hb, h3_⟩ := zgd h2_
        refine z_iald hX dX8_freeThing_24 (zsW8 hw) (zok_in hb) 25 rfl ?_
        refine z_if_ne hX dX8_freeThing_25 38 28 (by decide) rfl (fun hc => ?_) (fun hc => ?_)
        · rw [if_neg hc] at h3_
          refine z_iinc (v := (s + 1)) hX dX8_freeThing_38 rfl (by rfl) (by decide) 41 rfl ?_
          refine z_goto hX dX8_freeThing_41 2 (by decide) ?_
          refine z_mask [true, true] ?_
          have hz := hrc2 _ h3_
          exact hz
        · rw [if_pos hc] at h3_
          refine z_aload_n hX dX8_freeThing_28 rfl 29 rfl ?_
          refine z_iload_n hX dX8_freeThing_29 rfl 30 rfl ?_
          obtain ⟨v4_, hq, h5_⟩ := zcI_of h3_
          refine z_callV hX vX8_goerFor lX8_97 dX8_freeThing_30 (zsW0 hw) rfl (mX8_goerFor hw hq) (by decide) rfl rfl (Nat.le_of_ble_eq_true rfl) 33 rfl (Qi.to (fun v' M' hv => ?_))
          obtain ⟨rfl, rfl⟩ := hv
          refine z_if_ge hX dX8_freeThing_33 38 36 (by decide) rfl (fun hc => ?_) (fun hc => ?_)
          · rw [if_pos hc] at h5_
            refine z_iinc (v := (s + 1)) hX dX8_freeThing_38 rfl (by rfl) (by decide) 41 rfl ?_
            refine z_goto hX dX8_freeThing_41 2 (by decide) ?_
            refine z_mask [true, true] ?_
            have hz := hrc2 _ h5_
            exact hz
          · rw [if_neg hc] at h5_
            refine z_iload_n hX dX8_freeThing_36 rfl 37 rfl ?_
            exact z_ireturn hX dX8_freeThing_37 (zend_ip h5_)
def gX8_freeThing (w : Nat) (M : zM) : Option Int32 :=
  zfix zFu (gX8_freeThing_L2 w M) 0
set_option maxRecDepth 100000 in
set_option maxHeartbeats 2000000 in
theorem mX8_freeThing {G : zG} {w : Nat} {M : zM} (hw : isW w) {res : Int32} (h : gX8_freeThing w M = some res) : Ct G 3 tX8_freeThing [.ref w] M (zQip M res) := by
  unfold gX8_freeThing at h
  refine Ct.of (y := yX8_freeThing) rfl plX8 (Nat.le_of_ble_eq_true rfl) (fun X hX => ?_)
  replace hX : zC G X cX8_freeThing 2 RX8 (some .int) 3 := hX
  show Z G X _ 0 [some (.ref w), none] [] M
  refine z_iconst hX dX8_freeThing_0 qi_0 1 rfl ?_
  refine z_istore_n hX dX8_freeThing_1 (by decide) 2 rfl ?_
  refine z_mask [true, true] ?_
  have hz := aX8_freeThing_L2 hX hw _ _ h
  exact hz
def gX9_law_J49 (x1 : Int32) (y1 : Int32) (y2 : Int32) (M : zM) : Option (Int64 × zM) :=
  zcV (gX8_setFacts 55 y1 y2 0 M) (fun M4_ => zgP (M4_.2.2 0 2) (fun p6_ => zcLM (gX1_work p6_ x1 M4_) (fun v8_ M9_ => some (v8_, M9_))))
set_option maxRecDepth 100000 in
set_option maxHeartbeats 2000000 in
theorem aX9_law_J49 {G : zG} {X : zX} {x1 : Int32} {y1 : Int32} {y2 : Int32} (hX : zC G X cX9_law 3 RX9 (some .long) 4)   {M : zM} {res : (Int64 × zM)}  (h : gX9_law_J49 x1 y1 y2 M = some res) : Z G X (zQl res) 49 [some (.ref 0), some (.int x1), none] [.int y2, .int y1, .ref 55] M := by
  unfold gX9_law_J49 at h
  refine z_iconst hX dX9_law_49 qi_0 50 rfl ?_
  obtain ⟨M4_, hq, h5_⟩ := zcV_of h
  refine z_callV hX vX8_setFacts lX9_198 dX9_law_50 zs_55 rfl (mX8_setFacts isW_55 hq) (by decide) rfl rfl (Nat.le_of_ble_eq_true rfl) 53 rfl (Qv.to (fun M' hv => ?_))
  subst hv
  refine z_aload_n hX dX9_law_53 rfl 54 rfl ?_
  obtain ⟨p6_, hm, hp6_, h7_⟩ := zgP_of h5_
  refine z_getR hX fX9_18 dX9_law_54 zs_0 (by decide) rfl hm 57 rfl ?_
  refine z_getF hX fX9_202 dX9_law_57 (zsP0 hp6_) (by decide) rfl 60 rfl ?_
  refine z_iload_n hX dX9_law_60 rfl 61 rfl ?_
  obtain ⟨v8_, M9_, hq, h10_⟩ := zcLM_of h7_
  refine z_callV hX vX1_work lX9_206 dX9_law_61 (zsP14 hp6_) rfl (mX1_work hp6_ hq) (by decide) rfl rfl (Nat.le_of_ble_eq_true rfl) 64 rfl (Ql.to (fun v' M' hv => ?_))
  cases hv
  exact z_lreturn hX dX9_law_64 (zend_l h10_)
def gX9_law (x1 : Int32) (x2 : Int32) (M : zM) : Option (Int64 × zM) :=
  (if x1 < 0 then some ((-9223372036854775808), M)
  else (if 3 ≤ x1 then some ((-9223372036854775808), M)
  else zcI (gX9_isMan x2 M) (fun v1_ => (if v1_ = 0 then some ((-9223372036854775808), M)
  else (if x1 = 0 then zcI (gX8_freeThing 55 M) (fun v11_ => gX9_law_J49 x1 x2 v11_ M)
  else zg (zok x2 6) (gX9_law_J49 x1 x2 (M.1 60 (x2 : Int32).toNatClampNeg) M))))))
set_option maxRecDepth 100000 in
set_option maxHeartbeats 2000000 in
theorem mX9_law {G : zG} {x1 : Int32} {x2 : Int32} {M : zM}  {res : (Int64 × zM)} (h : gX9_law x1 x2 M = some res) : Ct G 4 tX9_law [.ref 0, .int x1, .int x2] M (zQl res) := by
  unfold gX9_law at h
  refine Ct.of (y := yX9_law) rfl plX9 (Nat.le_of_ble_eq_true rfl) (fun X hX => ?_)
  replace hX : zC G X cX9_law 3 RX9 (some .long) 4 := hX
  show Z G X _ 0 [some (.ref 0), some (.int x1), some (.int x2)] [] M
  refine z_iload_n hX dX9_law_0 rfl 1 rfl ?_
  refine z_if_lt hX dX9_law_1 17 4 (by decide) rfl (fun hc => ?_) (fun hc => ?_)
  · rw [if_pos hc] at h
    refine z_ldc2 hX dX9_law_17 kX9_192 20 rfl ?_
    exact z_lreturn hX dX9_law_20 (zend_l h)
  · rw [if_neg hc] at h
    refine z_iload_n hX dX9_law_4 rfl 5 rfl ?_
    refine z_iconst hX dX9_law_5 qi_3 6 rfl ?_
    refine z_icmp_ge hX dX9_law_6 17 9 (by decide) rfl (fun hc => ?_) (fun hc => ?_)
    · rw [if_pos hc] at h
      refine z_ldc2 hX dX9_law_17 kX9_192 20 rfl ?_
      exact z_lreturn hX dX9_law_20 (zend_l h)
    · rw [if_neg hc] at h
      refine z_aload_n hX dX9_law_9 rfl 10 rfl ?_
      refine z_iload_n hX dX9_law_10 rfl 11 rfl ?_
      obtain ⟨v1_, hq, h2_⟩ := zcI_of h
      refine z_callV hX vX9_isMan lX9_129 dX9_law_11 zs_0 rfl (mX9_isMan  hq) (by decide) rfl rfl (Nat.le_of_ble_eq_true rfl) 14 rfl (Qi.to (fun v' M' hv => ?_))
      obtain ⟨rfl, rfl⟩ := hv
      refine z_if_ne hX dX9_law_14 21 17 (by decide) rfl (fun hc => ?_) (fun hc => ?_)
      · rw [if_neg hc] at h2_
        refine z_aload_n hX dX9_law_21 rfl 22 rfl ?_
        refine z_getF hX fX9_41 dX9_law_22 zs_0 (by decide) rfl 25 rfl ?_
        refine z_iload_n hX dX9_law_25 rfl 26 rfl ?_
        refine z_iload_n hX dX9_law_26 rfl 27 rfl ?_
        refine z_if_ne hX dX9_law_27 40 30 (by decide) rfl (fun hc => ?_) (fun hc => ?_)
        · rw [if_neg hc] at h2_
          refine z_aload_n hX dX9_law_40 rfl 41 rfl ?_
          refine z_getF hX fX9_41 dX9_law_41 zs_0 (by decide) rfl 44 rfl ?_
          refine z_getF hX fX9_155 dX9_law_44 zs_55 (by decide) rfl 47 rfl ?_
          refine z_iload_n hX dX9_law_47 rfl 48 rfl ?_
          obtain ⟨hb, h3_⟩ := zgd h2_
          refine z_iald hX dX9_law_48 zs_60 (zok_in hb) 49 rfl ?_
          refine z_mask [true, true, false] ?_
          have hz := aX9_law_J49 hX h3_
          exact hz
        · rw [if_pos hc] at h2_
          refine z_aload_n hX dX9_law_30 rfl 31 rfl ?_
          refine z_getF hX fX9_41 dX9_law_31 zs_0 (by decide) rfl 34 rfl ?_
          obtain ⟨v11_, hq, h12_⟩ := zcI_of h2_
          refine z_callV hX vX8_freeThing lX9_194 dX9_law_34 zs_55 rfl (mX8_freeThing isW_55 hq) (by decide) rfl rfl (Nat.le_of_ble_eq_true rfl) 37 rfl (Qi.to (fun v' M' hv => ?_))
          obtain ⟨rfl, rfl⟩ := hv
          refine z_goto hX dX9_law_37 49 (by decide) ?_
          refine z_mask [true, true, false] ?_
          have hz := aX9_law_J49 hX h12_
          exact hz
      · rw [if_pos hc] at h2_
        refine z_ldc2 hX dX9_law_17 kX9_192 20 rfl ?_
        exact z_lreturn hX dX9_law_20 (zend_l h2_)
def gX8_thingsThatAre_L4 (w : Nat) (x1 : Int32) (M : zM) (rc4 : (Int32 × Int32) → Option Int32) (s : (Int32 × Int32)) : Option Int32 :=
  zgP (M.2.2 w 0) (fun p1_ => (if (M.1 p1_ 5) ≤ s.2 then some s.1
  else (if 8 ≤ s.2 then some s.1
  else zg (zok s.2 8) ((if (M.1 (w + 8) (s.2 : Int32).toNatClampNeg) = x1 then rc4 ((s.1 + 1), (s.2 + 1))
  else rc4 (s.1, (s.2 + 1)))))))
set_option maxRecDepth 100000 in
set_option maxHeartbeats 2000000 in
theorem aX8_thingsThatAre_L4 {G : zG} {X : zX} {w : Nat} {x1 : Int32} (hX : zC G X cX8_thingsThatAre 4 RX8 (some .int) 1) (hw : isW w)  {M : zM} {res : Int32}  : ∀ (N : Nat) (s : (Int32 × Int32)), zfix N (gX8_thingsThatAre_L4 w x1 M) s = some res → Z G X (zQip M res) 4 [some (.ref w), some (.int x1), some (.int s.1), some (.int s.2)] [] M := by
  intro N
  induction N with
  | zero => intro s h; cases h
  | succ N hrc4 =>
    intro s h
    replace h : gX8_thingsThatAre_L4 w x1 M (zfix N (gX8_thingsThatAre_L4 w x1 M)) s = some res := h
    unfold gX8_thingsThatAre_L4 at h
    refine z_iload_n hX dX8_thingsThatAre_4 rfl 5 rfl ?_
    refine z_aload_n hX dX8_thingsThatAre_5 rfl 6 rfl ?_
    obtain ⟨p1_, hm, hp1_, h2_⟩ := zgP_of h
    refine z_getR hX fX8_40 dX8_thingsThatAre_6 (zsW0 hw) (by decide) rfl hm 9 rfl ?_
    refine z_getI hX fX8_80 dX8_thingsThatAre_9 (zsP0 hp1_) (by decide) rfl 12 rfl ?_
    refine z_icmp_ge hX dX8_thingsThatAre_12 40 15 (by decide) rfl (fun hc => ?_) (fun hc => ?_)
    · rw [if_pos hc] at h2_
      refine z_iload_n hX dX8_thingsThatAre_40 rfl 41 rfl ?_
      exact z_ireturn hX dX8_thingsThatAre_41 (zend_ip h2_)
    · rw [if_neg hc] at h2_
      refine z_iload_n hX dX8_thingsThatAre_15 rfl 16 rfl ?_
      refine z_bipush hX dX8_thingsThatAre_16 qb_8 18 rfl ?_
      refine z_icmp_ge hX dX8_thingsThatAre_18 40 21 (by decide) rfl (fun hc => ?_) (fun hc => ?_)
      · rw [if_pos hc] at h2_
        refine z_iload_n hX dX8_thingsThatAre_40 rfl 41 rfl ?_
        exact z_ireturn hX dX8_thingsThatAre_41 (zend_ip h2_)
      · rw [if_neg hc] at h2_
        refine z_aload_n hX dX8_thingsThatAre_21 rfl 22 rfl ?_
        refine z_getF hX fX8_34 dX8_thingsThatAre_22 (zsW0 hw) (by decide) rfl 25 rfl ?_
        refine z_iload_n hX dX8_thingsThatAre_25 rfl 26 rfl ?_
        obtain ⟨hb, h3_⟩ := zgd h2_
        refine z_iald hX dX8_thingsThatAre_26 (zsW8 hw) (zok_in hb) 27 rfl ?_
        refine z_iload_n hX dX8_thingsThatAre_27 rfl 28 rfl ?_
        refine z_icmp_ne hX dX8_thingsThatAre_28 34 31 (by decide) rfl (fun hc => ?_) (fun hc => ?_)
        · rw [if_neg hc] at h3_
          refine z_iinc (v := (s.2 + 1)) hX dX8_thingsThatAre_34 rfl (by rfl) (by decide) 37 rfl ?_
          refine z_goto hX dX8_thingsThatAre_37 4 (by decide) ?_
          refine z_mask [true, true, true, true] ?_
          have hz := hrc4 _ h3_
          exact hz
        · rw [if_pos hc] at h3_
          refine z_iinc (v := (s.1 + 1)) hX dX8_thingsThatAre_31 rfl (by rfl) (by decide) 34 rfl ?_
          refine z_iinc (v := (s.2 + 1)) hX dX8_thingsThatAre_34 rfl (by rfl) (by decide) 37 rfl ?_
          refine z_goto hX dX8_thingsThatAre_37 4 (by decide) ?_
          refine z_mask [true, true, true, true] ?_
          have hz := hrc4 _ h3_
          exact hz
def gX8_thingsThatAre (w : Nat) (x1 : Int32) (M : zM) : Option Int32 :=
  zfix zFu (gX8_thingsThatAre_L4 w x1 M) (0, 0)
set_option maxRecDepth 100000 in
set_option maxHeartbeats 2000000 in
theorem mX8_thingsThatAre {G : zG} {w : Nat} {x1 : Int32} {M : zM} (hw : isW w) {res : Int32} (h : gX8_thingsThatAre w x1 M = some res) : Ct G 1 tX8_thingsThatAre [.ref w, .int x1] M (zQip M res) := by
  unfold gX8_thingsThatAre at h
  refine Ct.of (y := yX8_thingsThatAre) rfl plX8 (Nat.le_of_ble_eq_true rfl) (fun X hX => ?_)
  replace hX : zC G X cX8_thingsThatAre 4 RX8 (some .int) 1 := hX
  show Z G X _ 0 [some (.ref w), some (.int x1), none, none] [] M
  refine z_iconst hX dX8_thingsThatAre_0 qi_0 1 rfl ?_
  refine z_istore_n hX dX8_thingsThatAre_1 (by decide) 2 rfl ?_
  refine z_iconst hX dX8_thingsThatAre_2 qi_0 3 rfl ?_
  refine z_istore_n hX dX8_thingsThatAre_3 (by decide) 4 rfl ?_
  refine z_mask [true, true, true, true] ?_
  have hz := aX8_thingsThatAre_L4 hX hw _ _ h
  exact hz
def gX8_menThatAre_L4 (w : Nat) (x1 : Int32) (M : zM) (rc4 : (Int32 × Int32) → Option Int32) (s : (Int32 × Int32)) : Option Int32 :=
  zgP (M.2.2 w 0) (fun p1_ => (if (M.1 p1_ 0) ≤ s.2 then some s.1
  else (if 6 ≤ s.2 then some s.1
  else zg (zok s.2 6) ((if (M.1 (w + 4) (s.2 : Int32).toNatClampNeg) = x1 then rc4 ((s.1 + 1), (s.2 + 1))
  else rc4 (s.1, (s.2 + 1)))))))
set_option maxRecDepth 100000 in
set_option maxHeartbeats 2000000 in
theorem aX8_menThatAre_L4 {G : zG} {X : zX} {w : Nat} {x1 : Int32} (hX : zC G X cX8_menThatAre 4 RX8 (some .int) 1) (hw : isW w)  {M : zM} {res : Int32}  : ∀ (N : Nat) (s : (Int32 × Int32)), zfix N (gX8_menThatAre_L4 w x1 M) s = some res → Z G X (zQip M res) 4 [some (.ref w), some (.int x1), some (.int s.1), some (.int s.2)] [] M := by
  intro N
  induction N with
  | zero => intro s h; cases h
  | succ N hrc4 =>
    intro s h
    replace h : gX8_menThatAre_L4 w x1 M (zfix N (gX8_menThatAre_L4 w x1 M)) s = some res := h
    unfold gX8_menThatAre_L4 at h
    refine z_iload_n hX dX8_menThatAre_4 rfl 5 rfl ?_
    refine z_aload_n hX dX8_menThatAre_5 rfl 6 rfl ?_
    obtain ⟨p1_, hm, hp1_, h2_⟩ := zgP_of h
    refine z_getR hX fX8_40 dX8_menThatAre_6 (zsW0 hw) (by decide) rfl hm 9 rfl ?_
    refine z_getI hX fX8_83 dX8_menThatAre_9 (zsP0 hp1_) (by decide) rfl 12 rfl ?_
    refine z_icmp_ge hX dX8_menThatAre_12 40 15 (by decide) rfl (fun hc => ?_) (fun hc => ?_)
    · rw [if_pos hc] at h2_
      refine z_iload_n hX dX8_menThatAre_40 rfl 41 rfl ?_
      exact z_ireturn hX dX8_menThatAre_41 (zend_ip h2_)
    · rw [if_neg hc] at h2_
      refine z_iload_n hX dX8_menThatAre_15 rfl 16 rfl ?_
      refine z_bipush hX dX8_menThatAre_16 qb_6 18 rfl ?_
      refine z_icmp_ge hX dX8_menThatAre_18 40 21 (by decide) rfl (fun hc => ?_) (fun hc => ?_)
      · rw [if_pos hc] at h2_
        refine z_iload_n hX dX8_menThatAre_40 rfl 41 rfl ?_
        exact z_ireturn hX dX8_menThatAre_41 (zend_ip h2_)
      · rw [if_neg hc] at h2_
        refine z_aload_n hX dX8_menThatAre_21 rfl 22 rfl ?_
        refine z_getF hX fX8_21 dX8_menThatAre_22 (zsW0 hw) (by decide) rfl 25 rfl ?_
        refine z_iload_n hX dX8_menThatAre_25 rfl 26 rfl ?_
        obtain ⟨hb, h3_⟩ := zgd h2_
        refine z_iald hX dX8_menThatAre_26 (zsW4 hw) (zok_in hb) 27 rfl ?_
        refine z_iload_n hX dX8_menThatAre_27 rfl 28 rfl ?_
        refine z_icmp_ne hX dX8_menThatAre_28 34 31 (by decide) rfl (fun hc => ?_) (fun hc => ?_)
        · rw [if_neg hc] at h3_
          refine z_iinc (v := (s.2 + 1)) hX dX8_menThatAre_34 rfl (by rfl) (by decide) 37 rfl ?_
          refine z_goto hX dX8_menThatAre_37 4 (by decide) ?_
          refine z_mask [true, true, true, true] ?_
          have hz := hrc4 _ h3_
          exact hz
        · rw [if_pos hc] at h3_
          refine z_iinc (v := (s.1 + 1)) hX dX8_menThatAre_31 rfl (by rfl) (by decide) 34 rfl ?_
          refine z_iinc (v := (s.2 + 1)) hX dX8_menThatAre_34 rfl (by rfl) (by decide) 37 rfl ?_
          refine z_goto hX dX8_menThatAre_37 4 (by decide) ?_
          refine z_mask [true, true, true, true] ?_
          have hz := hrc4 _ h3_
          exact hz
def gX8_menThatAre (w : Nat) (x1 : Int32) (M : zM) : Option Int32 :=
  zfix zFu (gX8_menThatAre_L4 w x1 M) (0, 0)
set_option maxRecDepth 100000 in
set_option maxHeartbeats 2000000 in
theorem mX8_menThatAre {G : zG} {w : Nat} {x1 : Int32} {M : zM} (hw : isW w) {res : Int32} (h : gX8_menThatAre w x1 M = some res) : Ct G 1 tX8_menThatAre [.ref w, .int x1] M (zQip M res) := by
  unfold gX8_menThatAre at h
  refine Ct.of (y := yX8_menThatAre) rfl plX8 (Nat.le_of_ble_eq_true rfl) (fun X hX => ?_)
  replace hX : zC G X cX8_menThatAre 4 RX8 (some .int) 1 := hX
  show Z G X _ 0 [some (.ref w), some (.int x1), none, none] [] M
  refine z_iconst hX dX8_menThatAre_0 qi_0 1 rfl ?_
  refine z_istore_n hX dX8_menThatAre_1 (by decide) 2 rfl ?_
  refine z_iconst hX dX8_menThatAre_2 qi_0 3 rfl ?_
  refine z_istore_n hX dX8_menThatAre_3 (by decide) 4 rfl ?_
  refine z_mask [true, true, true, true] ?_
  have hz := aX8_menThatAre_L4 hX hw _ _ h
  exact hz
def gX8_savedWorth_L4 (w : Nat) (M : zM) (rc4 : (Int32 × Int32) → Option Int32) (s : (Int32 × Int32)) : Option Int32 :=
  zgP (M.2.2 w 0) (fun p1_ => (if (M.1 p1_ 5) ≤ s.2 then some s.1
  else (if 8 ≤ s.2 then some s.1
  else zg (zok s.2 8) ((if (M.1 (w + 8) (s.2 : Int32).toNatClampNeg) = 2 then zgP (M.2.2 w 0) (fun p4_ => zg (zok s.2 8) (zlet ((s.1 + (M.1 (p4_ + 6) (s.2 : Int32).toNatClampNeg))) (fun x7_ => rc4 (x7_, (s.2 + 1)))))
  else rc4 (s.1, (s.2 + 1)))))))
set_option maxRecDepth 100000 in
set_option maxHeartbeats 2000000 in
theorem aX8_savedWorth_L4 {G : zG} {X : zX} {w : Nat} (hX : zC G X cX8_savedWorth 3 RX8 (some .int) 1) (hw : isW w)  {M : zM} {res : Int32}  : ∀ (N : Nat) (s : (Int32 × Int32)), zfix N (gX8_savedWorth_L4 w M) s = some res → Z G X (zQip M res) 4 [some (.ref w), some (.int s.1), some (.int s.2)] [] M := by
  intro N
  induction N with
  | zero => intro s h; cases h
  | succ N hrc4 =>
    intro s h
    replace h : gX8_savedWorth_L4 w M (zfix N (gX8_savedWorth_L4 w M)) s = some res := h
    unfold gX8_savedWorth_L4 at h
    refine z_iload_n hX dX8_savedWorth_4 rfl 5 rfl ?_
    refine z_aload_n hX dX8_savedWorth_5 rfl 6 rfl ?_
    obtain ⟨p1_, hm, hp1_, h2_⟩ := zgP_of h
    refine z_getR hX fX8_40 dX8_savedWorth_6 (zsW0 hw) (by decide) rfl hm 9 rfl ?_
    refine z_getI hX fX8_80 dX8_savedWorth_9 (zsP0 hp1_) (by decide) rfl 12 rfl ?_
    refine z_icmp_ge hX dX8_savedWorth_12 49 15 (by decide) rfl (fun hc => ?_) (fun hc => ?_)
    · rw [if_pos hc] at h2_
      refine z_iload_n hX dX8_savedWorth_49 rfl 50 rfl ?_
      exact z_ireturn hX dX8_savedWorth_50 (zend_ip h2_)
    · rw [if_neg hc] at h2_
      refine z_iload_n hX dX8_savedWorth_15 rfl 16 rfl ?_
      refine z_bipush hX dX8_savedWorth_16 qb_8 18 rfl ?_
      refine z_icmp_ge hX dX8_savedWorth_18 49 21 (by decide) rfl (fun hc => ?_) (fun hc => ?_)
      · rw [if_pos hc] at h2_
        refine z_iload_n hX dX8_savedWorth_49 rfl 50 rfl ?_
        exact z_ireturn hX dX8_savedWorth_50 (zend_ip h2_)
      · rw [if_neg hc] at h2_
        refine z_aload_n hX dX8_savedWorth_21 rfl 22 rfl ?_
        refine z_getF hX fX8_34 dX8_savedWorth_22 (zsW0 hw) (by decide) rfl 25 rfl ?_
        refine z_iload_n hX dX8_savedWorth_25 rfl 26 rfl ?_
        obtain ⟨hb, h3_⟩ := zgd h2_
        refine z_iald hX dX8_savedWorth_26 (zsW8 hw) (zok_in hb) 27 rfl ?_
        refine z_iconst hX dX8_savedWorth_27 qi_2 28 rfl ?_
        refine z_icmp_ne hX dX8_savedWorth_28 43 31 (by decide) rfl (fun hc => ?_) (fun hc => ?_)
        · rw [if_neg hc] at h3_
          refine z_iinc (v := (s.2 + 1)) hX dX8_savedWorth_43 rfl (by rfl) (by decide) 46 rfl ?_
          refine z_goto hX dX8_savedWorth_46 4 (by decide) ?_
          refine z_mask [true, true, true] ?_
          have hz := hrc4 _ h3_
          exact hz
        · rw [if_pos hc] at h3_
          refine z_iload_n hX dX8_savedWorth_31 rfl 32 rfl ?_
          refine z_aload_n hX dX8_savedWorth_32 rfl 33 rfl ?_
          obtain ⟨p4_, hm, hp4_, h5_⟩ := zgP_of h3_
          refine z_getR hX fX8_40 dX8_savedWorth_33 (zsW0 hw) (by decide) rfl hm 36 rfl ?_
          refine z_getF hX fX8_86 dX8_savedWorth_36 (zsP0 hp4_) (by decide) rfl 39 rfl ?_
          refine z_iload_n hX dX8_savedWorth_39 rfl 40 rfl ?_
          obtain ⟨hb, h6_⟩ := zgd h5_
          refine z_iald hX dX8_savedWorth_40 (zsP6 hp4_) (zok_in hb) 41 rfl ?_
          refine z_iadd hX dX8_savedWorth_41 42 rfl ?_
          refine z_topi h6_ (fun x7_ h8_ => ?_)
          refine z_istore_n hX dX8_savedWorth_42 (by decide) 43 rfl ?_
          refine z_iinc (v := (s.2 + 1)) hX dX8_savedWorth_43 rfl (by rfl) (by decide) 46 rfl ?_
          refine z_goto hX dX8_savedWorth_46 4 (by decide) ?_
          refine z_mask [true, true, true] ?_
          have hz := hrc4 _ h8_
          exact hz
def gX8_savedWorth (w : Nat) (M : zM) : Option Int32 :=
  zfix zFu (gX8_savedWorth_L4 w M) (0, 0)
set_option maxRecDepth 100000 in
set_option maxHeartbeats 2000000 in
theorem mX8_savedWorth {G : zG} {w : Nat} {M : zM} (hw : isW w) {res : Int32} (h : gX8_savedWorth w M = some res) : Ct G 1 tX8_savedWorth [.ref w] M (zQip M res) := by
  unfold gX8_savedWorth at h
  refine Ct.of (y := yX8_savedWorth) rfl plX8 (Nat.le_of_ble_eq_true rfl) (fun X hX => ?_)
  replace hX : zC G X cX8_savedWorth 3 RX8 (some .int) 1 := hX
  show Z G X _ 0 [some (.ref w), none, none] [] M
  refine z_iconst hX dX8_savedWorth_0 qi_0 1 rfl ?_
  refine z_istore_n hX dX8_savedWorth_1 (by decide) 2 rfl ?_
  refine z_iconst hX dX8_savedWorth_2 qi_0 3 rfl ?_
  refine z_istore_n hX dX8_savedWorth_3 (by decide) 4 rfl ?_
  refine z_mask [true, true, true] ?_
  have hz := aX8_savedWorth_L4 hX hw _ _ h
  exact hz
def gX4_knownSize (M : zM) : Option Int32 :=
  (if 0 ≤ (M.1 89 1) then some (M.1 89 1)
  else some (M.1 89 0))
set_option maxRecDepth 100000 in
set_option maxHeartbeats 2000000 in
theorem mX4_knownSize {G : zG}  {M : zM}  {res : Int32} (h : gX4_knownSize M = some res) : Ct G 1 tX4_knownSize [.ref 89] M (zQip M res) := by
  unfold gX4_knownSize at h
  refine Ct.of (y := yX4_knownSize) rfl plX4 (Nat.le_of_ble_eq_true rfl) (fun X hX => ?_)
  replace hX : zC G X cX4_knownSize 1 RX4 (some .int) 1 := hX
  show Z G X _ 0 [some (.ref 89)] [] M
  refine z_aload_n hX dX4_knownSize_0 rfl 1 rfl ?_
  refine z_getI hX fX4_9 dX4_knownSize_1 zs_89 (by decide) rfl 4 rfl ?_
  refine z_if_ge hX dX4_knownSize_4 14 7 (by decide) rfl (fun hc => ?_) (fun hc => ?_)
  · rw [if_pos hc] at h
    refine z_aload_n hX dX4_knownSize_14 rfl 15 rfl ?_
    refine z_getI hX fX4_9 dX4_knownSize_15 zs_89 (by decide) rfl 18 rfl ?_
    exact z_ireturn hX dX4_knownSize_18 (zend_ip h)
  · rw [if_neg hc] at h
    refine z_aload_n hX dX4_knownSize_7 rfl 8 rfl ?_
    refine z_getI hX fX4_32 dX4_knownSize_8 zs_89 (by decide) rfl 11 rfl ?_
    refine z_goto hX dX4_knownSize_11 18 (by decide) ?_
    exact z_ireturn hX dX4_knownSize_18 (zend_ip h)
def gX9_count (x1 : Int32) (M : zM) : Option Int32 :=
  (if x1 = 0 then zgP (M.2.2 0 2) (fun p1_ => some (M.1 p1_ 0))
  else if x1 = 1 then zgP (M.2.2 0 2) (fun p3_ => some (M.1 p3_ 5))
  else if x1 = 2 then zgP (M.2.2 0 2) (fun p5_ => some (M.1 (p5_ + 14) 0))
  else if x1 = 3 then some (M.1 55 10)
  else if x1 = 4 then zcI (gX8_thingsThatAre 55 2 M) (fun v7_ => some v7_)
  else if x1 = 5 then zcI (gX8_thingsThatAre 55 3 M) (fun v9_ => some v9_)
  else if x1 = 6 then zcI (gX8_menThatAre 55 2 M) (fun v11_ => some v11_)
  else if x1 = 7 then zcI (gX8_menThatAre 55 1 M) (fun v13_ => some v13_)
  else if x1 = 8 then some (M.1 55 11)
  else if x1 = 9 then some (M.1 55 12)
  else if x1 = 10 then zcI (gX8_savedWorth 55 M) (fun v15_ => some v15_)
  else if x1 = 11 then some (M.1 55 13)
  else if x1 = 12 then some (M.1 89 0)
  else if x1 = 13 then zcI (gX4_knownSize M) (fun v17_ => some v17_)
  else if x1 = 14 then some (M.1 85 0)
  else some (-1))
set_option maxRecDepth 100000 in
set_option maxHeartbeats 2000000 in
theorem mX9_count {G : zG} {x1 : Int32} {M : zM}  {res : Int32} (h : gX9_count x1 M = some res) : Ct G 2 tX9_count [.ref 0, .int x1] M (zQip M res) := by
  unfold gX9_count at h
  refine Ct.of (y := yX9_count) rfl plX9 (Nat.le_of_ble_eq_true rfl) (fun X hX => ?_)
  replace hX : zC G X cX9_count 2 RX9 (some .int) 2 := hX
  show Z G X _ 0 [some (.ref 0), some (.int x1)] [] M
  refine z_iload_n hX dX9_count_0 rfl 1 rfl ?_
  by_cases hc0 : x1 = 0
  · rw [if_pos hc0] at h
    refine z_tabIn hX dX9_count_1 (by rw [hc0]; decide) (by rw [hc0]; decide) (by rw [hc0]; rfl) 76 (by decide) ?_
    refine z_aload_n hX dX9_count_76 rfl 77 rfl ?_
    obtain ⟨p1_, hm, hp1_, h2_⟩ := zgP_of h
    refine z_getR hX fX9_18 dX9_count_77 zs_0 (by decide) rfl hm 80 rfl ?_
    refine z_getI hX fX9_116 dX9_count_80 (zsP0 hp1_) (by decide) rfl 83 rfl ?_
    exact z_ireturn hX dX9_count_83 (zend_ip h2_)
  rw [if_neg hc0] at h
  by_cases hc1 : x1 = 1
  · rw [if_pos hc1] at h
    refine z_tabIn hX dX9_count_1 (by rw [hc1]; decide) (by rw [hc1]; decide) (by rw [hc1]; rfl) 84 (by decide) ?_
    refine z_aload_n hX dX9_count_84 rfl 85 rfl ?_
    obtain ⟨p3_, hm, hp3_, h4_⟩ := zgP_of h
    refine z_getR hX fX9_18 dX9_count_85 zs_0 (by decide) rfl hm 88 rfl ?_
    refine z_getI hX fX9_126 dX9_count_88 (zsP0 hp3_) (by decide) rfl 91 rfl ?_
    exact z_ireturn hX dX9_count_91 (zend_ip h4_)
  rw [if_neg hc1] at h
  by_cases hc2 : x1 = 2
  · rw [if_pos hc2] at h
    refine z_tabIn hX dX9_count_1 (by rw [hc2]; decide) (by rw [hc2]; decide) (by rw [hc2]; rfl) 92 (by decide) ?_
    refine z_aload_n hX dX9_count_92 rfl 93 rfl ?_
    obtain ⟨p5_, hm, hp5_, h6_⟩ := zgP_of h
    refine z_getR hX fX9_18 dX9_count_93 zs_0 (by decide) rfl hm 96 rfl ?_
    refine z_getF hX fX9_202 dX9_count_96 (zsP0 hp5_) (by decide) rfl 99 rfl ?_
    refine z_getI hX fX9_212 dX9_count_99 (zsP14 hp5_) (by decide) rfl 102 rfl ?_
    exact z_ireturn hX dX9_count_102 (zend_ip h6_)
  rw [if_neg hc2] at h
  by_cases hc3 : x1 = 3
  · rw [if_pos hc3] at h
    refine z_tabIn hX dX9_count_1 (by rw [hc3]; decide) (by rw [hc3]; decide) (by rw [hc3]; rfl) 103 (by decide) ?_
    refine z_aload_n hX dX9_count_103 rfl 104 rfl ?_
    refine z_getF hX fX9_41 dX9_count_104 zs_0 (by decide) rfl 107 rfl ?_
    refine z_getI hX fX9_215 dX9_count_107 zs_55 (by decide) rfl 110 rfl ?_
    exact z_ireturn hX dX9_count_110 (zend_ip h)
  rw [if_neg hc3] at h
  by_cases hc4 : x1 = 4
  · rw [if_pos hc4] at h
    refine z_tabIn hX dX9_count_1 (by rw [hc4]; decide) (by rw [hc4]; decide) (by rw [hc4]; rfl) 111 (by decide) ?_
    refine z_aload_n hX dX9_count_111 rfl 112 rfl ?_
    refine z_getF hX fX9_41 dX9_count_112 zs_0 (by decide) rfl 115 rfl ?_
    refine z_iconst hX dX9_count_115 qi_2 116 rfl ?_
    obtain ⟨v7_, hq, h8_⟩ := zcI_of h
    refine z_callV hX vX8_thingsThatAre lX9_218 dX9_count_116 zs_55 rfl (mX8_thingsThatAre isW_55 hq) (by decide) rfl rfl (Nat.le_of_ble_eq_true rfl) 119 rfl (Qi.to (fun v' M' hv => ?_))
    obtain ⟨rfl, rfl⟩ := hv
    exact z_ireturn hX dX9_count_119 (zend_ip h8_)
  rw [if_neg hc4] at h
  by_cases hc5 : x1 = 5
  · rw [if_pos hc5] at h
    refine z_tabIn hX dX9_count_1 (by rw [hc5]; decide) (by rw [hc5]; decide) (by rw [hc5]; rfl) 120 (by decide) ?_
    refine z_aload_n hX dX9_count_120 rfl 121 rfl ?_
    refine z_getF hX fX9_41 dX9_count_121 zs_0 (by decide) rfl 124 rfl ?_
    refine z_iconst hX dX9_count_124 qi_3 125 rfl ?_
    obtain ⟨v9_, hq, h10_⟩ := zcI_of h
    refine z_callV hX vX8_thingsThatAre lX9_218 dX9_count_125 zs_55 rfl (mX8_thingsThatAre isW_55 hq) (by decide) rfl rfl (Nat.le_of_ble_eq_true rfl) 128 rfl (Qi.to (fun v' M' hv => ?_))
    obtain ⟨rfl, rfl⟩ := hv
    exact z_ireturn hX dX9_count_128 (zend_ip h10_)
  rw [if_neg hc5] at h
  by_cases hc6 : x1 = 6
  · rw [if_pos hc6] at h
    refine z_tabIn hX dX9_count_1 (by rw [hc6]; decide) (by rw [hc6]; decide) (by rw [hc6]; rfl) 129 (by decide) ?_
    refine z_aload_n hX dX9_count_129 rfl 130 rfl ?_
    refine z_getF hX fX9_41 dX9_count_130 zs_0 (by decide) rfl 133 rfl ?_
    refine z_iconst hX dX9_count_133 qi_2 134 rfl ?_
    obtain ⟨v11_, hq, h12_⟩ := zcI_of h
    refine z_callV hX vX8_menThatAre lX9_221 dX9_count_134 zs_55 rfl (mX8_menThatAre isW_55 hq) (by decide) rfl rfl (Nat.le_of_ble_eq_true rfl) 137 rfl (Qi.to (fun v' M' hv => ?_))
    obtain ⟨rfl, rfl⟩ := hv
    exact z_ireturn hX dX9_count_137 (zend_ip h12_)
  rw [if_neg hc6] at h
  by_cases hc7 : x1 = 7
  · rw [if_pos hc7] at h
    refine z_tabIn hX dX9_count_1 (by rw [hc7]; decide) (by rw [hc7]; decide) (by rw [hc7]; rfl) 138 (by decide) ?_
    refine z_aload_n hX dX9_count_138 rfl 139 rfl ?_
    refine z_getF hX fX9_41 dX9_count_139 zs_0 (by decide) rfl 142 rfl ?_
    refine z_iconst hX dX9_count_142 qi_1 143 rfl ?_
    obtain ⟨v13_, hq, h14_⟩ := zcI_of h
    refine z_callV hX vX8_menThatAre lX9_221 dX9_count_143 zs_55 rfl (mX8_menThatAre isW_55 hq) (by decide) rfl rfl (Nat.le_of_ble_eq_true rfl) 146 rfl (Qi.to (fun v' M' hv => ?_))
    obtain ⟨rfl, rfl⟩ := hv
    exact z_ireturn hX dX9_count_146 (zend_ip h14_)
  rw [if_neg hc7] at h
  by_cases hc8 : x1 = 8
  · rw [if_pos hc8] at h
    refine z_tabIn hX dX9_count_1 (by rw [hc8]; decide) (by rw [hc8]; decide) (by rw [hc8]; rfl) 147 (by decide) ?_
    refine z_aload_n hX dX9_count_147 rfl 148 rfl ?_
    refine z_getF hX fX9_41 dX9_count_148 zs_0 (by decide) rfl 151 rfl ?_
    refine z_getI hX fX9_224 dX9_count_151 zs_55 (by decide) rfl 154 rfl ?_
    exact z_ireturn hX dX9_count_154 (zend_ip h)
  rw [if_neg hc8] at h
  by_cases hc9 : x1 = 9
  · rw [if_pos hc9] at h
    refine z_tabIn hX dX9_count_1 (by rw [hc9]; decide) (by rw [hc9]; decide) (by rw [hc9]; rfl) 155 (by decide) ?_
    refine z_aload_n hX dX9_count_155 rfl 156 rfl ?_
    refine z_getF hX fX9_41 dX9_count_156 zs_0 (by decide) rfl 159 rfl ?_
    refine z_getI hX fX9_227 dX9_count_159 zs_55 (by decide) rfl 162 rfl ?_
    exact z_ireturn hX dX9_count_162 (zend_ip h)
  rw [if_neg hc9] at h
  by_cases hc10 : x1 = 10
  · rw [if_pos hc10] at h
    refine z_tabIn hX dX9_count_1 (by rw [hc10]; decide) (by rw [hc10]; decide) (by rw [hc10]; rfl) 163 (by decide) ?_
    refine z_aload_n hX dX9_count_163 rfl 164 rfl ?_
    refine z_getF hX fX9_41 dX9_count_164 zs_0 (by decide) rfl 167 rfl ?_
    obtain ⟨v15_, hq, h16_⟩ := zcI_of h
    refine z_callV hX vX8_savedWorth lX9_230 dX9_count_167 zs_55 rfl (mX8_savedWorth isW_55 hq) (by decide) rfl rfl (Nat.le_of_ble_eq_true rfl) 170 rfl (Qi.to (fun v' M' hv => ?_))
    obtain ⟨rfl, rfl⟩ := hv
    exact z_ireturn hX dX9_count_170 (zend_ip h16_)
  rw [if_neg hc10] at h
  by_cases hc11 : x1 = 11
  · rw [if_pos hc11] at h
    refine z_tabIn hX dX9_count_1 (by rw [hc11]; decide) (by rw [hc11]; decide) (by rw [hc11]; rfl) 171 (by decide) ?_
    refine z_aload_n hX dX9_count_171 rfl 172 rfl ?_
    refine z_getF hX fX9_41 dX9_count_172 zs_0 (by decide) rfl 175 rfl ?_
    refine z_getI hX fX9_233 dX9_count_175 zs_55 (by decide) rfl 178 rfl ?_
    exact z_ireturn hX dX9_count_178 (zend_ip h)
  rw [if_neg hc11] at h
  by_cases hc12 : x1 = 12
  · rw [if_pos hc12] at h
    refine z_tabIn hX dX9_count_1 (by rw [hc12]; decide) (by rw [hc12]; decide) (by rw [hc12]; rfl) 179 (by decide) ?_
    refine z_aload_n hX dX9_count_179 rfl 180 rfl ?_
    refine z_getF hX fX9_61 dX9_count_180 zs_0 (by decide) rfl 183 rfl ?_
    refine z_getI hX fX9_236 dX9_count_183 zs_89 (by decide) rfl 186 rfl ?_
    exact z_ireturn hX dX9_count_186 (zend_ip h)
  rw [if_neg hc12] at h
  by_cases hc13 : x1 = 13
  · rw [if_pos hc13] at h
    refine z_tabIn hX dX9_count_1 (by rw [hc13]; decide) (by rw [hc13]; decide) (by rw [hc13]; rfl) 187 (by decide) ?_
    refine z_aload_n hX dX9_count_187 rfl 188 rfl ?_
    refine z_getF hX fX9_61 dX9_count_188 zs_0 (by decide) rfl 191 rfl ?_
    obtain ⟨v17_, hq, h18_⟩ := zcI_of h
    refine z_callV hX vX4_knownSize lX9_237 dX9_count_191 zs_89 rfl (mX4_knownSize  hq) (by decide) rfl rfl (Nat.le_of_ble_eq_true rfl) 194 rfl (Qi.to (fun v' M' hv => ?_))
    obtain ⟨rfl, rfl⟩ := hv
    exact z_ireturn hX dX9_count_194 (zend_ip h18_)
  rw [if_neg hc13] at h
  by_cases hc14 : x1 = 14
  · rw [if_pos hc14] at h
    refine z_tabIn hX dX9_count_1 (by rw [hc14]; decide) (by rw [hc14]; decide) (by rw [hc14]; rfl) 195 (by decide) ?_
    refine z_aload_n hX dX9_count_195 rfl 196 rfl ?_
    refine z_getF hX fX9_54 dX9_count_196 zs_0 (by decide) rfl 199 rfl ?_
    refine z_getI hX fX9_107 dX9_count_199 zs_85 (by decide) rfl 202 rfl ?_
    exact z_ireturn hX dX9_count_202 (zend_ip h)
  rw [if_neg hc14] at h
  have hout : (x1 : Int32).toInt < 0 ∨ 14 < (x1 : Int32).toInt := zsw_out (fun k h1 h2 => by
    have hk : k = 0 ∨ k = 1 ∨ k = 2 ∨ k = 3 ∨ k = 4 ∨ k = 5 ∨ k = 6 ∨ k = 7 ∨ k = 8 ∨ k = 9 ∨ k = 10 ∨ k = 11 ∨ k = 12 ∨ k = 13 ∨ k = 14 := by omega
    rcases hk with rfl | rfl | rfl | rfl | rfl | rfl | rfl | rfl | rfl | rfl | rfl | rfl | rfl | rfl | rfl
    · exact hc0
    · exact hc1
    · exact hc2
    · exact hc3
    · exact hc4
    · exact hc5
    · exact hc6
    · exact hc7
    · exact hc8
    · exact hc9
    · exact hc10
    · exact hc11
    · exact hc12
    · exact hc13
    · exact hc14)
  refine z_tabOut hX dX9_count_1 hout 203 (by decide) ?_
  refine z_iconst hX dX9_count_203 qi_m1 204 rfl ?_
  exact z_ireturn hX dX9_count_204 (zend_ip h)
def gX0_forgetFirst_L2  (rc2 : (Int32 × zM) → Option zM) (s : (Int32 × zM)) : Option zM :=
  (if 20 ≤ s.1 then zlet (zI s.2 85 0 19) (fun M1_ => some M1_)
  else zg (zok s.1 20) (zg (zok (s.1 - 1) 20) (zlet (zI s.2 86 ((s.1 - 1) : Int32).toNatClampNeg (s.2.1 86 (s.1 : Int32).toNatClampNeg)) (fun M5_ => zg (zok s.1 20) (zg (zok (s.1 - 1) 20) (zlet (zI M5_ 87 ((s.1 - 1) : Int32).toNatClampNeg (M5_.1 87 (s.1 : Int32).toNatClampNeg)) (fun M9_ => zg (zok s.1 20) (zg (zok (s.1 - 1) 20) (zlet (zI M9_ 88 ((s.1 - 1) : Int32).toNatClampNeg (M9_.1 88 (s.1 : Int32).toNatClampNeg)) (fun M13_ => rc2 ((s.1 + 1), M13_)))))))))))
set_option maxRecDepth 100000 in
set_option maxHeartbeats 2000000 in
theorem aX0_forgetFirst_L2 {G : zG} {X : zX} (hX : zC G X cX0_forgetFirst 2 RX0 none 1)    {res : zM}  : ∀ (N : Nat) (s : (Int32 × zM)), zfix N (gX0_forgetFirst_L2 ) s = some res → Z G X (zQv res) 2 [some (.ref 85), some (.int s.1)] [] s.2 := by
  intro N
  induction N with
  | zero => intro s h; cases h
  | succ N hrc2 =>
    intro s h
    replace h : gX0_forgetFirst_L2  (zfix N (gX0_forgetFirst_L2 )) s = some res := h
    unfold gX0_forgetFirst_L2 at h
    refine z_iload_n hX dX0_forgetFirst_2 rfl 3 rfl ?_
    refine z_bipush hX dX0_forgetFirst_3 qb_20 5 rfl ?_
    refine z_icmp_ge hX dX0_forgetFirst_5 56 8 (by decide) rfl (fun hc => ?_) (fun hc => ?_)
    · rw [if_pos hc] at h
      refine z_aload_n hX dX0_forgetFirst_56 rfl 57 rfl ?_
      refine z_bipush hX dX0_forgetFirst_57 qb_19 59 rfl ?_
      refine z_putI hX pX0_21 dX0_forgetFirst_59 zs_85 (by decide) rfl 62 rfl ?_
      refine z_mem h (fun M1_ h2_ => ?_)
      exact z_return hX dX0_forgetFirst_62 (zend_v h2_)
    · rw [if_neg hc] at h
      refine z_aload_n hX dX0_forgetFirst_8 rfl 9 rfl ?_
      refine z_getF hX fX0_9 dX0_forgetFirst_9 zs_85 (by decide) rfl 12 rfl ?_
      refine z_iload_n hX dX0_forgetFirst_12 rfl 13 rfl ?_
      refine z_iconst hX dX0_forgetFirst_13 qi_1 14 rfl ?_
      refine z_isub hX dX0_forgetFirst_14 15 rfl ?_
      refine z_aload_n hX dX0_forgetFirst_15 rfl 16 rfl ?_
      refine z_getF hX fX0_9 dX0_forgetFirst_16 zs_85 (by decide) rfl 19 rfl ?_
      refine z_iload_n hX dX0_forgetFirst_19 rfl 20 rfl ?_
      obtain ⟨hb, h3_⟩ := zgd h
      refine z_iald hX dX0_forgetFirst_20 zs_86 (zok_in hb) 21 rfl ?_
      obtain ⟨hb, h4_⟩ := zgd h3_
      refine z_iast hX dX0_forgetFirst_21 zs_86 (zok_in hb) 22 rfl ?_
      refine z_mem h4_ (fun M5_ h6_ => ?_)
      refine z_aload_n hX dX0_forgetFirst_22 rfl 23 rfl ?_
      refine z_getF hX fX0_15 dX0_forgetFirst_23 zs_85 (by decide) rfl 26 rfl ?_
      refine z_iload_n hX dX0_forgetFirst_26 rfl 27 rfl ?_
      refine z_iconst hX dX0_forgetFirst_27 qi_1 28 rfl ?_
      refine z_isub hX dX0_forgetFirst_28 29 rfl ?_
      refine z_aload_n hX dX0_forgetFirst_29 rfl 30 rfl ?_
      refine z_getF hX fX0_15 dX0_forgetFirst_30 zs_85 (by decide) rfl 33 rfl ?_
      refine z_iload_n hX dX0_forgetFirst_33 rfl 34 rfl ?_
      obtain ⟨hb, h7_⟩ := zgd h6_
      refine z_iald hX dX0_forgetFirst_34 zs_87 (zok_in hb) 35 rfl ?_
      obtain ⟨hb, h8_⟩ := zgd h7_
      refine z_iast hX dX0_forgetFirst_35 zs_87 (zok_in hb) 36 rfl ?_
      refine z_mem h8_ (fun M9_ h10_ => ?_)
      refine z_aload_n hX dX0_forgetFirst_36 rfl 37 rfl ?_
      refine z_getF hX fX0_18 dX0_forgetFirst_37 zs_85 (by decide) rfl 40 rfl ?_
      refine z_iload_n hX dX0_forgetFirst_40 rfl 41 rfl ?_
      refine z_iconst hX dX0_forgetFirst_41 qi_1 42 rfl ?_
      refine z_isub hX dX0_forgetFirst_42 43 rfl ?_
      refine z_aload_n hX dX0_forgetFirst_43 rfl 44 rfl ?_
      refine z_getF hX fX0_18 dX0_forgetFirst_44 zs_85 (by decide) rfl 47 rfl ?_
      refine z_iload_n hX dX0_forgetFirst_47 rfl 48 rfl ?_
      obtain ⟨hb, h11_⟩ := zgd h10_
      refine z_iald hX dX0_forgetFirst_48 zs_88 (zok_in hb) 49 rfl ?_
      obtain ⟨hb, h12_⟩ := zgd h11_
      refine z_iast hX dX0_forgetFirst_49 zs_88 (zok_in hb) 50 rfl ?_
      refine z_mem h12_ (fun M13_ h14_ => ?_)
      refine z_iinc (v := (s.1 + 1)) hX dX0_forgetFirst_50 rfl (by rfl) (by decide) 53 rfl ?_
      refine z_goto hX dX0_forgetFirst_53 2 (by decide) ?_
      refine z_mask [true, true] ?_
      have hz := hrc2 _ h14_
      exact hz
def gX0_forgetFirst (M : zM) : Option zM :=
  zfix zFu (gX0_forgetFirst_L2 ) (1, M)
set_option maxRecDepth 100000 in
set_option maxHeartbeats 2000000 in
theorem mX0_forgetFirst {G : zG}  {M : zM}  {res : zM} (h : gX0_forgetFirst M = some res) : Ct G 1 tX0_forgetFirst [.ref 85] M (zQv res) := by
  unfold gX0_forgetFirst at h
  refine Ct.of (y := yX0_forgetFirst) rfl plX0 (Nat.le_of_ble_eq_true rfl) (fun X hX => ?_)
  replace hX : zC G X cX0_forgetFirst 2 RX0 none 1 := hX
  show Z G X _ 0 [some (.ref 85), none] [] M
  refine z_iconst hX dX0_forgetFirst_0 qi_1 1 rfl ?_
  refine z_istore_n hX dX0_forgetFirst_1 (by decide) 2 rfl ?_
  refine z_mask [true, true] ?_
  have hz := aX0_forgetFirst_L2 hX _ _ h
  exact hz
def gX0_note_J13 (x1 : Int32) (x2 : Int32) (x3 : Int32) (M : zM) : Option zM :=
  (if (M.1 85 0) < 0 then some M
  else (if 20 ≤ (M.1 85 0) then some M
  else zg (zok (M.1 85 0) 20) (zlet (zI M 86 ((M.1 85 0) : Int32).toNatClampNeg x1) (fun M2_ => zg (zok (M2_.1 85 0) 20) (zlet (zI M2_ 87 ((M2_.1 85 0) : Int32).toNatClampNeg x2) (fun M5_ => zg (zok (M5_.1 85 0) 20) (zlet (zI M5_ 88 ((M5_.1 85 0) : Int32).toNatClampNeg x3) (fun M8_ => zlet (zI M8_ 85 0 ((M8_.1 85 0) + 1)) (fun M10_ => some M10_)))))))))
set_option maxRecDepth 100000 in
set_option maxHeartbeats 2000000 in
theorem aX0_note_J13 {G : zG} {X : zX} {x1 : Int32} {x2 : Int32} {x3 : Int32} (hX : zC G X cX0_note 4 RX0 none 2)   {M : zM} {res : zM}  (h : gX0_note_J13 x1 x2 x3 M = some res) : Z G X (zQv res) 13 [some (.ref 85), some (.int x1), some (.int x2), some (.int x3)] [] M := by
  unfold gX0_note_J13 at h
  refine z_aload_n hX dX0_note_13 rfl 14 rfl ?_
  refine z_getI hX fX0_21 dX0_note_14 zs_85 (by decide) rfl 17 rfl ?_
  refine z_if_lt hX dX0_note_17 69 20 (by decide) rfl (fun hc => ?_) (fun hc => ?_)
  · rw [if_pos hc] at h
    exact z_return hX dX0_note_69 (zend_v h)
  · rw [if_neg hc] at h
    refine z_aload_n hX dX0_note_20 rfl 21 rfl ?_
    refine z_getI hX fX0_21 dX0_note_21 zs_85 (by decide) rfl 24 rfl ?_
    refine z_bipush hX dX0_note_24 qb_20 26 rfl ?_
    refine z_icmp_ge hX dX0_note_26 69 29 (by decide) rfl (fun hc => ?_) (fun hc => ?_)
    · rw [if_pos hc] at h
      exact z_return hX dX0_note_69 (zend_v h)
    · rw [if_neg hc] at h
      refine z_aload_n hX dX0_note_29 rfl 30 rfl ?_
      refine z_getF hX fX0_9 dX0_note_30 zs_85 (by decide) rfl 33 rfl ?_
      refine z_aload_n hX dX0_note_33 rfl 34 rfl ?_
      refine z_getI hX fX0_21 dX0_note_34 zs_85 (by decide) rfl 37 rfl ?_
      refine z_iload_n hX dX0_note_37 rfl 38 rfl ?_
      obtain ⟨hb, h1_⟩ := zgd h
      refine z_iast hX dX0_note_38 zs_86 (zok_in hb) 39 rfl ?_
      refine z_mem h1_ (fun M2_ h3_ => ?_)
      refine z_aload_n hX dX0_note_39 rfl 40 rfl ?_
      refine z_getF hX fX0_15 dX0_note_40 zs_85 (by decide) rfl 43 rfl ?_
      refine z_aload_n hX dX0_note_43 rfl 44 rfl ?_
      refine z_getI hX fX0_21 dX0_note_44 zs_85 (by decide) rfl 47 rfl ?_
      refine z_iload_n hX dX0_note_47 rfl 48 rfl ?_
      obtain ⟨hb, h4_⟩ := zgd h3_
      refine z_iast hX dX0_note_48 zs_87 (zok_in hb) 49 rfl ?_
      refine z_mem h4_ (fun M5_ h6_ => ?_)
      refine z_aload_n hX dX0_note_49 rfl 50 rfl ?_
      refine z_getF hX fX0_18 dX0_note_50 zs_85 (by decide) rfl 53 rfl ?_
      refine z_aload_n hX dX0_note_53 rfl 54 rfl ?_
      refine z_getI hX fX0_21 dX0_note_54 zs_85 (by decide) rfl 57 rfl ?_
      refine z_iload_n hX dX0_note_57 rfl 58 rfl ?_
      obtain ⟨hb, h7_⟩ := zgd h6_
      refine z_iast hX dX0_note_58 zs_88 (zok_in hb) 59 rfl ?_
      refine z_mem h7_ (fun M8_ h9_ => ?_)
      refine z_aload_n hX dX0_note_59 rfl 60 rfl ?_
      refine z_dup hX dX0_note_60 rfl 61 rfl ?_
      refine z_getI hX fX0_21 dX0_note_61 zs_85 (by decide) rfl 64 rfl ?_
      refine z_iconst hX dX0_note_64 qi_1 65 rfl ?_
      refine z_iadd hX dX0_note_65 66 rfl ?_
      refine z_putI hX pX0_21 dX0_note_66 zs_85 (by decide) rfl 69 rfl ?_
      refine z_mem h9_ (fun M10_ h11_ => ?_)
      exact z_return hX dX0_note_69 (zend_v h11_)
def gX0_note (x1 : Int32) (x2 : Int32) (x3 : Int32) (M : zM) : Option zM :=
  (if (M.1 85 0) < 20 then gX0_note_J13 x1 x2 x3 M
  else zcV (gX0_forgetFirst M) (fun M12_ => gX0_note_J13 x1 x2 x3 M12_))
set_option maxRecDepth 100000 in
set_option maxHeartbeats 2000000 in
theorem mX0_note {G : zG} {x1 : Int32} {x2 : Int32} {x3 : Int32} {M : zM}  {res : zM} (h : gX0_note x1 x2 x3 M = some res) : Ct G 2 tX0_note [.ref 85, .int x1, .int x2, .int x3] M (zQv res) := by
  unfold gX0_note at h
  refine Ct.of (y := yX0_note) rfl plX0 (Nat.le_of_ble_eq_true rfl) (fun X hX => ?_)
  replace hX : zC G X cX0_note 4 RX0 none 2 := hX
  show Z G X _ 0 [some (.ref 85), some (.int x1), some (.int x2), some (.int x3)] [] M
  refine z_aload_n hX dX0_note_0 rfl 1 rfl ?_
  refine z_getI hX fX0_21 dX0_note_1 zs_85 (by decide) rfl 4 rfl ?_
  refine z_bipush hX dX0_note_4 qb_20 6 rfl ?_
  refine z_icmp_lt hX dX0_note_6 13 9 (by decide) rfl (fun hc => ?_) (fun hc => ?_)
  · rw [if_pos hc] at h
    refine z_mask [true, true, true, true] ?_
    have hz := aX0_note_J13 hX h
    exact hz
  · rw [if_neg hc] at h
    refine z_aload_n hX dX0_note_9 rfl 10 rfl ?_
    obtain ⟨M12_, hq, h13_⟩ := zcV_of h
    refine z_callV hX vX0_forgetFirst lX0_25 dX0_note_10 zs_85 rfl (mX0_forgetFirst  hq) (by decide) rfl rfl (Nat.le_of_ble_eq_true rfl) 13 rfl (Qv.to (fun M' hv => ?_))
    subst hv
    refine z_mask [true, true, true, true] ?_
    have hz := aX0_note_J13 hX h13_
    exact hz
def gX9_pay (x1 : Int32) (x2 : Int32) (M : zM) : Option (Int32 × zM) :=
  zcI (gX9_isMan x1 M) (fun v1_ => (if v1_ = 0 then some ((-1), M)
  else (if x2 < 1 then some ((-1), M)
  else (if x2 ≤ 99 then (if x2 ≤ (M.1 55 12) then zlet (zI M 55 12 ((M.1 55 12) - x2)) (fun M3_ => zg (zok x1 6) (zg (zok x1 6) (zlet (zI M3_ 58 (x1 : Int32).toNatClampNeg ((M3_.1 58 (x1 : Int32).toNatClampNeg) + x2)) (fun M7_ => zcV (gX0_note 0 x1 x2 M7_) (fun M9_ => some ((M9_.1 55 12), M9_))))))
  else some ((-2), M))
  else some ((-1), M)))))
set_option maxRecDepth 100000 in
set_option maxHeartbeats 2000000 in
theorem mX9_pay {G : zG} {x1 : Int32} {x2 : Int32} {M : zM}  {res : (Int32 × zM)} (h : gX9_pay x1 x2 M = some res) : Ct G 3 tX9_pay [.ref 0, .int x1, .int x2] M (zQi res) := by
  unfold gX9_pay at h
  refine Ct.of (y := yX9_pay) rfl plX9 (Nat.le_of_ble_eq_true rfl) (fun X hX => ?_)
  replace hX : zC G X cX9_pay 3 RX9 (some .int) 3 := hX
  show Z G X _ 0 [some (.ref 0), some (.int x1), some (.int x2)] [] M
  refine z_aload_n hX dX9_pay_0 rfl 1 rfl ?_
  refine z_iload_n hX dX9_pay_1 rfl 2 rfl ?_
  obtain ⟨v1_, hq, h2_⟩ := zcI_of h
  refine z_callV hX vX9_isMan lX9_129 dX9_pay_2 zs_0 rfl (mX9_isMan  hq) (by decide) rfl rfl (Nat.le_of_ble_eq_true rfl) 5 rfl (Qi.to (fun v' M' hv => ?_))
  obtain ⟨rfl, rfl⟩ := hv
  refine z_if_eq hX dX9_pay_5 19 8 (by decide) rfl (fun hc => ?_) (fun hc => ?_)
  · rw [if_pos hc] at h2_
    refine z_iconst hX dX9_pay_19 qi_m1 20 rfl ?_
    exact z_ireturn hX dX9_pay_20 (zend_i h2_)
  · rw [if_neg hc] at h2_
    refine z_iload_n hX dX9_pay_8 rfl 9 rfl ?_
    refine z_iconst hX dX9_pay_9 qi_1 10 rfl ?_
    refine z_icmp_lt hX dX9_pay_10 19 13 (by decide) rfl (fun hc => ?_) (fun hc => ?_)
    · rw [if_pos hc] at h2_
      refine z_iconst hX dX9_pay_19 qi_m1 20 rfl ?_
      exact z_ireturn hX dX9_pay_20 (zend_i h2_)
    · rw [if_neg hc] at h2_
      refine z_iload_n hX dX9_pay_13 rfl 14 rfl ?_
      refine z_bipush hX dX9_pay_14 qb_99 16 rfl ?_
      refine z_icmp_le hX dX9_pay_16 21 19 (by decide) rfl (fun hc => ?_) (fun hc => ?_)
      · rw [if_pos hc] at h2_
        refine z_aload_n hX dX9_pay_21 rfl 22 rfl ?_
        refine z_getF hX fX9_41 dX9_pay_22 zs_0 (by decide) rfl 25 rfl ?_
        refine z_getI hX fX9_227 dX9_pay_25 zs_55 (by decide) rfl 28 rfl ?_
        refine z_iload_n hX dX9_pay_28 rfl 29 rfl ?_
        refine z_icmp_ge hX dX9_pay_29 35 32 (by decide) rfl (fun hc => ?_) (fun hc => ?_)
        · rw [if_pos hc] at h2_
          refine z_aload_n hX dX9_pay_35 rfl 36 rfl ?_
          refine z_getF hX fX9_41 dX9_pay_36 zs_0 (by decide) rfl 39 rfl ?_
          refine z_dup hX dX9_pay_39 rfl 40 rfl ?_
          refine z_getI hX fX9_227 dX9_pay_40 zs_55 (by decide) rfl 43 rfl ?_
          refine z_iload_n hX dX9_pay_43 rfl 44 rfl ?_
          refine z_isub hX dX9_pay_44 45 rfl ?_
          refine z_putI hX pX9_227 dX9_pay_45 zs_55 (by decide) rfl 48 rfl ?_
          refine z_mem h2_ (fun M3_ h4_ => ?_)
          refine z_aload_n hX dX9_pay_48 rfl 49 rfl ?_
          refine z_getF hX fX9_41 dX9_pay_49 zs_0 (by decide) rfl 52 rfl ?_
          refine z_getF hX fX9_149 dX9_pay_52 zs_55 (by decide) rfl 55 rfl ?_
          refine z_iload_n hX dX9_pay_55 rfl 56 rfl ?_
          refine z_dup2 hX dX9_pay_56 rfl rfl 57 rfl ?_
          obtain ⟨hb, h5_⟩ := zgd h4_
          refine z_iald hX dX9_pay_57 zs_58 (zok_in hb) 58 rfl ?_
          refine z_iload_n hX dX9_pay_58 rfl 59 rfl ?_
          refine z_iadd hX dX9_pay_59 60 rfl ?_
          obtain ⟨hb, h6_⟩ := zgd h5_
          refine z_iast hX dX9_pay_60 zs_58 (zok_in hb) 61 rfl ?_
          refine z_mem h6_ (fun M7_ h8_ => ?_)
          refine z_aload_n hX dX9_pay_61 rfl 62 rfl ?_
          refine z_getF hX fX9_54 dX9_pay_62 zs_0 (by decide) rfl 65 rfl ?_
          refine z_iconst hX dX9_pay_65 qi_0 66 rfl ?_
          refine z_iload_n hX dX9_pay_66 rfl 67 rfl ?_
          refine z_iload_n hX dX9_pay_67 rfl 68 rfl ?_
          obtain ⟨M9_, hq, h10_⟩ := zcV_of h8_
          refine z_callV hX vX0_note lX9_240 dX9_pay_68 zs_85 rfl (mX0_note  hq) (by decide) rfl rfl (Nat.le_of_ble_eq_true rfl) 71 rfl (Qv.to (fun M' hv => ?_))
          subst hv
          refine z_aload_n hX dX9_pay_71 rfl 72 rfl ?_
          refine z_getF hX fX9_41 dX9_pay_72 zs_0 (by decide) rfl 75 rfl ?_
          refine z_getI hX fX9_227 dX9_pay_75 zs_55 (by decide) rfl 78 rfl ?_
          exact z_ireturn hX dX9_pay_78 (zend_i h10_)
        · rw [if_neg hc] at h2_
          refine z_bipush hX dX9_pay_32 qb_m2 34 rfl ?_
          exact z_ireturn hX dX9_pay_34 (zend_i h2_)
      · rw [if_neg hc] at h2_
        refine z_iconst hX dX9_pay_19 qi_m1 20 rfl ?_
        exact z_ireturn hX dX9_pay_20 (zend_i h2_)
def gX9_areTwo (x1 : Int32) (x2 : Int32) (M : zM) : Option Int32 :=
  zcI (gX9_isMan x1 M) (fun v1_ => (if v1_ = 0 then some 0
  else zcI (gX9_isMan x2 M) (fun v3_ => (if v3_ = 0 then some 0
  else (if x1 = x2 then some 0
  else some 1)))))
set_option maxRecDepth 100000 in
set_option maxHeartbeats 2000000 in
theorem mX9_areTwo {G : zG} {x1 : Int32} {x2 : Int32} {M : zM}  {res : Int32} (h : gX9_areTwo x1 x2 M = some res) : Ct G 2 tX9_areTwo [.ref 0, .int x1, .int x2] M (zQip M res) := by
  unfold gX9_areTwo at h
  refine Ct.of (y := yX9_areTwo) rfl plX9 (Nat.le_of_ble_eq_true rfl) (fun X hX => ?_)
  replace hX : zC G X cX9_areTwo 3 RX9 (some .boolean) 2 := hX
  show Z G X _ 0 [some (.ref 0), some (.int x1), some (.int x2)] [] M
  refine z_aload_n hX dX9_areTwo_0 rfl 1 rfl ?_
  refine z_iload_n hX dX9_areTwo_1 rfl 2 rfl ?_
  obtain ⟨v1_, hq, h2_⟩ := zcI_of h
  refine z_callV hX vX9_isMan lX9_129 dX9_areTwo_2 zs_0 rfl (mX9_isMan  hq) (by decide) rfl rfl (Nat.le_of_ble_eq_true rfl) 5 rfl (Qi.to (fun v' M' hv => ?_))
  obtain ⟨rfl, rfl⟩ := hv
  refine z_if_eq hX dX9_areTwo_5 25 8 (by decide) rfl (fun hc => ?_) (fun hc => ?_)
  · rw [if_pos hc] at h2_
    refine z_iconst hX dX9_areTwo_25 qi_0 26 rfl ?_
    exact z_zreturn hX dX9_areTwo_26 (by decide) (zend_ip h2_)
  · rw [if_neg hc] at h2_
    refine z_aload_n hX dX9_areTwo_8 rfl 9 rfl ?_
    refine z_iload_n hX dX9_areTwo_9 rfl 10 rfl ?_
    obtain ⟨v3_, hq, h4_⟩ := zcI_of h2_
    refine z_callV hX vX9_isMan lX9_129 dX9_areTwo_10 zs_0 rfl (mX9_isMan  hq) (by decide) rfl rfl (Nat.le_of_ble_eq_true rfl) 13 rfl (Qi.to (fun v' M' hv => ?_))
    obtain ⟨rfl, rfl⟩ := hv
    refine z_if_eq hX dX9_areTwo_13 25 16 (by decide) rfl (fun hc => ?_) (fun hc => ?_)
    · rw [if_pos hc] at h4_
      refine z_iconst hX dX9_areTwo_25 qi_0 26 rfl ?_
      exact z_zreturn hX dX9_areTwo_26 (by decide) (zend_ip h4_)
    · rw [if_neg hc] at h4_
      refine z_iload_n hX dX9_areTwo_16 rfl 17 rfl ?_
      refine z_iload_n hX dX9_areTwo_17 rfl 18 rfl ?_
      refine z_icmp_eq hX dX9_areTwo_18 25 21 (by decide) rfl (fun hc => ?_) (fun hc => ?_)
      · rw [if_pos hc] at h4_
        refine z_iconst hX dX9_areTwo_25 qi_0 26 rfl ?_
        exact z_zreturn hX dX9_areTwo_26 (by decide) (zend_ip h4_)
      · rw [if_neg hc] at h4_
        refine z_iconst hX dX9_areTwo_21 qi_1 22 rfl ?_
        refine z_goto hX dX9_areTwo_22 26 (by decide) ?_
        exact z_zreturn hX dX9_areTwo_26 (by decide) (zend_ip h4_)
def gX8_placeOf (w : Nat) (x1 : Int32) (M : zM) : Option Int32 :=
  zgP (M.2.2 w 0) (fun p1_ => zcI (gX9_find (w + 1) 6 (M.1 p1_ 0) x1 M) (fun v3_ => some v3_))
set_option maxRecDepth 100000 in
set_option maxHeartbeats 2000000 in
theorem mX8_placeOf {G : zG} {w : Nat} {x1 : Int32} {M : zM} (hw : isW w) {res : Int32} (h : gX8_placeOf w x1 M = some res) : Ct G 2 tX8_placeOf [.ref w, .int x1] M (zQip M res) := by
  unfold gX8_placeOf at h
  refine Ct.of (y := yX8_placeOf) rfl plX8 (Nat.le_of_ble_eq_true rfl) (fun X hX => ?_)
  replace hX : zC G X cX8_placeOf 2 RX8 (some .int) 2 := hX
  show Z G X _ 0 [some (.ref w), some (.int x1)] [] M
  refine z_aload_n hX dX8_placeOf_0 rfl 1 rfl ?_
  refine z_getF hX fX8_9 dX8_placeOf_1 (zsW0 hw) (by decide) rfl 4 rfl ?_
  refine z_aload_n hX dX8_placeOf_4 rfl 5 rfl ?_
  obtain ⟨p1_, hm, hp1_, h2_⟩ := zgP_of h
  refine z_getR hX fX8_40 dX8_placeOf_5 (zsW0 hw) (by decide) rfl hm 8 rfl ?_
  refine z_getI hX fX8_83 dX8_placeOf_8 (zsP0 hp1_) (by decide) rfl 11 rfl ?_
  refine z_iload_n hX dX8_placeOf_11 rfl 12 rfl ?_
  obtain ⟨v3_, hq, h4_⟩ := zcI_of h2_
  refine z_callSN (host := "ColdFeet") hX vX9_find (by decide +kernel) dX8_placeOf_12 (mX9_find (zsW1 hw) (by decide) hq) (by decide) rfl rfl (Nat.le_of_ble_eq_true rfl) 15 rfl (Qi.to (fun v' M' hv => ?_))
  obtain ⟨rfl, rfl⟩ := hv
  exact z_ireturn hX dX8_placeOf_15 (zend_ip h4_)
def gX8_changePlaces (w : Nat) (x1 : Int32) (x2 : Int32) (M : zM) : Option zM :=
  zcI (gX8_placeOf w x1 M) (fun v1_ => zcI (gX8_placeOf w x2 M) (fun v3_ => (if v1_ < 0 then some M
  else (if v3_ < 0 then some M
  else zg (zok v1_ 6) (zlet (zI M (w + 1) (v1_ : Int32).toNatClampNeg x2) (fun M6_ => zg (zok v3_ 6) (zlet (zI M6_ (w + 1) (v3_ : Int32).toNatClampNeg x1) (fun M9_ => some M9_))))))))
set_option maxRecDepth 100000 in
set_option maxHeartbeats 2000000 in
theorem mX8_changePlaces {G : zG} {w : Nat} {x1 : Int32} {x2 : Int32} {M : zM} (hw : isW w) {res : zM} (h : gX8_changePlaces w x1 x2 M = some res) : Ct G 3 tX8_changePlaces [.ref w, .int x1, .int x2] M (zQv res) := by
  unfold gX8_changePlaces at h
  refine Ct.of (y := yX8_changePlaces) rfl plX8 (Nat.le_of_ble_eq_true rfl) (fun X hX => ?_)
  replace hX : zC G X cX8_changePlaces 5 RX8 none 3 := hX
  show Z G X _ 0 [some (.ref w), some (.int x1), some (.int x2), none, none] [] M
  refine z_aload_n hX dX8_changePlaces_0 rfl 1 rfl ?_
  refine z_iload_n hX dX8_changePlaces_1 rfl 2 rfl ?_
  obtain ⟨v1_, hq, h2_⟩ := zcI_of h
  refine z_callV hX vX8_placeOf lX8_93 dX8_changePlaces_2 (zsW0 hw) rfl (mX8_placeOf hw hq) (by decide) rfl rfl (Nat.le_of_ble_eq_true rfl) 5 rfl (Qi.to (fun v' M' hv => ?_))
  obtain ⟨rfl, rfl⟩ := hv
  refine z_istore_n hX dX8_changePlaces_5 (by decide) 6 rfl ?_
  refine z_aload_n hX dX8_changePlaces_6 rfl 7 rfl ?_
  refine z_iload_n hX dX8_changePlaces_7 rfl 8 rfl ?_
  obtain ⟨v3_, hq, h4_⟩ := zcI_of h2_
  refine z_callV hX vX8_placeOf lX8_93 dX8_changePlaces_8 (zsW0 hw) rfl (mX8_placeOf hw hq) (by decide) rfl rfl (Nat.le_of_ble_eq_true rfl) 11 rfl (Qi.to (fun v' M' hv => ?_))
  obtain ⟨rfl, rfl⟩ := hv
  refine z_istore hX dX8_changePlaces_11 (by decide) 13 rfl ?_
  refine z_iload_n hX dX8_changePlaces_13 rfl 14 rfl ?_
  refine z_if_lt hX dX8_changePlaces_14 37 17 (by decide) rfl (fun hc => ?_) (fun hc => ?_)
  · rw [if_pos hc] at h4_
    exact z_return hX dX8_changePlaces_37 (zend_v h4_)
  · rw [if_neg hc] at h4_
    refine z_iload hX dX8_changePlaces_17 rfl 19 rfl ?_
    refine z_if_lt hX dX8_changePlaces_19 37 22 (by decide) rfl (fun hc => ?_) (fun hc => ?_)
    · rw [if_pos hc] at h4_
      exact z_return hX dX8_changePlaces_37 (zend_v h4_)
    · rw [if_neg hc] at h4_
      refine z_aload_n hX dX8_changePlaces_22 rfl 23 rfl ?_
      refine z_getF hX fX8_9 dX8_changePlaces_23 (zsW0 hw) (by decide) rfl 26 rfl ?_
      refine z_iload_n hX dX8_changePlaces_26 rfl 27 rfl ?_
      refine z_iload_n hX dX8_changePlaces_27 rfl 28 rfl ?_
      obtain ⟨hb, h5_⟩ := zgd h4_
      refine z_iast hX dX8_changePlaces_28 (zsW1 hw) (zok_in hb) 29 rfl ?_
      refine z_mem h5_ (fun M6_ h7_ => ?_)
      refine z_aload_n hX dX8_changePlaces_29 rfl 30 rfl ?_
      refine z_getF hX fX8_9 dX8_changePlaces_30 (zsW0 hw) (by decide) rfl 33 rfl ?_
      refine z_iload hX dX8_changePlaces_33 rfl 35 rfl ?_
      refine z_iload_n hX dX8_changePlaces_35 rfl 36 rfl ?_
      obtain ⟨hb, h8_⟩ := zgd h7_
      refine z_iast hX dX8_changePlaces_36 (zsW1 hw) (zok_in hb) 37 rfl ?_
      refine z_mem h8_ (fun M9_ h10_ => ?_)
      exact z_return hX dX8_changePlaces_37 (zend_v h10_)
def gX9_swap (x1 : Int32) (x2 : Int32) (M : zM) : Option (Int32 × zM) :=
  zcI (gX9_areTwo x1 x2 M) (fun v1_ => (if v1_ = 0 then some (0, M)
  else zcV (gX8_changePlaces 55 x1 x2 M) (fun M3_ => zcV (gX0_note 1 x1 x2 M3_) (fun M5_ => some (1, M5_)))))
set_option maxRecDepth 100000 in
set_option maxHeartbeats 2000000 in
theorem mX9_swap {G : zG} {x1 : Int32} {x2 : Int32} {M : zM}  {res : (Int32 × zM)} (h : gX9_swap x1 x2 M = some res) : Ct G 4 tX9_swap [.ref 0, .int x1, .int x2] M (zQi res) := by
  unfold gX9_swap at h
  refine Ct.of (y := yX9_swap) rfl plX9 (Nat.le_of_ble_eq_true rfl) (fun X hX => ?_)
  replace hX : zC G X cX9_swap 3 RX9 (some .boolean) 4 := hX
  show Z G X _ 0 [some (.ref 0), some (.int x1), some (.int x2)] [] M
  refine z_aload_n hX dX9_swap_0 rfl 1 rfl ?_
  refine z_iload_n hX dX9_swap_1 rfl 2 rfl ?_
  refine z_iload_n hX dX9_swap_2 rfl 3 rfl ?_
  obtain ⟨v1_, hq, h2_⟩ := zcI_of h
  refine z_callV hX vX9_areTwo lX9_243 dX9_swap_3 zs_0 rfl (mX9_areTwo  hq) (by decide) rfl rfl (Nat.le_of_ble_eq_true rfl) 6 rfl (Qi.to (fun v' M' hv => ?_))
  obtain ⟨rfl, rfl⟩ := hv
  refine z_if_ne hX dX9_swap_6 11 9 (by decide) rfl (fun hc => ?_) (fun hc => ?_)
  · rw [if_neg hc] at h2_
    refine z_aload_n hX dX9_swap_11 rfl 12 rfl ?_
    refine z_getF hX fX9_41 dX9_swap_12 zs_0 (by decide) rfl 15 rfl ?_
    refine z_iload_n hX dX9_swap_15 rfl 16 rfl ?_
    refine z_iload_n hX dX9_swap_16 rfl 17 rfl ?_
    obtain ⟨M3_, hq, h4_⟩ := zcV_of h2_
    refine z_callV hX vX8_changePlaces lX9_247 dX9_swap_17 zs_55 rfl (mX8_changePlaces isW_55 hq) (by decide) rfl rfl (Nat.le_of_ble_eq_true rfl) 20 rfl (Qv.to (fun M' hv => ?_))
    subst hv
    refine z_aload_n hX dX9_swap_20 rfl 21 rfl ?_
    refine z_getF hX fX9_54 dX9_swap_21 zs_0 (by decide) rfl 24 rfl ?_
    refine z_iconst hX dX9_swap_24 qi_1 25 rfl ?_
    refine z_iload_n hX dX9_swap_25 rfl 26 rfl ?_
    refine z_iload_n hX dX9_swap_26 rfl 27 rfl ?_
    obtain ⟨M5_, hq, h6_⟩ := zcV_of h4_
    refine z_callV hX vX0_note lX9_240 dX9_swap_27 zs_85 rfl (mX0_note  hq) (by decide) rfl rfl (Nat.le_of_ble_eq_true rfl) 30 rfl (Qv.to (fun M' hv => ?_))
    subst hv
    refine z_iconst hX dX9_swap_30 qi_1 31 rfl ?_
    exact z_zreturn hX dX9_swap_31 (by decide) (zend_i h6_)
  · rw [if_pos hc] at h2_
    refine z_iconst hX dX9_swap_9 qi_0 10 rfl ?_
    exact z_zreturn hX dX9_swap_10 (by decide) (zend_i h2_)
def gX9_hold (x1 : Int32) (x2 : Int32) (M : zM) : Option (Int32 × zM) :=
  zcI (gX9_isMan x1 M) (fun v1_ => (if v1_ = 0 then some (0, M)
  else zg (zok x1 6) ((if (M.1 62 (x1 : Int32).toNatClampNeg) = x2 then some (0, M)
  else zg (zok x1 6) (zlet (zI M 62 (x1 : Int32).toNatClampNeg (vp_nar .boolean x2)) (fun M5_ => zcV (gX0_note 2 x1 0 M5_) (fun M7_ => some (1, M7_))))))))
set_option maxRecDepth 100000 in
set_option maxHeartbeats 2000000 in
theorem mX9_hold {G : zG} {x1 : Int32} {x2 : Int32} {M : zM}  {res : (Int32 × zM)} (h : gX9_hold x1 x2 M = some res) : Ct G 3 tX9_hold [.ref 0, .int x1, .int x2] M (zQi res) := by
  unfold gX9_hold at h
  refine Ct.of (y := yX9_hold) rfl plX9 (Nat.le_of_ble_eq_true rfl) (fun X hX => ?_)
  replace hX : zC G X cX9_hold 3 RX9 (some .boolean) 3 := hX
  show Z G X _ 0 [some (.ref 0), some (.int x1), some (.int x2)] [] M
  refine z_aload_n hX dX9_hold_0 rfl 1 rfl ?_
  refine z_iload_n hX dX9_hold_1 rfl 2 rfl ?_
  obtain ⟨v1_, hq, h2_⟩ := zcI_of h
  refine z_callV hX vX9_isMan lX9_129 dX9_hold_2 zs_0 rfl (mX9_isMan  hq) (by decide) rfl rfl (Nat.le_of_ble_eq_true rfl) 5 rfl (Qi.to (fun v' M' hv => ?_))
  obtain ⟨rfl, rfl⟩ := hv
  refine z_if_eq hX dX9_hold_5 21 8 (by decide) rfl (fun hc => ?_) (fun hc => ?_)
  · rw [if_pos hc] at h2_
    refine z_iconst hX dX9_hold_21 qi_0 22 rfl ?_
    exact z_zreturn hX dX9_hold_22 (by decide) (zend_i h2_)
  · rw [if_neg hc] at h2_
    refine z_aload_n hX dX9_hold_8 rfl 9 rfl ?_
    refine z_getF hX fX9_41 dX9_hold_9 zs_0 (by decide) rfl 12 rfl ?_
    refine z_getF hX fX9_165 dX9_hold_12 zs_55 (by decide) rfl 15 rfl ?_
    refine z_iload_n hX dX9_hold_15 rfl 16 rfl ?_
    obtain ⟨hb, h3_⟩ := zgd h2_
    refine z_zald hX dX9_hold_16 zs_62 (zok_in hb) 17 rfl ?_
    refine z_iload_n hX dX9_hold_17 rfl 18 rfl ?_
    refine z_icmp_ne hX dX9_hold_18 23 21 (by decide) rfl (fun hc => ?_) (fun hc => ?_)
    · rw [if_neg hc] at h3_
      refine z_aload_n hX dX9_hold_23 rfl 24 rfl ?_
      refine z_getF hX fX9_41 dX9_hold_24 zs_0 (by decide) rfl 27 rfl ?_
      refine z_getF hX fX9_165 dX9_hold_27 zs_55 (by decide) rfl 30 rfl ?_
      refine z_iload_n hX dX9_hold_30 rfl 31 rfl ?_
      refine z_iload_n hX dX9_hold_31 rfl 32 rfl ?_
      obtain ⟨hb, h4_⟩ := zgd h3_
      refine z_zast hX dX9_hold_32 zs_62 (zok_in hb) 33 rfl ?_
      refine z_mem h4_ (fun M5_ h6_ => ?_)
      refine z_aload_n hX dX9_hold_33 rfl 34 rfl ?_
      refine z_getF hX fX9_54 dX9_hold_34 zs_0 (by decide) rfl 37 rfl ?_
      refine z_iconst hX dX9_hold_37 qi_2 38 rfl ?_
      refine z_iload_n hX dX9_hold_38 rfl 39 rfl ?_
      refine z_iconst hX dX9_hold_39 qi_0 40 rfl ?_
      obtain ⟨M7_, hq, h8_⟩ := zcV_of h6_
      refine z_callV hX vX0_note lX9_240 dX9_hold_40 zs_85 rfl (mX0_note  hq) (by decide) rfl rfl (Nat.le_of_ble_eq_true rfl) 43 rfl (Qv.to (fun M' hv => ?_))
      subst hv
      refine z_iconst hX dX9_hold_43 qi_1 44 rfl ?_
      exact z_zreturn hX dX9_hold_44 (by decide) (zend_i h8_)
    · rw [if_pos hc] at h3_
      refine z_iconst hX dX9_hold_21 qi_0 22 rfl ?_
      exact z_zreturn hX dX9_hold_22 (by decide) (zend_i h3_)
def gX9_wet (x1 : Int32) (x2 : Int32) (M : zM) : Option (Int32 × zM) :=
  zcI (gX9_isThing x1 M) (fun v1_ => (if v1_ = 0 then some ((-1), M)
  else (if x2 < 1 then some ((-1), M)
  else (if 20 < x2 then some ((-1), M)
  else zg (zok x1 8) ((if (M.1 63 (x1 : Int32).toNatClampNeg) = 0 then zg (zok x1 8) (zcV (gX0_note 3 x1 (M.1 64 (x1 : Int32).toNatClampNeg) M) (fun M5_ => zg (zok x1 8) (zg (zok x1 8) (zlet (zI M5_ 64 (x1 : Int32).toNatClampNeg (if ((M5_.1 64 (x1 : Int32).toNatClampNeg) + x2) < 999 then ((M5_.1 64 (x1 : Int32).toNatClampNeg) + x2) else 999)) (fun M9_ => zg (zok x1 8) (some ((M9_.1 64 (x1 : Int32).toNatClampNeg), M9_)))))))
  else some ((-1), M)))))))
set_option maxRecDepth 100000 in
set_option maxHeartbeats 2000000 in
theorem mX9_wet {G : zG} {x1 : Int32} {x2 : Int32} {M : zM}  {res : (Int32 × zM)} (h : gX9_wet x1 x2 M = some res) : Ct G 3 tX9_wet [.ref 0, .int x1, .int x2] M (zQi res) := by
  unfold gX9_wet at h
  refine Ct.of (y := yX9_wet) rfl plX9 (Nat.le_of_ble_eq_true rfl) (fun X hX => ?_)
  replace hX : zC G X cX9_wet 3 RX9 (some .int) 3 := hX
  show Z G X _ 0 [some (.ref 0), some (.int x1), some (.int x2)] [] M
  refine z_aload_n hX dX9_wet_0 rfl 1 rfl ?_
  refine z_iload_n hX dX9_wet_1 rfl 2 rfl ?_
  obtain ⟨v1_, hq, h2_⟩ := zcI_of h
  refine z_callV hX vX9_isThing lX9_174 dX9_wet_2 zs_0 rfl (mX9_isThing  hq) (by decide) rfl rfl (Nat.le_of_ble_eq_true rfl) 5 rfl (Qi.to (fun v' M' hv => ?_))
  obtain ⟨rfl, rfl⟩ := hv
  refine z_if_eq hX dX9_wet_5 31 8 (by decide) rfl (fun hc => ?_) (fun hc => ?_)
  · rw [if_pos hc] at h2_
    refine z_iconst hX dX9_wet_31 qi_m1 32 rfl ?_
    exact z_ireturn hX dX9_wet_32 (zend_i h2_)
  · rw [if_neg hc] at h2_
    refine z_iload_n hX dX9_wet_8 rfl 9 rfl ?_
    refine z_iconst hX dX9_wet_9 qi_1 10 rfl ?_
    refine z_icmp_lt hX dX9_wet_10 31 13 (by decide) rfl (fun hc => ?_) (fun hc => ?_)
    · rw [if_pos hc] at h2_
      refine z_iconst hX dX9_wet_31 qi_m1 32 rfl ?_
      exact z_ireturn hX dX9_wet_32 (zend_i h2_)
    · rw [if_neg hc] at h2_
      refine z_iload_n hX dX9_wet_13 rfl 14 rfl ?_
      refine z_bipush hX dX9_wet_14 qb_20 16 rfl ?_
      refine z_icmp_gt hX dX9_wet_16 31 19 (by decide) rfl (fun hc => ?_) (fun hc => ?_)
      · rw [if_pos hc] at h2_
        refine z_iconst hX dX9_wet_31 qi_m1 32 rfl ?_
        exact z_ireturn hX dX9_wet_32 (zend_i h2_)
      · rw [if_neg hc] at h2_
        refine z_aload_n hX dX9_wet_19 rfl 20 rfl ?_
        refine z_getF hX fX9_41 dX9_wet_20 zs_0 (by decide) rfl 23 rfl ?_
        refine z_getF hX fX9_186 dX9_wet_23 zs_55 (by decide) rfl 26 rfl ?_
        refine z_iload_n hX dX9_wet_26 rfl 27 rfl ?_
        obtain ⟨hb, h3_⟩ := zgd h2_
        refine z_iald hX dX9_wet_27 zs_63 (zok_in hb) 28 rfl ?_
        refine z_if_eq hX dX9_wet_28 33 31 (by decide) rfl (fun hc => ?_) (fun hc => ?_)
        · rw [if_pos hc] at h3_
          refine z_aload_n hX dX9_wet_33 rfl 34 rfl ?_
          refine z_getF hX fX9_54 dX9_wet_34 zs_0 (by decide) rfl 37 rfl ?_
          refine z_iconst hX dX9_wet_37 qi_3 38 rfl ?_
          refine z_iload_n hX dX9_wet_38 rfl 39 rfl ?_
          refine z_aload_n hX dX9_wet_39 rfl 40 rfl ?_
          refine z_getF hX fX9_41 dX9_wet_40 zs_0 (by decide) rfl 43 rfl ?_
          refine z_getF hX fX9_183 dX9_wet_43 zs_55 (by decide) rfl 46 rfl ?_
          refine z_iload_n hX dX9_wet_46 rfl 47 rfl ?_
          obtain ⟨hb, h4_⟩ := zgd h3_
          refine z_iald hX dX9_wet_47 zs_64 (zok_in hb) 48 rfl ?_
          obtain ⟨M5_, hq, h6_⟩ := zcV_of h4_
          refine z_callV hX vX0_note lX9_240 dX9_wet_48 zs_85 rfl (mX0_note  hq) (by decide) rfl rfl (Nat.le_of_ble_eq_true rfl) 51 rfl (Qv.to (fun M' hv => ?_))
          subst hv
          refine z_aload_n hX dX9_wet_51 rfl 52 rfl ?_
          refine z_getF hX fX9_41 dX9_wet_52 zs_0 (by decide) rfl 55 rfl ?_
          refine z_getF hX fX9_183 dX9_wet_55 zs_55 (by decide) rfl 58 rfl ?_
          refine z_iload_n hX dX9_wet_58 rfl 59 rfl ?_
          refine z_sipush hX dX9_wet_59 qs_999 62 rfl ?_
          refine z_aload_n hX dX9_wet_62 rfl 63 rfl ?_
          refine z_getF hX fX9_41 dX9_wet_63 zs_0 (by decide) rfl 66 rfl ?_
          refine z_getF hX fX9_183 dX9_wet_66 zs_55 (by decide) rfl 69 rfl ?_
          refine z_iload_n hX dX9_wet_69 rfl 70 rfl ?_
          obtain ⟨hb, h7_⟩ := zgd h6_
          refine z_iald hX dX9_wet_70 zs_64 (zok_in hb) 71 rfl ?_
          refine z_iload_n hX dX9_wet_71 rfl 72 rfl ?_
          refine z_iadd hX dX9_wet_72 73 rfl ?_
          refine z_min hX dX9_wet_73 lX9_250 (by decide) (Nat.le_of_ble_eq_true rfl) 76 rfl ?_
          obtain ⟨hb, h8_⟩ := zgd h7_
          refine z_iast hX dX9_wet_76 zs_64 (zok_in hb) 77 rfl ?_
          refine z_mem h8_ (fun M9_ h10_ => ?_)
          refine z_aload_n hX dX9_wet_77 rfl 78 rfl ?_
          refine z_getF hX fX9_41 dX9_wet_78 zs_0 (by decide) rfl 81 rfl ?_
          refine z_getF hX fX9_183 dX9_wet_81 zs_55 (by decide) rfl 84 rfl ?_
          refine z_iload_n hX dX9_wet_84 rfl 85 rfl ?_
          obtain ⟨hb, h11_⟩ := zgd h10_
          refine z_iald hX dX9_wet_85 zs_64 (zok_in hb) 86 rfl ?_
          exact z_ireturn hX dX9_wet_86 (zend_i h11_)
        · rw [if_neg hc] at h3_
          refine z_iconst hX dX9_wet_31 qi_m1 32 rfl ?_
          exact z_ireturn hX dX9_wet_32 (zend_i h3_)
