def gX8_begin_L76 (w : Nat) (p1 : Nat) (rc76 : (Int32 × zM) → Option zM) (s : (Int32 × zM)) : Option zM :=
  (if 8 ≤ s.1 then zlet (zI s.2 w 10 0) (fun M3_ => zlet (zI M3_ w 11 0) (fun M5_ => zlet (zI M5_ w 12 (M5_.1 (p1 + 12) (0 : Int32).toNatClampNeg)) (fun M7_ => zlet (zI M7_ w 13 0) (fun M9_ => zlet (zI M9_ w 14 (M9_.1 (p1 + 12) (4 : Int32).toNatClampNeg)) (fun M11_ => zlet (zI M11_ w 15 0) (fun M13_ => some M13_))))))
  else zg (zok s.1 8) (zlet (zI s.2 (w + 8) (s.1 : Int32).toNatClampNeg 0) (fun M16_ => zg (zok s.1 8) (zg (zok s.1 8) (zlet (zI M16_ (w + 9) (s.1 : Int32).toNatClampNeg (M16_.1 (p1 + 8) (s.1 : Int32).toNatClampNeg)) (fun M20_ => rc76 ((s.1 + 1), M20_)))))))
set_option maxRecDepth 100000 in
set_option maxHeartbeats 2000000 in
theorem aX8_begin_L76 {G : zG} {X : zX} {w : Nat} {p1 : Nat} (hX : zC G X cX8_begin 3 RX8 none 1) (hw : isW w) (hp1 : isPl p1)   {res : zM}  : ∀ (N : Nat) (s : (Int32 × zM)), zfix N (gX8_begin_L76 w p1) s = some res → Z G X (zQv res) 76 [some (.ref w), some (.ref p1), some (.int s.1)] [] s.2 := by
  intro N
  induction N with
  | zero => intro s h; cases h
  | succ N hrc76 =>
    intro s h
    replace h : gX8_begin_L76 w p1 (zfix N (gX8_begin_L76 w p1)) s = some res := h
    unfold gX8_begin_L76 at h
    refine z_iload_n hX dX8_begin_76 rfl 77 rfl ?_
    refine z_bipush hX dX8_begin_77 qb_8 79 rfl ?_
    refine z_icmp_ge hX dX8_begin_79 107 82 (by decide) rfl (fun hc => ?_) (fun hc => ?_)
    · rw [if_pos hc] at h
      refine z_aload_n hX dX8_begin_107 rfl 108 rfl ?_
      refine z_iconst hX dX8_begin_108 qi_0 109 rfl ?_
      refine z_putI hX pX8_52 dX8_begin_109 (zsW0 hw) (by decide) rfl 112 rfl ?_
      refine z_mem h (fun M3_ h4_ => ?_)
      refine z_aload_n hX dX8_begin_112 rfl 113 rfl ?_
      refine z_iconst hX dX8_begin_113 qi_0 114 rfl ?_
      refine z_putI hX pX8_56 dX8_begin_114 (zsW0 hw) (by decide) rfl 117 rfl ?_
      refine z_mem h4_ (fun M5_ h6_ => ?_)
      refine z_aload_n hX dX8_begin_117 rfl 118 rfl ?_
      refine z_aload_n hX dX8_begin_118 rfl 119 rfl ?_
      refine z_getF hX fX8_59 dX8_begin_119 (zsP0 hp1) (by decide) rfl 122 rfl ?_
      refine z_iconst hX dX8_begin_122 qi_0 123 rfl ?_
      refine z_iald hX dX8_begin_123 (zsP12 hp1) (zok_in (by decide)) 124 rfl ?_
      refine z_putI hX pX8_62 dX8_begin_124 (zsW0 hw) (by decide) rfl 127 rfl ?_
      refine z_mem h6_ (fun M7_ h8_ => ?_)
      refine z_aload_n hX dX8_begin_127 rfl 128 rfl ?_
      refine z_iconst hX dX8_begin_128 qi_0 129 rfl ?_
      refine z_putI hX pX8_65 dX8_begin_129 (zsW0 hw) (by decide) rfl 132 rfl ?_
      refine z_mem h8_ (fun M9_ h10_ => ?_)
      refine z_aload_n hX dX8_begin_132 rfl 133 rfl ?_
      refine z_aload_n hX dX8_begin_133 rfl 134 rfl ?_
      refine z_getF hX fX8_59 dX8_begin_134 (zsP0 hp1) (by decide) rfl 137 rfl ?_
      refine z_iconst hX dX8_begin_137 qi_4 138 rfl ?_
      refine z_iald hX dX8_begin_138 (zsP12 hp1) (zok_in (by decide)) 139 rfl ?_
      refine z_putI hX pX8_68 dX8_begin_139 (zsW0 hw) (by decide) rfl 142 rfl ?_
      refine z_mem h10_ (fun M11_ h12_ => ?_)
      refine z_aload_n hX dX8_begin_142 rfl 143 rfl ?_
      refine z_iconst hX dX8_begin_143 qi_0 144 rfl ?_
      refine z_putI hX pX8_71 dX8_begin_144 (zsW0 hw) (by decide) rfl 147 rfl ?_
      refine z_mem h12_ (fun M13_ h14_ => ?_)
      exact z_return hX dX8_begin_147 (zend_v h14_)
    · rw [if_neg hc] at h
      refine z_aload_n hX dX8_begin_82 rfl 83 rfl ?_
      refine z_getF hX fX8_34 dX8_begin_83 (zsW0 hw) (by decide) rfl 86 rfl ?_
      refine z_iload_n hX dX8_begin_86 rfl 87 rfl ?_
      refine z_iconst hX dX8_begin_87 qi_0 88 rfl ?_
      obtain ⟨hb, h15_⟩ := zgd h
      refine z_iast hX dX8_begin_88 (zsW8 hw) (zok_in hb) 89 rfl ?_
      refine z_mem h15_ (fun M16_ h17_ => ?_)
      refine z_aload_n hX dX8_begin_89 rfl 90 rfl ?_
      refine z_getF hX fX8_37 dX8_begin_90 (zsW0 hw) (by decide) rfl 93 rfl ?_
      refine z_iload_n hX dX8_begin_93 rfl 94 rfl ?_
      refine z_aload_n hX dX8_begin_94 rfl 95 rfl ?_
      refine z_getF hX fX8_51 dX8_begin_95 (zsP0 hp1) (by decide) rfl 98 rfl ?_
      refine z_iload_n hX dX8_begin_98 rfl 99 rfl ?_
      obtain ⟨hb, h18_⟩ := zgd h17_
      refine z_iald hX dX8_begin_99 (zsP8 hp1) (zok_in hb) 100 rfl ?_
      obtain ⟨hb, h19_⟩ := zgd h18_
      refine z_iast hX dX8_begin_100 (zsW9 hw) (zok_in hb) 101 rfl ?_
      refine z_mem h19_ (fun M20_ h21_ => ?_)
      refine z_iinc (v := (s.1 + 1)) hX dX8_begin_101 rfl (by rfl) (by decide) 104 rfl ?_
      refine z_goto hX dX8_begin_104 76 (by decide) ?_
      refine z_mask [true, true, true] ?_
      have hz := hrc76 _ h21_
      exact hz
def gX8_begin_L7 (w : Nat) (p1 : Nat) (rc7 : (Int32 × zM) → Option zM) (s : (Int32 × zM)) : Option zM :=
  (if 6 ≤ s.1 then zfix zFu (gX8_begin_L76 w p1) (0, s.2)
  else zg (zok s.1 6) (zlet (zI s.2 (w + 1) (s.1 : Int32).toNatClampNeg s.1) (fun M23_ => zg (zok s.1 6) (zg (zok s.1 6) (zlet (zI M23_ (w + 2) (s.1 : Int32).toNatClampNeg (M23_.1 (p1 + 3) (s.1 : Int32).toNatClampNeg)) (fun M27_ => zg (zok s.1 6) (zlet (zI M27_ (w + 3) (s.1 : Int32).toNatClampNeg 0) (fun M30_ => zg (zok s.1 6) (zlet (zI M30_ (w + 4) (s.1 : Int32).toNatClampNeg 0) (fun M33_ => zg (zok s.1 6) (zlet (zI M33_ (w + 5) (s.1 : Int32).toNatClampNeg (-2)) (fun M36_ => zg (zok s.1 6) (zlet (zI M36_ (w + 6) (s.1 : Int32).toNatClampNeg 0) (fun M39_ => zg (zok s.1 6) (zlet (zI M39_ (w + 7) (s.1 : Int32).toNatClampNeg (vp_nar .boolean 0)) (fun M42_ => rc7 ((s.1 + 1), M42_)))))))))))))))))
set_option maxRecDepth 100000 in
set_option maxHeartbeats 2000000 in
theorem aX8_begin_L7 {G : zG} {X : zX} {w : Nat} {p1 : Nat} (hX : zC G X cX8_begin 3 RX8 none 1) (hw : isW w) (hp1 : isPl p1)   {res : zM}  : ∀ (N : Nat) (s : (Int32 × zM)), zfix N (gX8_begin_L7 w p1) s = some res → Z G X (zQv res) 7 [some (.ref w), some (.ref p1), some (.int s.1)] [] s.2 := by
  intro N
  induction N with
  | zero => intro s h; cases h
  | succ N hrc7 =>
    intro s h
    replace h : gX8_begin_L7 w p1 (zfix N (gX8_begin_L7 w p1)) s = some res := h
    unfold gX8_begin_L7 at h
    refine z_iload_n hX dX8_begin_7 rfl 8 rfl ?_
    refine z_bipush hX dX8_begin_8 qb_6 10 rfl ?_
    refine z_icmp_ge hX dX8_begin_10 74 13 (by decide) rfl (fun hc => ?_) (fun hc => ?_)
    · rw [if_pos hc] at h
      refine z_iconst hX dX8_begin_74 qi_0 75 rfl ?_
      refine z_istore_n hX dX8_begin_75 (by decide) 76 rfl ?_
      refine z_mask [true, true, true] ?_
      have hz := aX8_begin_L76 hX hw hp1 _ _ h
      exact hz
    · rw [if_neg hc] at h
      refine z_aload_n hX dX8_begin_13 rfl 14 rfl ?_
      refine z_getF hX fX8_9 dX8_begin_14 (zsW0 hw) (by decide) rfl 17 rfl ?_
      refine z_iload_n hX dX8_begin_17 rfl 18 rfl ?_
      refine z_iload_n hX dX8_begin_18 rfl 19 rfl ?_
      obtain ⟨hb, h22_⟩ := zgd h
      refine z_iast hX dX8_begin_19 (zsW1 hw) (zok_in hb) 20 rfl ?_
      refine z_mem h22_ (fun M23_ h24_ => ?_)
      refine z_aload_n hX dX8_begin_20 rfl 21 rfl ?_
      refine z_getF hX fX8_15 dX8_begin_21 (zsW0 hw) (by decide) rfl 24 rfl ?_
      refine z_iload_n hX dX8_begin_24 rfl 25 rfl ?_
      refine z_aload_n hX dX8_begin_25 rfl 26 rfl ?_
      refine z_getF hX fX8_48 dX8_begin_26 (zsP0 hp1) (by decide) rfl 29 rfl ?_
      refine z_iload_n hX dX8_begin_29 rfl 30 rfl ?_
      obtain ⟨hb, h25_⟩ := zgd h24_
      refine z_iald hX dX8_begin_30 (zsP3 hp1) (zok_in hb) 31 rfl ?_
      obtain ⟨hb, h26_⟩ := zgd h25_
      refine z_iast hX dX8_begin_31 (zsW2 hw) (zok_in hb) 32 rfl ?_
      refine z_mem h26_ (fun M27_ h28_ => ?_)
      refine z_aload_n hX dX8_begin_32 rfl 33 rfl ?_
      refine z_getF hX fX8_18 dX8_begin_33 (zsW0 hw) (by decide) rfl 36 rfl ?_
      refine z_iload_n hX dX8_begin_36 rfl 37 rfl ?_
      refine z_iconst hX dX8_begin_37 qi_0 38 rfl ?_
      obtain ⟨hb, h29_⟩ := zgd h28_
      refine z_iast hX dX8_begin_38 (zsW3 hw) (zok_in hb) 39 rfl ?_
      refine z_mem h29_ (fun M30_ h31_ => ?_)
      refine z_aload_n hX dX8_begin_39 rfl 40 rfl ?_
      refine z_getF hX fX8_21 dX8_begin_40 (zsW0 hw) (by decide) rfl 43 rfl ?_
      refine z_iload_n hX dX8_begin_43 rfl 44 rfl ?_
      refine z_iconst hX dX8_begin_44 qi_0 45 rfl ?_
      obtain ⟨hb, h32_⟩ := zgd h31_
      refine z_iast hX dX8_begin_45 (zsW4 hw) (zok_in hb) 46 rfl ?_
      refine z_mem h32_ (fun M33_ h34_ => ?_)
      refine z_aload_n hX dX8_begin_46 rfl 47 rfl ?_
      refine z_getF hX fX8_24 dX8_begin_47 (zsW0 hw) (by decide) rfl 50 rfl ?_
      refine z_iload_n hX dX8_begin_50 rfl 51 rfl ?_
      refine z_bipush hX dX8_begin_51 qb_m2 53 rfl ?_
      obtain ⟨hb, h35_⟩ := zgd h34_
      refine z_iast hX dX8_begin_53 (zsW5 hw) (zok_in hb) 54 rfl ?_
      refine z_mem h35_ (fun M36_ h37_ => ?_)
      refine z_aload_n hX dX8_begin_54 rfl 55 rfl ?_
      refine z_getF hX fX8_27 dX8_begin_55 (zsW0 hw) (by decide) rfl 58 rfl ?_
      refine z_iload_n hX dX8_begin_58 rfl 59 rfl ?_
      refine z_iconst hX dX8_begin_59 qi_0 60 rfl ?_
      obtain ⟨hb, h38_⟩ := zgd h37_
      refine z_iast hX dX8_begin_60 (zsW6 hw) (zok_in hb) 61 rfl ?_
      refine z_mem h38_ (fun M39_ h40_ => ?_)
      refine z_aload_n hX dX8_begin_61 rfl 62 rfl ?_
      refine z_getF hX fX8_30 dX8_begin_62 (zsW0 hw) (by decide) rfl 65 rfl ?_
      refine z_iload_n hX dX8_begin_65 rfl 66 rfl ?_
      refine z_iconst hX dX8_begin_66 qi_0 67 rfl ?_
      obtain ⟨hb, h41_⟩ := zgd h40_
      refine z_zast hX dX8_begin_67 (zsW7 hw) (zok_in hb) 68 rfl ?_
      refine z_mem h41_ (fun M42_ h43_ => ?_)
      refine z_iinc (v := (s.1 + 1)) hX dX8_begin_68 rfl (by rfl) (by decide) 71 rfl ?_
      refine z_goto hX dX8_begin_71 7 (by decide) ?_
      refine z_mask [true, true, true] ?_
      have hz := hrc7 _ h43_
      exact hz
def gX8_begin (w : Nat) (p1 : Nat) (M : zM) : Option zM :=
  zlet (zF M w 0 p1) (fun M1_ => zfix zFu (gX8_begin_L7 w p1) (0, M1_))
set_option maxRecDepth 100000 in
set_option maxHeartbeats 2000000 in
theorem mX8_begin {G : zG} {w : Nat} {p1 : Nat} {M : zM} (hw : isW w) (hp1 : isPl p1) {res : zM} (h : gX8_begin w p1 M = some res) : Ct G 1 tX8_begin [.ref w, .ref p1] M (zQv res) := by
  unfold gX8_begin at h
  refine Ct.of (y := yX8_begin) rfl plX8 (Nat.le_of_ble_eq_true rfl) (fun X hX => ?_)
  replace hX : zC G X cX8_begin 3 RX8 none 1 := hX
  show Z G X _ 0 [some (.ref w), some (.ref p1), none] [] M
  refine z_aload_n hX dX8_begin_0 rfl 1 rfl ?_
  refine z_aload_n hX dX8_begin_1 rfl 2 rfl ?_
  refine z_putR hX pX8_40 (fun _ => ⟨rfl, rfl⟩) dX8_begin_2 (zsW0 hw) (by decide) rfl 5 rfl ?_
  refine z_mem h (fun M1_ h2_ => ?_)
  refine z_iconst hX dX8_begin_5 qi_0 6 rfl ?_
  refine z_istore_n hX dX8_begin_6 (by decide) 7 rfl ?_
  refine z_mask [true, true, true] ?_
  have hz := aX8_begin_L7 hX hw hp1 _ _ h2_
  exact hz
def gX9_putFour_L16 (x1 : Int32) (x2 : Int32) (rc16 : (Int32 × zM) → Option zM) (s : (Int32 × zM)) : Option zM :=
  (if 4 ≤ s.1 then some s.2
  else zg (zok (x1 + s.1) 700) (zlet (zI s.2 1 ((x1 + s.1) : Int32).toNatClampNeg (vp_nar .byte ((((x2 : Int32).toUInt32 >>> (((24 - (8 * s.1)) : Int32).toUInt32 &&& Int32.toUInt32 31)).toInt32 : Int32).toInt8.toInt32))) (fun M2_ => rc16 ((s.1 + 1), M2_))))
set_option maxRecDepth 100000 in
set_option maxHeartbeats 2000000 in
theorem aX9_putFour_L16 {G : zG} {X : zX} {x1 : Int32} {x2 : Int32} (hX : zC G X cX9_putFour 4 RX9 none 1)    {res : zM}  : ∀ (N : Nat) (s : (Int32 × zM)), zfix N (gX9_putFour_L16 x1 x2) s = some res → Z G X (zQv res) 16 [some (.ref 0), some (.int x1), some (.int x2), some (.int s.1)] [] s.2 := by
  intro N
  induction N with
  | zero => intro s h; cases h
  | succ N hrc16 =>
    intro s h
    replace h : gX9_putFour_L16 x1 x2 (zfix N (gX9_putFour_L16 x1 x2)) s = some res := h
    unfold gX9_putFour_L16 at h
    refine z_iload_n hX dX9_putFour_16 rfl 17 rfl ?_
    refine z_iconst hX dX9_putFour_17 qi_4 18 rfl ?_
    refine z_icmp_ge hX dX9_putFour_18 45 21 (by decide) rfl (fun hc => ?_) (fun hc => ?_)
    · rw [if_pos hc] at h
      exact z_return hX dX9_putFour_45 (zend_v h)
    · rw [if_neg hc] at h
      refine z_aload_n hX dX9_putFour_21 rfl 22 rfl ?_
      refine z_getF hX fX9_11 dX9_putFour_22 zs_0 (by decide) rfl 25 rfl ?_
      refine z_iload_n hX dX9_putFour_25 rfl 26 rfl ?_
      refine z_iload_n hX dX9_putFour_26 rfl 27 rfl ?_
      refine z_iadd hX dX9_putFour_27 28 rfl ?_
      refine z_iload_n hX dX9_putFour_28 rfl 29 rfl ?_
      refine z_bipush hX dX9_putFour_29 qb_24 31 rfl ?_
      refine z_bipush hX dX9_putFour_31 qb_8 33 rfl ?_
      refine z_iload_n hX dX9_putFour_33 rfl 34 rfl ?_
      refine z_imul hX dX9_putFour_34 35 rfl ?_
      refine z_isub hX dX9_putFour_35 36 rfl ?_
      refine z_iushr hX dX9_putFour_36 37 rfl ?_
      refine z_i2b hX dX9_putFour_37 38 rfl ?_
      obtain ⟨hb, h1_⟩ := zgd h
      refine z_bast hX dX9_putFour_38 zs_1 (zok_in hb) 39 rfl ?_
      refine z_mem h1_ (fun M2_ h3_ => ?_)
      refine z_iinc (v := (s.1 + 1)) hX dX9_putFour_39 rfl (by rfl) (by decide) 42 rfl ?_
      refine z_goto hX dX9_putFour_42 16 (by decide) ?_
      refine z_mask [true, true, true, true] ?_
      have hz := hrc16 _ h3_
      exact hz
def gX9_putFour (x1 : Int32) (x2 : Int32) (M : zM) : Option zM :=
  (if x1 < 0 then some M
  else (if (x1 + 4) ≤ 700 then zfix zFu (gX9_putFour_L16 x1 x2) (0, M)
  else some M))
set_option maxRecDepth 100000 in
set_option maxHeartbeats 2000000 in
theorem mX9_putFour {G : zG} {x1 : Int32} {x2 : Int32} {M : zM}  {res : zM} (h : gX9_putFour x1 x2 M = some res) : Ct G 1 tX9_putFour [.ref 0, .int x1, .int x2] M (zQv res) := by
  unfold gX9_putFour at h
  refine Ct.of (y := yX9_putFour) rfl plX9 (Nat.le_of_ble_eq_true rfl) (fun X hX => ?_)
  replace hX : zC G X cX9_putFour 4 RX9 none 1 := hX
  show Z G X _ 0 [some (.ref 0), some (.int x1), some (.int x2), none] [] M
  refine z_iload_n hX dX9_putFour_0 rfl 1 rfl ?_
  refine z_if_lt hX dX9_putFour_1 13 4 (by decide) rfl (fun hc => ?_) (fun hc => ?_)
  · rw [if_pos hc] at h
    exact z_return hX dX9_putFour_13 (zend_v h)
  · rw [if_neg hc] at h
    refine z_iload_n hX dX9_putFour_4 rfl 5 rfl ?_
    refine z_iconst hX dX9_putFour_5 qi_4 6 rfl ?_
    refine z_iadd hX dX9_putFour_6 7 rfl ?_
    refine z_sipush hX dX9_putFour_7 qs_700 10 rfl ?_
    refine z_icmp_le hX dX9_putFour_10 14 13 (by decide) rfl (fun hc => ?_) (fun hc => ?_)
    · rw [if_pos hc] at h
      refine z_iconst hX dX9_putFour_14 qi_0 15 rfl ?_
      refine z_istore_n hX dX9_putFour_15 (by decide) 16 rfl ?_
      refine z_mask [true, true, true, true] ?_
      have hz := aX9_putFour_L16 hX _ _ h
      exact hz
    · rw [if_neg hc] at h
      exact z_return hX dX9_putFour_13 (zend_v h)
def gX9_feed (x1 : Int32) (x2 : Int32) (x3 : Int32) (x4 : Int32) (x5 : Int32) (M : zM) : Option (Int32 × zM) :=
  (if ((M.1 0 1) + 20) ≤ 700 then zcV (gX9_putFour (M.1 0 1) x1 M) (fun M1_ => zcV (gX9_putFour ((M1_.1 0 1) + 4) x2 M1_) (fun M3_ => zcV (gX9_putFour ((M3_.1 0 1) + 8) x3 M3_) (fun M5_ => zcV (gX9_putFour ((M5_.1 0 1) + 12) x4 M5_) (fun M7_ => zcV (gX9_putFour ((M7_.1 0 1) + 16) x5 M7_) (fun M9_ => zlet (zI M9_ 0 1 ((M9_.1 0 1) + 20)) (fun M11_ => some ((M11_.1 0 1), M11_)))))))
  else some ((-1), M))
set_option maxRecDepth 100000 in
set_option maxHeartbeats 2000000 in
theorem mX9_feed {G : zG} {x1 : Int32} {x2 : Int32} {x3 : Int32} {x4 : Int32} {x5 : Int32} {M : zM}  {res : (Int32 × zM)} (h : gX9_feed x1 x2 x3 x4 x5 M = some res) : Ct G 2 tX9_feed [.ref 0, .int x1, .int x2, .int x3, .int x4, .int x5] M (zQi res) := by
  unfold gX9_feed at h
  refine Ct.of (y := yX9_feed) rfl plX9 (Nat.le_of_ble_eq_true rfl) (fun X hX => ?_)
  replace hX : zC G X cX9_feed 6 RX9 (some .int) 2 := hX
  show Z G X _ 0 [some (.ref 0), some (.int x1), some (.int x2), some (.int x3), some (.int x4), some (.int x5)] [] M
  refine z_aload_n hX dX9_feed_0 rfl 1 rfl ?_
  refine z_getI hX fX9_82 dX9_feed_1 zs_0 (by decide) rfl 4 rfl ?_
  refine z_bipush hX dX9_feed_4 qb_20 6 rfl ?_
  refine z_iadd hX dX9_feed_6 7 rfl ?_
  refine z_sipush hX dX9_feed_7 qs_700 10 rfl ?_
  refine z_icmp_le hX dX9_feed_10 15 13 (by decide) rfl (fun hc => ?_) (fun hc => ?_)
  · rw [if_pos hc] at h
    refine z_aload_n hX dX9_feed_15 rfl 16 rfl ?_
    refine z_aload_n hX dX9_feed_16 rfl 17 rfl ?_
    refine z_getI hX fX9_82 dX9_feed_17 zs_0 (by decide) rfl 20 rfl ?_
    refine z_iload_n hX dX9_feed_20 rfl 21 rfl ?_
    obtain ⟨M1_, hq, h2_⟩ := zcV_of h
    refine z_callV hX vX9_putFour lX9_85 dX9_feed_21 zs_0 rfl (mX9_putFour  hq) (by decide) rfl rfl (Nat.le_of_ble_eq_true rfl) 24 rfl (Qv.to (fun M' hv => ?_))
    subst hv
    refine z_aload_n hX dX9_feed_24 rfl 25 rfl ?_
    refine z_aload_n hX dX9_feed_25 rfl 26 rfl ?_
    refine z_getI hX fX9_82 dX9_feed_26 zs_0 (by decide) rfl 29 rfl ?_
    refine z_iconst hX dX9_feed_29 qi_4 30 rfl ?_
    refine z_iadd hX dX9_feed_30 31 rfl ?_
    refine z_iload_n hX dX9_feed_31 rfl 32 rfl ?_
    obtain ⟨M3_, hq, h4_⟩ := zcV_of h2_
    refine z_callV hX vX9_putFour lX9_85 dX9_feed_32 zs_0 rfl (mX9_putFour  hq) (by decide) rfl rfl (Nat.le_of_ble_eq_true rfl) 35 rfl (Qv.to (fun M' hv => ?_))
    subst hv
    refine z_aload_n hX dX9_feed_35 rfl 36 rfl ?_
    refine z_aload_n hX dX9_feed_36 rfl 37 rfl ?_
    refine z_getI hX fX9_82 dX9_feed_37 zs_0 (by decide) rfl 40 rfl ?_
    refine z_bipush hX dX9_feed_40 qb_8 42 rfl ?_
    refine z_iadd hX dX9_feed_42 43 rfl ?_
    refine z_iload_n hX dX9_feed_43 rfl 44 rfl ?_
    obtain ⟨M5_, hq, h6_⟩ := zcV_of h4_
    refine z_callV hX vX9_putFour lX9_85 dX9_feed_44 zs_0 rfl (mX9_putFour  hq) (by decide) rfl rfl (Nat.le_of_ble_eq_true rfl) 47 rfl (Qv.to (fun M' hv => ?_))
    subst hv
    refine z_aload_n hX dX9_feed_47 rfl 48 rfl ?_
    refine z_aload_n hX dX9_feed_48 rfl 49 rfl ?_
    refine z_getI hX fX9_82 dX9_feed_49 zs_0 (by decide) rfl 52 rfl ?_
    refine z_bipush hX dX9_feed_52 qb_12 54 rfl ?_
    refine z_iadd hX dX9_feed_54 55 rfl ?_
    refine z_iload hX dX9_feed_55 rfl 57 rfl ?_
    obtain ⟨M7_, hq, h8_⟩ := zcV_of h6_
    refine z_callV hX vX9_putFour lX9_85 dX9_feed_57 zs_0 rfl (mX9_putFour  hq) (by decide) rfl rfl (Nat.le_of_ble_eq_true rfl) 60 rfl (Qv.to (fun M' hv => ?_))
    subst hv
    refine z_aload_n hX dX9_feed_60 rfl 61 rfl ?_
    refine z_aload_n hX dX9_feed_61 rfl 62 rfl ?_
    refine z_getI hX fX9_82 dX9_feed_62 zs_0 (by decide) rfl 65 rfl ?_
    refine z_bipush hX dX9_feed_65 qb_16 67 rfl ?_
    refine z_iadd hX dX9_feed_67 68 rfl ?_
    refine z_iload hX dX9_feed_68 rfl 70 rfl ?_
    obtain ⟨M9_, hq, h10_⟩ := zcV_of h8_
    refine z_callV hX vX9_putFour lX9_85 dX9_feed_70 zs_0 rfl (mX9_putFour  hq) (by decide) rfl rfl (Nat.le_of_ble_eq_true rfl) 73 rfl (Qv.to (fun M' hv => ?_))
    subst hv
    refine z_aload_n hX dX9_feed_73 rfl 74 rfl ?_
    refine z_dup hX dX9_feed_74 rfl 75 rfl ?_
    refine z_getI hX fX9_82 dX9_feed_75 zs_0 (by decide) rfl 78 rfl ?_
    refine z_bipush hX dX9_feed_78 qb_20 80 rfl ?_
    refine z_iadd hX dX9_feed_80 81 rfl ?_
    refine z_putI hX pX9_82 dX9_feed_81 zs_0 (by decide) rfl 84 rfl ?_
    refine z_mem h10_ (fun M11_ h12_ => ?_)
    refine z_aload_n hX dX9_feed_84 rfl 85 rfl ?_
    refine z_getI hX fX9_82 dX9_feed_85 zs_0 (by decide) rfl 88 rfl ?_
    exact z_ireturn hX dX9_feed_88 (zend_i h12_)
  · rw [if_neg hc] at h
    refine z_iconst hX dX9_feed_13 qi_m1 14 rfl ?_
    exact z_ireturn hX dX9_feed_14 (zend_i h)
def gX1_clear_L12 (p : Nat) (rc12 : (Int32 × zM) → Option zM) (s : (Int32 × zM)) : Option zM :=
  (if 3 ≤ s.1 then some s.2
  else zg (zok s.1 3) (zlet (zI s.2 (p + 15) (s.1 : Int32).toNatClampNeg (-1)) (fun M6_ => zg (zok s.1 3) (zlet (zI M6_ (p + 16) (s.1 : Int32).toNatClampNeg (-1)) (fun M9_ => rc12 ((s.1 + 1), M9_))))))
set_option maxRecDepth 100000 in
set_option maxHeartbeats 2000000 in
theorem aX1_clear_L12 {G : zG} {X : zX} {p : Nat} (hX : zC G X cX1_clear 2 RX1 none 1) (hp : isPl p)   {res : zM}  : ∀ (N : Nat) (s : (Int32 × zM)), zfix N (gX1_clear_L12 p) s = some res → Z G X (zQv res) 12 [some (.ref (p + 14)), some (.int s.1)] [] s.2 := by
  intro N
  induction N with
  | zero => intro s h; cases h
  | succ N hrc12 =>
    intro s h
    replace h : gX1_clear_L12 p (zfix N (gX1_clear_L12 p)) s = some res := h
    unfold gX1_clear_L12 at h
    refine z_iload_n hX dX1_clear_12 rfl 13 rfl ?_
    refine z_iconst hX dX1_clear_13 qi_3 14 rfl ?_
    refine z_icmp_ge hX dX1_clear_14 37 17 (by decide) rfl (fun hc => ?_) (fun hc => ?_)
    · rw [if_pos hc] at h
      exact z_return hX dX1_clear_37 (zend_v h)
    · rw [if_neg hc] at h
      refine z_aload_n hX dX1_clear_17 rfl 18 rfl ?_
      refine z_getF hX fX1_9 dX1_clear_18 (zsP14 hp) (by decide) rfl 21 rfl ?_
      refine z_iload_n hX dX1_clear_21 rfl 22 rfl ?_
      refine z_iconst hX dX1_clear_22 qi_m1 23 rfl ?_
      obtain ⟨hb, h5_⟩ := zgd h
      refine z_iast hX dX1_clear_23 (zsP15 hp) (zok_in hb) 24 rfl ?_
      refine z_mem h5_ (fun M6_ h7_ => ?_)
      refine z_aload_n hX dX1_clear_24 rfl 25 rfl ?_
      refine z_getF hX fX1_15 dX1_clear_25 (zsP14 hp) (by decide) rfl 28 rfl ?_
      refine z_iload_n hX dX1_clear_28 rfl 29 rfl ?_
      refine z_iconst hX dX1_clear_29 qi_m1 30 rfl ?_
      obtain ⟨hb, h8_⟩ := zgd h7_
      refine z_iast hX dX1_clear_30 (zsP16 hp) (zok_in hb) 31 rfl ?_
      refine z_mem h8_ (fun M9_ h10_ => ?_)
      refine z_iinc (v := (s.1 + 1)) hX dX1_clear_31 rfl (by rfl) (by decide) 34 rfl ?_
      refine z_goto hX dX1_clear_34 12 (by decide) ?_
      refine z_mask [true, true] ?_
      have hz := hrc12 _ h10_
      exact hz
def gX1_clear (p : Nat) (M : zM) : Option zM :=
  zlet (zI M (p + 14) 0 0) (fun M1_ => zlet (zI M1_ (p + 14) 1 0) (fun M3_ => zfix zFu (gX1_clear_L12 p) (0, M3_)))
set_option maxRecDepth 100000 in
set_option maxHeartbeats 2000000 in
theorem mX1_clear {G : zG} {p : Nat} {M : zM} (hp : isPl p) {res : zM} (h : gX1_clear p M = some res) : Ct G 1 tX1_clear [.ref (p + 14)] M (zQv res) := by
  unfold gX1_clear at h
  refine Ct.of (y := yX1_clear) rfl plX1 (Nat.le_of_ble_eq_true rfl) (fun X hX => ?_)
  replace hX : zC G X cX1_clear 2 RX1 none 1 := hX
  show Z G X _ 0 [some (.ref (p + 14)), none] [] M
  refine z_aload_n hX dX1_clear_0 rfl 1 rfl ?_
  refine z_iconst hX dX1_clear_1 qi_0 2 rfl ?_
  refine z_putI hX pX1_33 dX1_clear_2 (zsP14 hp) (by decide) rfl 5 rfl ?_
  refine z_mem h (fun M1_ h2_ => ?_)
  refine z_aload_n hX dX1_clear_5 rfl 6 rfl ?_
  refine z_iconst hX dX1_clear_6 qi_0 7 rfl ?_
  refine z_putI hX pX1_37 dX1_clear_7 (zsP14 hp) (by decide) rfl 10 rfl ?_
  refine z_mem h2_ (fun M3_ h4_ => ?_)
  refine z_iconst hX dX1_clear_10 qi_0 11 rfl ?_
  refine z_istore_n hX dX1_clear_11 (by decide) 12 rfl ?_
  refine z_mask [true, true] ?_
  have hz := aX1_clear_L12 hX hp _ _ h4_
  exact hz
def gX3_clear_L17 (p : Nat) (rc17 : (Int32 × zM) → Option zM) (s : (Int32 × zM)) : Option zM :=
  (if 5 ≤ s.1 then zcV (gX1_clear p s.2) (fun M7_ => some M7_)
  else zg (zok s.1 5) (zg (zok s.1 5) (zlet (zI s.2 (p + 12) (s.1 : Int32).toNatClampNeg (zc0 (s.1 : Int32).toNatClampNeg)) (fun M11_ => zg (zok s.1 5) (zlet (zI M11_ (p + 13) (s.1 : Int32).toNatClampNeg (vp_nar .boolean 0)) (fun M14_ => rc17 ((s.1 + 1), M14_)))))))
set_option maxRecDepth 100000 in
set_option maxHeartbeats 2000000 in
theorem aX3_clear_L17 {G : zG} {X : zX} {p : Nat} (hX : zC G X cX3_clear 2 RX3 none 2) (hp : isPl p)   {res : zM}  : ∀ (N : Nat) (s : (Int32 × zM)), zfix N (gX3_clear_L17 p) s = some res → Z G X (zQv res) 17 [some (.ref p), some (.int s.1)] [] s.2 := by
  intro N
  induction N with
  | zero => intro s h; cases h
  | succ N hrc17 =>
    intro s h
    replace h : gX3_clear_L17 p (zfix N (gX3_clear_L17 p)) s = some res := h
    unfold gX3_clear_L17 at h
    refine z_iload_n hX dX3_clear_17 rfl 18 rfl ?_
    refine z_iconst hX dX3_clear_18 qi_5 19 rfl ?_
    refine z_icmp_ge hX dX3_clear_19 46 22 (by decide) rfl (fun hc => ?_) (fun hc => ?_)
    · rw [if_pos hc] at h
      refine z_aload_n hX dX3_clear_46 rfl 47 rfl ?_
      refine z_getF hX fX3_55 dX3_clear_47 (zsP0 hp) (by decide) rfl 50 rfl ?_
      obtain ⟨M7_, hq, h8_⟩ := zcV_of h
      refine z_callV hX vX1_clear lX3_78 dX3_clear_50 (zsP14 hp) rfl (mX1_clear hp hq) (by decide) rfl rfl (Nat.le_of_ble_eq_true rfl) 53 rfl (Qv.to (fun M' hv => ?_))
      subst hv
      exact z_return hX dX3_clear_53 (zend_v h8_)
    · rw [if_neg hc] at h
      refine z_aload_n hX dX3_clear_22 rfl 23 rfl ?_
      refine z_getF hX fX3_45 dX3_clear_23 (zsP0 hp) (by decide) rfl 26 rfl ?_
      refine z_iload_n hX dX3_clear_26 rfl 27 rfl ?_
      refine z_get142 hX dX3_clear_27 (by decide) 30 rfl ?_
      refine z_iload_n hX dX3_clear_30 rfl 31 rfl ?_
      obtain ⟨hb, h9_⟩ := zgd h
      refine z_sld142 hX dX3_clear_31 (zok_in hb) 32 rfl ?_
      obtain ⟨hb, h10_⟩ := zgd h9_
      refine z_iast hX dX3_clear_32 (zsP12 hp) (zok_in hb) 33 rfl ?_
      refine z_mem h10_ (fun M11_ h12_ => ?_)
      refine z_aload_n hX dX3_clear_33 rfl 34 rfl ?_
      refine z_getF hX fX3_48 dX3_clear_34 (zsP0 hp) (by decide) rfl 37 rfl ?_
      refine z_iload_n hX dX3_clear_37 rfl 38 rfl ?_
      refine z_iconst hX dX3_clear_38 qi_0 39 rfl ?_
      obtain ⟨hb, h13_⟩ := zgd h12_
      refine z_zast hX dX3_clear_39 (zsP13 hp) (zok_in hb) 40 rfl ?_
      refine z_mem h13_ (fun M14_ h15_ => ?_)
      refine z_iinc (v := (s.1 + 1)) hX dX3_clear_40 rfl (by rfl) (by decide) 43 rfl ?_
      refine z_goto hX dX3_clear_43 17 (by decide) ?_
      refine z_mask [true, true] ?_
      have hz := hrc17 _ h15_
      exact hz
def gX3_clear (p : Nat) (M : zM) : Option zM :=
  zlet (zI M p 0 0) (fun M1_ => zlet (zI M1_ p 5 0) (fun M3_ => zlet (zI M3_ p 10 0) (fun M5_ => zfix zFu (gX3_clear_L17 p) (0, M5_))))
set_option maxRecDepth 100000 in
set_option maxHeartbeats 2000000 in
theorem mX3_clear {G : zG} {p : Nat} {M : zM} (hp : isPl p) {res : zM} (h : gX3_clear p M = some res) : Ct G 2 tX3_clear [.ref p] M (zQv res) := by
  unfold gX3_clear at h
  refine Ct.of (y := yX3_clear) rfl plX3 (Nat.le_of_ble_eq_true rfl) (fun X hX => ?_)
  replace hX : zC G X cX3_clear 2 RX3 none 2 := hX
  show Z G X _ 0 [some (.ref p), none] [] M
  refine z_aload_n hX dX3_clear_0 rfl 1 rfl ?_
  refine z_iconst hX dX3_clear_1 qi_0 2 rfl ?_
  refine z_putI hX pX3_68 dX3_clear_2 (zsP0 hp) (by decide) rfl 5 rfl ?_
  refine z_mem h (fun M1_ h2_ => ?_)
  refine z_aload_n hX dX3_clear_5 rfl 6 rfl ?_
  refine z_iconst hX dX3_clear_6 qi_0 7 rfl ?_
  refine z_putI hX pX3_72 dX3_clear_7 (zsP0 hp) (by decide) rfl 10 rfl ?_
  refine z_mem h2_ (fun M3_ h4_ => ?_)
  refine z_aload_n hX dX3_clear_10 rfl 11 rfl ?_
  refine z_iconst hX dX3_clear_11 qi_0 12 rfl ?_
  refine z_putI hX pX3_75 dX3_clear_12 (zsP0 hp) (by decide) rfl 15 rfl ?_
  refine z_mem h4_ (fun M5_ h6_ => ?_)
  refine z_iconst hX dX3_clear_15 qi_0 16 rfl ?_
  refine z_istore_n hX dX3_clear_16 (by decide) 17 rfl ?_
  refine z_mask [true, true] ?_
  have hz := aX3_clear_L17 hX hp _ _ h6_
  exact hz
def gX7_skipBlanks_J39 (rc0 : zM → Option zM) (M : zM) : Option zM :=
  zlet (zI M 50 2 ((M.1 50 2) + 1)) (fun M3_ => rc0 M3_)
set_option maxRecDepth 100000 in
set_option maxHeartbeats 2000000 in
theorem aX7_skipBlanks_J39 {G : zG} {X : zX} (hX : zC G X cX7_skipBlanks 1 RX7 none 1)  {rc0 : zM → Option zM} {M : zM} {res : zM} (hrc0 : ∀ s : zM, rc0 s = some res → Z G X (zQv res) 0 [some (.ref 50)] [] s) (h : gX7_skipBlanks_J39 rc0 M = some res) : Z G X (zQv res) 39 [some (.ref 50)] [] M := by
  unfold gX7_skipBlanks_J39 at h
  refine z_aload_n hX dX7_skipBlanks_39 rfl 40 rfl ?_
  refine z_dup hX dX7_skipBlanks_40 rfl 41 rfl ?_
  refine z_getI hX fX7_35 dX7_skipBlanks_41 zs_50 (by decide) rfl 44 rfl ?_
  refine z_iconst hX dX7_skipBlanks_44 qi_1 45 rfl ?_
  refine z_iadd hX dX7_skipBlanks_45 46 rfl ?_
  refine z_putI hX pX7_35 dX7_skipBlanks_46 zs_50 (by decide) rfl 49 rfl ?_
  refine z_mem h (fun M3_ h4_ => ?_)
  refine z_goto hX dX7_skipBlanks_49 0 (by decide) ?_
  refine z_mask [true] ?_
  have hz := hrc0 _ h4_
  exact hz
def gX7_skipBlanks_L0  (rc0 : zM → Option zM) (s : zM) : Option zM :=
  (if (s.1 50 1) ≤ (s.1 50 2) then some s
  else zgC (s.2.2 50 0) 1 (zg (zok (s.1 50 2) 700) ((if (s.1 1 ((s.1 50 2) : Int32).toNatClampNeg) = 32 then gX7_skipBlanks_J39 rc0 s
  else zgC (s.2.2 50 0) 1 (zg (zok (s.1 50 2) 700) ((if (s.1 1 ((s.1 50 2) : Int32).toNatClampNeg) = 10 then gX7_skipBlanks_J39 rc0 s
  else some s)))))))
set_option maxRecDepth 100000 in
set_option maxHeartbeats 2000000 in
theorem aX7_skipBlanks_L0 {G : zG} {X : zX} (hX : zC G X cX7_skipBlanks 1 RX7 none 1)    {res : zM}  : ∀ (N : Nat) (s : zM), zfix N (gX7_skipBlanks_L0 ) s = some res → Z G X (zQv res) 0 [some (.ref 50)] [] s := by
  intro N
  induction N with
  | zero => intro s h; cases h
  | succ N hrc0 =>
    intro s h
    replace h : gX7_skipBlanks_L0  (zfix N (gX7_skipBlanks_L0 )) s = some res := h
    unfold gX7_skipBlanks_L0 at h
    refine z_aload_n hX dX7_skipBlanks_0 rfl 1 rfl ?_
    refine z_getI hX fX7_35 dX7_skipBlanks_1 zs_50 (by decide) rfl 4 rfl ?_
    refine z_aload_n hX dX7_skipBlanks_4 rfl 5 rfl ?_
    refine z_getI hX fX7_31 dX7_skipBlanks_5 zs_50 (by decide) rfl 8 rfl ?_
    refine z_icmp_ge hX dX7_skipBlanks_8 52 11 (by decide) rfl (fun hc => ?_) (fun hc => ?_)
    · rw [if_pos hc] at h
      exact z_return hX dX7_skipBlanks_52 (zend_v h)
    · rw [if_neg hc] at h
      refine z_aload_n hX dX7_skipBlanks_11 rfl 12 rfl ?_
      obtain ⟨hm, h1_⟩ := zgC_of h
      refine z_getR hX fX7_9 dX7_skipBlanks_12 zs_50 (by decide) rfl hm 15 rfl ?_
      refine z_aload_n hX dX7_skipBlanks_15 rfl 16 rfl ?_
      refine z_getI hX fX7_35 dX7_skipBlanks_16 zs_50 (by decide) rfl 19 rfl ?_
      obtain ⟨hb, h2_⟩ := zgd h1_
      refine z_bald hX dX7_skipBlanks_19 zs_1 (zok_in hb) 20 rfl ?_
      refine z_bipush hX dX7_skipBlanks_20 qb_32 22 rfl ?_
      refine z_icmp_eq hX dX7_skipBlanks_22 39 25 (by decide) rfl (fun hc => ?_) (fun hc => ?_)
      · rw [if_pos hc] at h2_
        refine z_mask [true] ?_
        have hz := aX7_skipBlanks_J39 hX hrc0 h2_
        exact hz
      · rw [if_neg hc] at h2_
        refine z_aload_n hX dX7_skipBlanks_25 rfl 26 rfl ?_
        obtain ⟨hm, h5_⟩ := zgC_of h2_
        refine z_getR hX fX7_9 dX7_skipBlanks_26 zs_50 (by decide) rfl hm 29 rfl ?_
        refine z_aload_n hX dX7_skipBlanks_29 rfl 30 rfl ?_
        refine z_getI hX fX7_35 dX7_skipBlanks_30 zs_50 (by decide) rfl 33 rfl ?_
        obtain ⟨hb, h6_⟩ := zgd h5_
        refine z_bald hX dX7_skipBlanks_33 zs_1 (zok_in hb) 34 rfl ?_
        refine z_bipush hX dX7_skipBlanks_34 qb_10 36 rfl ?_
        refine z_icmp_ne hX dX7_skipBlanks_36 52 39 (by decide) rfl (fun hc => ?_) (fun hc => ?_)
        · rw [if_neg hc] at h6_
          exact z_return hX dX7_skipBlanks_52 (zend_v h6_)
        · rw [if_pos hc] at h6_
          refine z_mask [true] ?_
          have hz := aX7_skipBlanks_J39 hX hrc0 h6_
          exact hz
def gX7_skipBlanks (M : zM) : Option zM :=
  zfix zFu (gX7_skipBlanks_L0 ) M
set_option maxRecDepth 100000 in
set_option maxHeartbeats 2000000 in
theorem mX7_skipBlanks {G : zG}  {M : zM}  {res : zM} (h : gX7_skipBlanks M = some res) : Ct G 1 tX7_skipBlanks [.ref 50] M (zQv res) := by
  unfold gX7_skipBlanks at h
  refine Ct.of (y := yX7_skipBlanks) rfl plX7 (Nat.le_of_ble_eq_true rfl) (fun X hX => ?_)
  replace hX : zC G X cX7_skipBlanks 1 RX7 none 1 := hX
  show Z G X _ 0 [some (.ref 50)] [] M
  refine z_mask [true] ?_
  have hz := aX7_skipBlanks_L0 hX _ _ h
  exact hz
def gX7_peek (M : zM) : Option Int32 :=
  (if (M.1 50 2) < 0 then some (-1)
  else (if (M.1 50 1) ≤ (M.1 50 2) then some (-1)
  else zgC (M.2.2 50 0) 1 (zg (zok (M.1 50 2) 700) (some ((M.1 1 ((M.1 50 2) : Int32).toNatClampNeg) &&& 255)))))
set_option maxRecDepth 100000 in
set_option maxHeartbeats 2000000 in
theorem mX7_peek {G : zG}  {M : zM}  {res : Int32} (h : gX7_peek M = some res) : Ct G 1 tX7_peek [.ref 50] M (zQip M res) := by
  unfold gX7_peek at h
  refine Ct.of (y := yX7_peek) rfl plX7 (Nat.le_of_ble_eq_true rfl) (fun X hX => ?_)
  replace hX : zC G X cX7_peek 1 RX7 (some .int) 1 := hX
  show Z G X _ 0 [some (.ref 50)] [] M
  refine z_aload_n hX dX7_peek_0 rfl 1 rfl ?_
  refine z_getI hX fX7_35 dX7_peek_1 zs_50 (by decide) rfl 4 rfl ?_
  refine z_if_lt hX dX7_peek_4 34 7 (by decide) rfl (fun hc => ?_) (fun hc => ?_)
  · rw [if_pos hc] at h
    refine z_iconst hX dX7_peek_34 qi_m1 35 rfl ?_
    exact z_ireturn hX dX7_peek_35 (zend_ip h)
  · rw [if_neg hc] at h
    refine z_aload_n hX dX7_peek_7 rfl 8 rfl ?_
    refine z_getI hX fX7_35 dX7_peek_8 zs_50 (by decide) rfl 11 rfl ?_
    refine z_aload_n hX dX7_peek_11 rfl 12 rfl ?_
    refine z_getI hX fX7_31 dX7_peek_12 zs_50 (by decide) rfl 15 rfl ?_
    refine z_icmp_ge hX dX7_peek_15 34 18 (by decide) rfl (fun hc => ?_) (fun hc => ?_)
    · rw [if_pos hc] at h
      refine z_iconst hX dX7_peek_34 qi_m1 35 rfl ?_
      exact z_ireturn hX dX7_peek_35 (zend_ip h)
    · rw [if_neg hc] at h
      refine z_aload_n hX dX7_peek_18 rfl 19 rfl ?_
      obtain ⟨hm, h1_⟩ := zgC_of h
      refine z_getR hX fX7_9 dX7_peek_19 zs_50 (by decide) rfl hm 22 rfl ?_
      refine z_aload_n hX dX7_peek_22 rfl 23 rfl ?_
      refine z_getI hX fX7_35 dX7_peek_23 zs_50 (by decide) rfl 26 rfl ?_
      obtain ⟨hb, h2_⟩ := zgd h1_
      refine z_bald hX dX7_peek_26 zs_1 (zok_in hb) 27 rfl ?_
      refine z_sipush hX dX7_peek_27 qs_255 30 rfl ?_
      refine z_iand hX dX7_peek_30 31 rfl ?_
      refine z_goto hX dX7_peek_31 35 (by decide) ?_
      exact z_ireturn hX dX7_peek_35 (zend_ip h2_)
def gX7_isLetter (x0 : Int32) (M : zM) : Option Int32 :=
  (if x0 < 97 then some 0
  else (if 122 < x0 then some 0
  else some 1))
set_option maxRecDepth 100000 in
set_option maxHeartbeats 2000000 in
theorem mX7_isLetter {G : zG} {x0 : Int32} {M : zM}  {res : Int32} (h : gX7_isLetter x0 M = some res) : Ct G 1 tX7_isLetter [.int x0] M (zQip M res) := by
  unfold gX7_isLetter at h
  refine Ct.of (y := yX7_isLetter) rfl plX7 (Nat.le_of_ble_eq_true rfl) (fun X hX => ?_)
  replace hX : zC G X cX7_isLetter 1 RX7 (some .boolean) 1 := hX
  show Z G X _ 0 [some (.int x0)] [] M
  refine z_iload_n hX dX7_isLetter_0 rfl 1 rfl ?_
  refine z_bipush hX dX7_isLetter_1 qb_97 3 rfl ?_
  refine z_icmp_lt hX dX7_isLetter_3 16 6 (by decide) rfl (fun hc => ?_) (fun hc => ?_)
  · rw [if_pos hc] at h
    refine z_iconst hX dX7_isLetter_16 qi_0 17 rfl ?_
    exact z_zreturn hX dX7_isLetter_17 (by decide) (zend_ip h)
  · rw [if_neg hc] at h
    refine z_iload_n hX dX7_isLetter_6 rfl 7 rfl ?_
    refine z_bipush hX dX7_isLetter_7 qb_122 9 rfl ?_
    refine z_icmp_gt hX dX7_isLetter_9 16 12 (by decide) rfl (fun hc => ?_) (fun hc => ?_)
    · rw [if_pos hc] at h
      refine z_iconst hX dX7_isLetter_16 qi_0 17 rfl ?_
      exact z_zreturn hX dX7_isLetter_17 (by decide) (zend_ip h)
    · rw [if_neg hc] at h
      refine z_iconst hX dX7_isLetter_12 qi_1 13 rfl ?_
      refine z_goto hX dX7_isLetter_13 17 (by decide) ?_
      exact z_zreturn hX dX7_isLetter_17 (by decide) (zend_ip h)
def gX7_isDigit (x0 : Int32) (M : zM) : Option Int32 :=
  (if x0 < 48 then some 0
  else (if 57 < x0 then some 0
  else some 1))
set_option maxRecDepth 100000 in
set_option maxHeartbeats 2000000 in
theorem mX7_isDigit {G : zG} {x0 : Int32} {M : zM}  {res : Int32} (h : gX7_isDigit x0 M = some res) : Ct G 1 tX7_isDigit [.int x0] M (zQip M res) := by
  unfold gX7_isDigit at h
  refine Ct.of (y := yX7_isDigit) rfl plX7 (Nat.le_of_ble_eq_true rfl) (fun X hX => ?_)
  replace hX : zC G X cX7_isDigit 1 RX7 (some .boolean) 1 := hX
  show Z G X _ 0 [some (.int x0)] [] M
  refine z_iload_n hX dX7_isDigit_0 rfl 1 rfl ?_
  refine z_bipush hX dX7_isDigit_1 qb_48 3 rfl ?_
  refine z_icmp_lt hX dX7_isDigit_3 16 6 (by decide) rfl (fun hc => ?_) (fun hc => ?_)
  · rw [if_pos hc] at h
    refine z_iconst hX dX7_isDigit_16 qi_0 17 rfl ?_
    exact z_zreturn hX dX7_isDigit_17 (by decide) (zend_ip h)
  · rw [if_neg hc] at h
    refine z_iload_n hX dX7_isDigit_6 rfl 7 rfl ?_
    refine z_bipush hX dX7_isDigit_7 qb_57 9 rfl ?_
    refine z_icmp_gt hX dX7_isDigit_9 16 12 (by decide) rfl (fun hc => ?_) (fun hc => ?_)
    · rw [if_pos hc] at h
      refine z_iconst hX dX7_isDigit_16 qi_0 17 rfl ?_
      exact z_zreturn hX dX7_isDigit_17 (by decide) (zend_ip h)
    · rw [if_neg hc] at h
      refine z_iconst hX dX7_isDigit_12 qi_1 13 rfl ?_
      refine z_goto hX dX7_isDigit_13 17 (by decide) ?_
      exact z_zreturn hX dX7_isDigit_17 (by decide) (zend_ip h)
def gX7_takes (x1 : Int32) (M : zM) : Option (Int32 × zM) :=
  zcI (gX7_peek M) (fun v1_ => (if v1_ = x1 then zlet (zI M 50 2 ((M.1 50 2) + 1)) (fun M3_ => some (1, M3_))
  else some (0, M)))
set_option maxRecDepth 100000 in
set_option maxHeartbeats 2000000 in
theorem mX7_takes {G : zG} {x1 : Int32} {M : zM}  {res : (Int32 × zM)} (h : gX7_takes x1 M = some res) : Ct G 2 tX7_takes [.ref 50, .int x1] M (zQi res) := by
  unfold gX7_takes at h
  refine Ct.of (y := yX7_takes) rfl plX7 (Nat.le_of_ble_eq_true rfl) (fun X hX => ?_)
  replace hX : zC G X cX7_takes 2 RX7 (some .boolean) 2 := hX
  show Z G X _ 0 [some (.ref 50), some (.int x1)] [] M
  refine z_aload_n hX dX7_takes_0 rfl 1 rfl ?_
  obtain ⟨v1_, hq, h2_⟩ := zcI_of h
  refine z_callV hX vX7_peek lX7_48 dX7_takes_1 zs_50 rfl (mX7_peek  hq) (by decide) rfl rfl (Nat.le_of_ble_eq_true rfl) 4 rfl (Qi.to (fun v' M' hv => ?_))
  obtain ⟨rfl, rfl⟩ := hv
  refine z_iload_n hX dX7_takes_4 rfl 5 rfl ?_
  refine z_icmp_eq hX dX7_takes_5 10 8 (by decide) rfl (fun hc => ?_) (fun hc => ?_)
  · rw [if_pos hc] at h2_
    refine z_aload_n hX dX7_takes_10 rfl 11 rfl ?_
    refine z_dup hX dX7_takes_11 rfl 12 rfl ?_
    refine z_getI hX fX7_35 dX7_takes_12 zs_50 (by decide) rfl 15 rfl ?_
    refine z_iconst hX dX7_takes_15 qi_1 16 rfl ?_
    refine z_iadd hX dX7_takes_16 17 rfl ?_
    refine z_putI hX pX7_35 dX7_takes_17 zs_50 (by decide) rfl 20 rfl ?_
    refine z_mem h2_ (fun M3_ h4_ => ?_)
    refine z_iconst hX dX7_takes_20 qi_1 21 rfl ?_
    exact z_zreturn hX dX7_takes_21 (by decide) (zend_i h4_)
  · rw [if_neg hc] at h2_
    refine z_iconst hX dX7_takes_8 qi_0 9 rfl ?_
    exact z_zreturn hX dX7_takes_9 (by decide) (zend_i h2_)
def gX7_takeSign (x1 : Int32) (M : zM) : Option (Int32 × zM) :=
  (if x1 = 40 then some (5, M)
  else if x1 = 41 then some (6, M)
  else if x1 = 42 then some (37, M)
  else if x1 = 43 then some (35, M)
  else if x1 = 44 then some (1, M)
  else if x1 = 45 then some (36, M)
  else if x1 = 46 then some (1, M)
  else if x1 = 47 then some (38, M)
  else if x1 = 48 then some (1, M)
  else if x1 = 49 then some (1, M)
  else if x1 = 50 then some (1, M)
  else if x1 = 51 then some (1, M)
  else if x1 = 52 then some (1, M)
  else if x1 = 53 then some (1, M)
  else if x1 = 54 then some (1, M)
  else if x1 = 55 then some (1, M)
  else if x1 = 56 then some (1, M)
  else if x1 = 57 then some (1, M)
  else if x1 = 58 then some (1, M)
  else if x1 = 59 then some (4, M)
  else if x1 = 60 then zcIM (gX7_takes 61 M) (fun v1_ M2_ => (if v1_ = 0 then zcIM (gX7_takes 62 M2_) (fun v4_ M5_ => (if v4_ = 0 then some (29, M5_)
  else some (32, M5_)))
  else some (30, M2_)))
  else if x1 = 61 then some (31, M)
  else if x1 = 62 then zcIM (gX7_takes 61 M) (fun v7_ M8_ => (if v7_ = 0 then some (34, M8_)
  else some (33, M8_)))
  else some (1, M))
set_option maxRecDepth 100000 in
set_option maxHeartbeats 2000000 in
theorem mX7_takeSign {G : zG} {x1 : Int32} {M : zM}  {res : (Int32 × zM)} (h : gX7_takeSign x1 M = some res) : Ct G 3 tX7_takeSign [.ref 50, .int x1] M (zQi res) := by
  unfold gX7_takeSign at h
  refine Ct.of (y := yX7_takeSign) rfl plX7 (Nat.le_of_ble_eq_true rfl) (fun X hX => ?_)
  replace hX : zC G X cX7_takeSign 2 RX7 (some .int) 3 := hX
  show Z G X _ 0 [some (.ref 50), some (.int x1)] [] M
  refine z_iload_n hX dX7_takeSign_0 rfl 1 rfl ?_
  by_cases hc0 : x1 = 40
  · rw [if_pos hc0] at h
    refine z_tabIn hX dX7_takeSign_1 (by rw [hc0]; decide) (by rw [hc0]; decide) (by rw [hc0]; rfl) 110 (by decide) ?_
    refine z_iconst hX dX7_takeSign_110 qi_5 111 rfl ?_
    exact z_ireturn hX dX7_takeSign_111 (zend_i h)
  rw [if_neg hc0] at h
  by_cases hc1 : x1 = 41
  · rw [if_pos hc1] at h
    refine z_tabIn hX dX7_takeSign_1 (by rw [hc1]; decide) (by rw [hc1]; decide) (by rw [hc1]; rfl) 112 (by decide) ?_
    refine z_bipush hX dX7_takeSign_112 qb_6 114 rfl ?_
    exact z_ireturn hX dX7_takeSign_114 (zend_i h)
  rw [if_neg hc1] at h
  by_cases hc2 : x1 = 42
  · rw [if_pos hc2] at h
    refine z_tabIn hX dX7_takeSign_1 (by rw [hc2]; decide) (by rw [hc2]; decide) (by rw [hc2]; rfl) 121 (by decide) ?_
    refine z_bipush hX dX7_takeSign_121 qb_37 123 rfl ?_
    exact z_ireturn hX dX7_takeSign_123 (zend_i h)
  rw [if_neg hc2] at h
  by_cases hc3 : x1 = 43
  · rw [if_pos hc3] at h
    refine z_tabIn hX dX7_takeSign_1 (by rw [hc3]; decide) (by rw [hc3]; decide) (by rw [hc3]; rfl) 115 (by decide) ?_
    refine z_bipush hX dX7_takeSign_115 qb_35 117 rfl ?_
    exact z_ireturn hX dX7_takeSign_117 (zend_i h)
  rw [if_neg hc3] at h
  by_cases hc4 : x1 = 44
  · rw [if_pos hc4] at h
    refine z_tabIn hX dX7_takeSign_1 (by rw [hc4]; decide) (by rw [hc4]; decide) (by rw [hc4]; rfl) 176 (by decide) ?_
    refine z_iconst hX dX7_takeSign_176 qi_1 177 rfl ?_
    exact z_ireturn hX dX7_takeSign_177 (zend_i h)
  rw [if_neg hc4] at h
  by_cases hc5 : x1 = 45
  · rw [if_pos hc5] at h
    refine z_tabIn hX dX7_takeSign_1 (by rw [hc5]; decide) (by rw [hc5]; decide) (by rw [hc5]; rfl) 118 (by decide) ?_
    refine z_bipush hX dX7_takeSign_118 qb_36 120 rfl ?_
    exact z_ireturn hX dX7_takeSign_120 (zend_i h)
  rw [if_neg hc5] at h
  by_cases hc6 : x1 = 46
  · rw [if_pos hc6] at h
    refine z_tabIn hX dX7_takeSign_1 (by rw [hc6]; decide) (by rw [hc6]; decide) (by rw [hc6]; rfl) 176 (by decide) ?_
    refine z_iconst hX dX7_takeSign_176 qi_1 177 rfl ?_
    exact z_ireturn hX dX7_takeSign_177 (zend_i h)
  rw [if_neg hc6] at h
  by_cases hc7 : x1 = 47
  · rw [if_pos hc7] at h
    refine z_tabIn hX dX7_takeSign_1 (by rw [hc7]; decide) (by rw [hc7]; decide) (by rw [hc7]; rfl) 124 (by decide) ?_
    refine z_bipush hX dX7_takeSign_124 qb_38 126 rfl ?_
    exact z_ireturn hX dX7_takeSign_126 (zend_i h)
  rw [if_neg hc7] at h
  by_cases hc8 : x1 = 48
  · rw [if_pos hc8] at h
    refine z_tabIn hX dX7_takeSign_1 (by rw [hc8]; decide) (by rw [hc8]; decide) (by rw [hc8]; rfl) 176 (by decide) ?_
    refine z_iconst hX dX7_takeSign_176 qi_1 177 rfl ?_
    exact z_ireturn hX dX7_takeSign_177 (zend_i h)
  rw [if_neg hc8] at h
  by_cases hc9 : x1 = 49
  · rw [if_pos hc9] at h
    refine z_tabIn hX dX7_takeSign_1 (by rw [hc9]; decide) (by rw [hc9]; decide) (by rw [hc9]; rfl) 176 (by decide) ?_
    refine z_iconst hX dX7_takeSign_176 qi_1 177 rfl ?_
    exact z_ireturn hX dX7_takeSign_177 (zend_i h)
  rw [if_neg hc9] at h
  by_cases hc10 : x1 = 50
  · rw [if_pos hc10] at h
    refine z_tabIn hX dX7_takeSign_1 (by rw [hc10]; decide) (by rw [hc10]; decide) (by rw [hc10]; rfl) 176 (by decide) ?_
    refine z_iconst hX dX7_takeSign_176 qi_1 177 rfl ?_
    exact z_ireturn hX dX7_takeSign_177 (zend_i h)
  rw [if_neg hc10] at h
  by_cases hc11 : x1 = 51
  · rw [if_pos hc11] at h
    refine z_tabIn hX dX7_takeSign_1 (by rw [hc11]; decide) (by rw [hc11]; decide) (by rw [hc11]; rfl) 176 (by decide) ?_
    refine z_iconst hX dX7_takeSign_176 qi_1 177 rfl ?_
    exact z_ireturn hX dX7_takeSign_177 (zend_i h)
  rw [if_neg hc11] at h
  by_cases hc12 : x1 = 52
  · rw [if_pos hc12] at h
    refine z_tabIn hX dX7_takeSign_1 (by rw [hc12]; decide) (by rw [hc12]; decide) (by rw [hc12]; rfl) 176 (by decide) ?_
    refine z_iconst hX dX7_takeSign_176 qi_1 177 rfl ?_
    exact z_ireturn hX dX7_takeSign_177 (zend_i h)
  rw [if_neg hc12] at h
  by_cases hc13 : x1 = 53
  · rw [if_pos hc13] at h
    refine z_tabIn hX dX7_takeSign_1 (by rw [hc13]; decide) (by rw [hc13]; decide) (by rw [hc13]; rfl) 176 (by decide) ?_
    refine z_iconst hX dX7_takeSign_176 qi_1 177 rfl ?_
    exact z_ireturn hX dX7_takeSign_177 (zend_i h)
  rw [if_neg hc13] at h
  by_cases hc14 : x1 = 54
  · rw [if_pos hc14] at h
    refine z_tabIn hX dX7_takeSign_1 (by rw [hc14]; decide) (by rw [hc14]; decide) (by rw [hc14]; rfl) 176 (by decide) ?_
    refine z_iconst hX dX7_takeSign_176 qi_1 177 rfl ?_
    exact z_ireturn hX dX7_takeSign_177 (zend_i h)
  rw [if_neg hc14] at h
  by_cases hc15 : x1 = 55
  · rw [if_pos hc15] at h
    refine z_tabIn hX dX7_takeSign_1 (by rw [hc15]; decide) (by rw [hc15]; decide) (by rw [hc15]; rfl) 176 (by decide) ?_
    refine z_iconst hX dX7_takeSign_176 qi_1 177 rfl ?_
    exact z_ireturn hX dX7_takeSign_177 (zend_i h)
  rw [if_neg hc15] at h
  by_cases hc16 : x1 = 56
  · rw [if_pos hc16] at h
    refine z_tabIn hX dX7_takeSign_1 (by rw [hc16]; decide) (by rw [hc16]; decide) (by rw [hc16]; rfl) 176 (by decide) ?_
    refine z_iconst hX dX7_takeSign_176 qi_1 177 rfl ?_
    exact z_ireturn hX dX7_takeSign_177 (zend_i h)
  rw [if_neg hc16] at h
  by_cases hc17 : x1 = 57
  · rw [if_pos hc17] at h
    refine z_tabIn hX dX7_takeSign_1 (by rw [hc17]; decide) (by rw [hc17]; decide) (by rw [hc17]; rfl) 176 (by decide) ?_
    refine z_iconst hX dX7_takeSign_176 qi_1 177 rfl ?_
    exact z_ireturn hX dX7_takeSign_177 (zend_i h)
  rw [if_neg hc17] at h
  by_cases hc18 : x1 = 58
  · rw [if_pos hc18] at h
    refine z_tabIn hX dX7_takeSign_1 (by rw [hc18]; decide) (by rw [hc18]; decide) (by rw [hc18]; rfl) 176 (by decide) ?_
    refine z_iconst hX dX7_takeSign_176 qi_1 177 rfl ?_
    exact z_ireturn hX dX7_takeSign_177 (zend_i h)
  rw [if_neg hc18] at h
  by_cases hc19 : x1 = 59
  · rw [if_pos hc19] at h
    refine z_tabIn hX dX7_takeSign_1 (by rw [hc19]; decide) (by rw [hc19]; decide) (by rw [hc19]; rfl) 108 (by decide) ?_
    refine z_iconst hX dX7_takeSign_108 qi_4 109 rfl ?_
    exact z_ireturn hX dX7_takeSign_109 (zend_i h)
  rw [if_neg hc19] at h
  by_cases hc20 : x1 = 60
  · rw [if_pos hc20] at h
    refine z_tabIn hX dX7_takeSign_1 (by rw [hc20]; decide) (by rw [hc20]; decide) (by rw [hc20]; rfl) 130 (by decide) ?_
    refine z_aload_n hX dX7_takeSign_130 rfl 131 rfl ?_
    refine z_bipush hX dX7_takeSign_131 qb_61 133 rfl ?_
    obtain ⟨v1_, M2_, hq, h3_⟩ := zcIM_of h
    refine z_callV hX vX7_takes lX7_78 dX7_takeSign_133 zs_50 rfl (mX7_takes  hq) (by decide) rfl rfl (Nat.le_of_ble_eq_true rfl) 136 rfl (Qi.to (fun v' M' hv => ?_))
    cases hv
    refine z_if_eq hX dX7_takeSign_136 142 139 (by decide) rfl (fun hc => ?_) (fun hc => ?_)
    · rw [if_pos hc] at h3_
      refine z_aload_n hX dX7_takeSign_142 rfl 143 rfl ?_
      refine z_bipush hX dX7_takeSign_143 qb_62 145 rfl ?_
      obtain ⟨v4_, M5_, hq, h6_⟩ := zcIM_of h3_
      refine z_callV hX vX7_takes lX7_78 dX7_takeSign_145 zs_50 rfl (mX7_takes  hq) (by decide) rfl rfl (Nat.le_of_ble_eq_true rfl) 148 rfl (Qi.to (fun v' M' hv => ?_))
      cases hv
      refine z_if_eq hX dX7_takeSign_148 156 151 (by decide) rfl (fun hc => ?_) (fun hc => ?_)
      · rw [if_pos hc] at h6_
        refine z_bipush hX dX7_takeSign_156 qb_29 158 rfl ?_
        exact z_ireturn hX dX7_takeSign_158 (zend_i h6_)
      · rw [if_neg hc] at h6_
        refine z_bipush hX dX7_takeSign_151 qb_32 153 rfl ?_
        refine z_goto hX dX7_takeSign_153 158 (by decide) ?_
        exact z_ireturn hX dX7_takeSign_158 (zend_i h6_)
    · rw [if_neg hc] at h3_
      refine z_bipush hX dX7_takeSign_139 qb_30 141 rfl ?_
      exact z_ireturn hX dX7_takeSign_141 (zend_i h3_)
  rw [if_neg hc20] at h
  by_cases hc21 : x1 = 61
  · rw [if_pos hc21] at h
    refine z_tabIn hX dX7_takeSign_1 (by rw [hc21]; decide) (by rw [hc21]; decide) (by rw [hc21]; rfl) 127 (by decide) ?_
    refine z_bipush hX dX7_takeSign_127 qb_31 129 rfl ?_
    exact z_ireturn hX dX7_takeSign_129 (zend_i h)
  rw [if_neg hc21] at h
  by_cases hc22 : x1 = 62
  · rw [if_pos hc22] at h
    refine z_tabIn hX dX7_takeSign_1 (by rw [hc22]; decide) (by rw [hc22]; decide) (by rw [hc22]; rfl) 159 (by decide) ?_
    refine z_aload_n hX dX7_takeSign_159 rfl 160 rfl ?_
    refine z_bipush hX dX7_takeSign_160 qb_61 162 rfl ?_
    obtain ⟨v7_, M8_, hq, h9_⟩ := zcIM_of h
    refine z_callV hX vX7_takes lX7_78 dX7_takeSign_162 zs_50 rfl (mX7_takes  hq) (by decide) rfl rfl (Nat.le_of_ble_eq_true rfl) 165 rfl (Qi.to (fun v' M' hv => ?_))
    cases hv
    refine z_if_eq hX dX7_takeSign_165 173 168 (by decide) rfl (fun hc => ?_) (fun hc => ?_)
    · rw [if_pos hc] at h9_
      refine z_bipush hX dX7_takeSign_173 qb_34 175 rfl ?_
      exact z_ireturn hX dX7_takeSign_175 (zend_i h9_)
    · rw [if_neg hc] at h9_
      refine z_bipush hX dX7_takeSign_168 qb_33 170 rfl ?_
      refine z_goto hX dX7_takeSign_170 175 (by decide) ?_
      exact z_ireturn hX dX7_takeSign_175 (zend_i h9_)
  rw [if_neg hc22] at h
  have hout : (x1 : Int32).toInt < 40 ∨ 62 < (x1 : Int32).toInt := zsw_out (fun k h1 h2 => by
    have hk : k = 40 ∨ k = 41 ∨ k = 42 ∨ k = 43 ∨ k = 44 ∨ k = 45 ∨ k = 46 ∨ k = 47 ∨ k = 48 ∨ k = 49 ∨ k = 50 ∨ k = 51 ∨ k = 52 ∨ k = 53 ∨ k = 54 ∨ k = 55 ∨ k = 56 ∨ k = 57 ∨ k = 58 ∨ k = 59 ∨ k = 60 ∨ k = 61 ∨ k = 62 := by omega
    rcases hk with rfl | rfl | rfl | rfl | rfl | rfl | rfl | rfl | rfl | rfl | rfl | rfl | rfl | rfl | rfl | rfl | rfl | rfl | rfl | rfl | rfl | rfl | rfl
    · exact hc0
    · exact hc1
    · exact hc2
    · exact hc3
    · exact hc4
    · exact hc5
    · exact hc6
    · exact hc7
    · exact hc8
    · exact hc9
    · exact hc10
    · exact hc11
    · exact hc12
    · exact hc13
    · exact hc14
    · exact hc15
    · exact hc16
    · exact hc17
    · exact hc18
    · exact hc19
    · exact hc20
    · exact hc21
    · exact hc22)
  refine z_tabOut hX dX7_takeSign_1 hout 176 (by decide) ?_
  refine z_iconst hX dX7_takeSign_176 qi_1 177 rfl ?_
  exact z_ireturn hX dX7_takeSign_177 (zend_i h)
def gX7_takeNumber_J54 (x1 : Int32) (x2 : Int32) (M : zM) : Option (Int32 × zM) :=
  zg (zok x1 701) (zlet (zI M 53 (x1 : Int32).toNatClampNeg x2) (fun M2_ => some (3, M2_)))
set_option maxRecDepth 100000 in
set_option maxHeartbeats 2000000 in
theorem aX7_takeNumber_J54 {G : zG} {X : zX} {x1 : Int32} {x2 : Int32} (hX : zC G X cX7_takeNumber 3 RX7 (some .int) 2)   {M : zM} {res : (Int32 × zM)}  (h : gX7_takeNumber_J54 x1 x2 M = some res) : Z G X (zQi res) 54 [some (.ref 50), some (.int x1), some (.int x2)] [] M := by
  unfold gX7_takeNumber_J54 at h
  refine z_aload_n hX dX7_takeNumber_54 rfl 55 rfl ?_
  refine z_getF hX fX7_22 dX7_takeNumber_55 zs_50 (by decide) rfl 58 rfl ?_
  refine z_iload_n hX dX7_takeNumber_58 rfl 59 rfl ?_
  refine z_iload_n hX dX7_takeNumber_59 rfl 60 rfl ?_
  obtain ⟨hb, h1_⟩ := zgd h
  refine z_iast hX dX7_takeNumber_60 zs_53 (zok_in hb) 61 rfl ?_
  refine z_mem h1_ (fun M2_ h3_ => ?_)
  refine z_iconst hX dX7_takeNumber_61 qi_3 62 rfl ?_
  exact z_ireturn hX dX7_takeNumber_62 (zend_i h3_)
def gX7_takeNumber_L2 (x1 : Int32) (rc2 : (Int32 × zM) → Option (Int32 × zM)) (s : (Int32 × zM)) : Option (Int32 × zM) :=
  (if (s.2.1 50 1) ≤ (s.2.1 50 2) then gX7_takeNumber_J54 x1 s.1 s.2
  else zcI (gX7_peek s.2) (fun v4_ => zcI (gX7_isDigit v4_ s.2) (fun v6_ => (if v6_ = 0 then gX7_takeNumber_J54 x1 s.1 s.2
  else zcI (gX7_peek s.2) (fun v8_ => zlet ((if (((s.1 * 10) + v8_) - 48) < 1000000 then (((s.1 * 10) + v8_) - 48) else 1000000)) (fun x10_ => zlet (zI s.2 50 2 ((s.2.1 50 2) + 1)) (fun M12_ => rc2 (x10_, M12_))))))))
set_option maxRecDepth 100000 in
set_option maxHeartbeats 2000000 in
theorem aX7_takeNumber_L2 {G : zG} {X : zX} {x1 : Int32} (hX : zC G X cX7_takeNumber 3 RX7 (some .int) 2)    {res : (Int32 × zM)}  : ∀ (N : Nat) (s : (Int32 × zM)), zfix N (gX7_takeNumber_L2 x1) s = some res → Z G X (zQi res) 2 [some (.ref 50), some (.int x1), some (.int s.1)] [] s.2 := by
  intro N
  induction N with
  | zero => intro s h; cases h
  | succ N hrc2 =>
    intro s h
    replace h : gX7_takeNumber_L2 x1 (zfix N (gX7_takeNumber_L2 x1)) s = some res := h
    unfold gX7_takeNumber_L2 at h
    refine z_aload_n hX dX7_takeNumber_2 rfl 3 rfl ?_
    refine z_getI hX fX7_35 dX7_takeNumber_3 zs_50 (by decide) rfl 6 rfl ?_
    refine z_aload_n hX dX7_takeNumber_6 rfl 7 rfl ?_
    refine z_getI hX fX7_31 dX7_takeNumber_7 zs_50 (by decide) rfl 10 rfl ?_
    refine z_icmp_ge hX dX7_takeNumber_10 54 13 (by decide) rfl (fun hc => ?_) (fun hc => ?_)
    · rw [if_pos hc] at h
      refine z_mask [true, true, true] ?_
      have hz := aX7_takeNumber_J54 hX h
      exact hz
    · rw [if_neg hc] at h
      refine z_aload_n hX dX7_takeNumber_13 rfl 14 rfl ?_
      obtain ⟨v4_, hq, h5_⟩ := zcI_of h
      refine z_callV hX vX7_peek lX7_48 dX7_takeNumber_14 zs_50 rfl (mX7_peek  hq) (by decide) rfl rfl (Nat.le_of_ble_eq_true rfl) 17 rfl (Qi.to (fun v' M' hv => ?_))
      obtain ⟨rfl, rfl⟩ := hv
      obtain ⟨v6_, hq, h7_⟩ := zcI_of h5_
      refine z_callS hX vX7_isDigit rfl lX7_61 dX7_takeNumber_17 (mX7_isDigit  hq) (by decide) rfl rfl (Nat.le_of_ble_eq_true rfl) 20 rfl (Qi.to (fun v' M' hv => ?_))
      obtain ⟨rfl, rfl⟩ := hv
      refine z_if_eq hX dX7_takeNumber_20 54 23 (by decide) rfl (fun hc => ?_) (fun hc => ?_)
      · rw [if_pos hc] at h7_
        refine z_mask [true, true, true] ?_
        have hz := aX7_takeNumber_J54 hX h7_
        exact hz
      · rw [if_neg hc] at h7_
        refine z_ldc hX dX7_takeNumber_23 kX7_77 25 rfl ?_
        refine z_iload_n hX dX7_takeNumber_25 rfl 26 rfl ?_
        refine z_bipush hX dX7_takeNumber_26 qb_10 28 rfl ?_
        refine z_imul hX dX7_takeNumber_28 29 rfl ?_
        refine z_aload_n hX dX7_takeNumber_29 rfl 30 rfl ?_
        obtain ⟨v8_, hq, h9_⟩ := zcI_of h7_
        refine z_callV hX vX7_peek lX7_48 dX7_takeNumber_30 zs_50 rfl (mX7_peek  hq) (by decide) rfl rfl (Nat.le_of_ble_eq_true rfl) 33 rfl (Qi.to (fun v' M' hv => ?_))
        obtain ⟨rfl, rfl⟩ := hv
        refine z_iadd hX dX7_takeNumber_33 34 rfl ?_
        refine z_bipush hX dX7_takeNumber_34 qb_48 36 rfl ?_
        refine z_isub hX dX7_takeNumber_36 37 rfl ?_
        refine z_min hX dX7_takeNumber_37 lX7_25 (by decide) (Nat.le_of_ble_eq_true rfl) 40 rfl ?_
        refine z_topi h9_ (fun x10_ h11_ => ?_)
        refine z_istore_n hX dX7_takeNumber_40 (by decide) 41 rfl ?_
        refine z_aload_n hX dX7_takeNumber_41 rfl 42 rfl ?_
        refine z_dup hX dX7_takeNumber_42 rfl 43 rfl ?_
        refine z_getI hX fX7_35 dX7_takeNumber_43 zs_50 (by decide) rfl 46 rfl ?_
        refine z_iconst hX dX7_takeNumber_46 qi_1 47 rfl ?_
        refine z_iadd hX dX7_takeNumber_47 48 rfl ?_
        refine z_putI hX pX7_35 dX7_takeNumber_48 zs_50 (by decide) rfl 51 rfl ?_
        refine z_mem h11_ (fun M12_ h13_ => ?_)
        refine z_goto hX dX7_takeNumber_51 2 (by decide) ?_
        refine z_mask [true, true, true] ?_
        have hz := hrc2 _ h13_
        exact hz
def gX7_takeNumber (x1 : Int32) (M : zM) : Option (Int32 × zM) :=
  zfix zFu (gX7_takeNumber_L2 x1) (0, M)
set_option maxRecDepth 100000 in
set_option maxHeartbeats 2000000 in
theorem mX7_takeNumber {G : zG} {x1 : Int32} {M : zM}  {res : (Int32 × zM)} (h : gX7_takeNumber x1 M = some res) : Ct G 2 tX7_takeNumber [.ref 50, .int x1] M (zQi res) := by
  unfold gX7_takeNumber at h
  refine Ct.of (y := yX7_takeNumber) rfl plX7 (Nat.le_of_ble_eq_true rfl) (fun X hX => ?_)
  replace hX : zC G X cX7_takeNumber 3 RX7 (some .int) 2 := hX
  show Z G X _ 0 [some (.ref 50), some (.int x1), none] [] M
  refine z_iconst hX dX7_takeNumber_0 qi_0 1 rfl ?_
  refine z_istore_n hX dX7_takeNumber_1 (by decide) 2 rfl ?_
  refine z_mask [true, true, true] ?_
  have hz := aX7_takeNumber_L2 hX _ _ h
  exact hz
def gX9_findS_L2 (x1 : Int32) (x2 : Int32) (M : zM) (rc2 : Int32 → Option Int32) (s : Int32) : Option Int32 :=
  (if x1 ≤ s then some (-1)
  else (if 22 ≤ s then some (-1)
  else zg (zok s 22) ((if (zc2 (s : Int32).toNatClampNeg) = x2 then some s
  else rc2 (s + 1)))))
set_option maxRecDepth 100000 in
set_option maxHeartbeats 2000000 in
theorem aX9_findS_L2 {G : zG} {X : zX} {x1 : Int32} {x2 : Int32} (hX : zC G X cX9_find 4 RX9 (some .int) 1)   {M : zM} {res : Int32}  : ∀ (N : Nat) (s : Int32), zfix N (gX9_findS_L2 x1 x2 M) s = some res → Z G X (zQip M res) 2 [some (.ref 144), some (.int x1), some (.int x2), some (.int s)] [] M := by
  intro N
  induction N with
  | zero => intro s h; cases h
  | succ N hrc2 =>
    intro s h
    replace h : gX9_findS_L2 x1 x2 M (zfix N (gX9_findS_L2 x1 x2 M)) s = some res := h
    unfold gX9_findS_L2 at h
    refine z_iload_n hX dX9_find_2 rfl 3 rfl ?_
    refine z_iload_n hX dX9_find_3 rfl 4 rfl ?_
    refine z_icmp_ge hX dX9_find_4 28 7 (by decide) rfl (fun hc => ?_) (fun hc => ?_)
    · rw [if_pos hc] at h
      refine z_iconst hX dX9_find_28 qi_m1 29 rfl ?_
      exact z_ireturn hX dX9_find_29 (zend_ip h)
    · rw [if_neg hc] at h
      refine z_iload_n hX dX9_find_7 rfl 8 rfl ?_
      refine z_aload_n hX dX9_find_8 rfl 9 rfl ?_
      refine z_slen144 hX dX9_find_9 10 rfl ?_
      refine z_icmp_ge hX dX9_find_10 28 13 (by decide) rfl (fun hc => ?_) (fun hc => ?_)
      · rw [if_pos hc] at h
        refine z_iconst hX dX9_find_28 qi_m1 29 rfl ?_
        exact z_ireturn hX dX9_find_29 (zend_ip h)
      · rw [if_neg hc] at h
        refine z_aload_n hX dX9_find_13 rfl 14 rfl ?_
        refine z_iload_n hX dX9_find_14 rfl 15 rfl ?_
        obtain ⟨hb, h1_⟩ := zgd h
        refine z_sld144 hX dX9_find_15 (zok_in hb) 16 rfl ?_
        refine z_iload_n hX dX9_find_16 rfl 17 rfl ?_
        refine z_icmp_ne hX dX9_find_17 22 20 (by decide) rfl (fun hc => ?_) (fun hc => ?_)
        · rw [if_neg hc] at h1_
          refine z_iinc (v := (s + 1)) hX dX9_find_22 rfl (by rfl) (by decide) 25 rfl ?_
          refine z_goto hX dX9_find_25 2 (by decide) ?_
          refine z_mask [true, true, true, true] ?_
          have hz := hrc2 _ h1_
          exact hz
        · rw [if_pos hc] at h1_
          refine z_iload_n hX dX9_find_20 rfl 21 rfl ?_
          exact z_ireturn hX dX9_find_21 (zend_ip h1_)
def gX9_findS (x1 : Int32) (x2 : Int32) (M : zM) : Option Int32 :=
  zfix zFu (gX9_findS_L2 x1 x2 M) 0
set_option maxRecDepth 100000 in
set_option maxHeartbeats 2000000 in
theorem mX9_findS {G : zG} {x1 : Int32} {x2 : Int32} {M : zM}  {res : Int32} (h : gX9_findS x1 x2 M = some res) : Ct G 1 tX9_find [.ref 144, .int x1, .int x2] M (zQip M res) := by
  unfold gX9_findS at h
  refine Ct.of (y := yX9_find) rfl plX9 (Nat.le_of_ble_eq_true rfl) (fun X hX => ?_)
  replace hX : zC G X cX9_find 4 RX9 (some .int) 1 := hX
  show Z G X _ 0 [some (.ref 144), some (.int x1), some (.int x2), none] [] M
  refine z_iconst hX dX9_find_0 qi_0 1 rfl ?_
  refine z_istore_n hX dX9_find_1 (by decide) 2 rfl ?_
  refine z_mask [true, true, true, true] ?_
  have hz := aX9_findS_L2 hX _ _ h
  exact hz
def gX7_takeWord_J76 (x1 : Int32) (x2 : Int32) (x3 : Int32) (M : zM) : Option (Int32 × zM) :=
  (if ((M.1 50 2) - x2) ≤ 6 then zg (zok x1 701) (zlet (zI M 53 (x1 : Int32).toNatClampNeg x3) (fun M2_ => zcI (gX9_findS 22 x3 M2_) (fun v4_ => (if 0 ≤ v4_ then some ((7 + v4_), M2_)
  else some (2, M2_)))))
  else some (1, M))
set_option maxRecDepth 100000 in
set_option maxHeartbeats 2000000 in
theorem aX7_takeWord_J76 {G : zG} {X : zX} {x1 : Int32} {x2 : Int32} {x3 : Int32} (hX : zC G X cX7_takeWord 5 RX7 (some .int) 2)   {M : zM} {res : (Int32 × zM)}  (h : gX7_takeWord_J76 x1 x2 x3 M = some res) : Z G X (zQi res) 76 [some (.ref 50), some (.int x1), some (.int x2), some (.int x3), none] [] M := by
  unfold gX7_takeWord_J76 at h
  refine z_aload_n hX dX7_takeWord_76 rfl 77 rfl ?_
  refine z_getI hX fX7_35 dX7_takeWord_77 zs_50 (by decide) rfl 80 rfl ?_
  refine z_iload_n hX dX7_takeWord_80 rfl 81 rfl ?_
  refine z_isub hX dX7_takeWord_81 82 rfl ?_
  refine z_bipush hX dX7_takeWord_82 qb_6 84 rfl ?_
  refine z_icmp_le hX dX7_takeWord_84 89 87 (by decide) rfl (fun hc => ?_) (fun hc => ?_)
  · rw [if_pos hc] at h
    refine z_aload_n hX dX7_takeWord_89 rfl 90 rfl ?_
    refine z_getF hX fX7_22 dX7_takeWord_90 zs_50 (by decide) rfl 93 rfl ?_
    refine z_iload_n hX dX7_takeWord_93 rfl 94 rfl ?_
    refine z_iload_n hX dX7_takeWord_94 rfl 95 rfl ?_
    obtain ⟨hb, h1_⟩ := zgd h
    refine z_iast hX dX7_takeWord_95 zs_53 (zok_in hb) 96 rfl ?_
    refine z_mem h1_ (fun M2_ h3_ => ?_)
    refine z_get144 hX dX7_takeWord_96 (zin (by decide +kernel) rfl) 99 rfl ?_
    refine z_get144 hX dX7_takeWord_99 (zin (by decide +kernel) rfl) 102 rfl ?_
    refine z_slen144 hX dX7_takeWord_102 103 rfl ?_
    refine z_iload_n hX dX7_takeWord_103 rfl 104 rfl ?_
    obtain ⟨v4_, hq, h5_⟩ := zcI_of h3_
    refine z_callSN (host := "ColdFeet") hX vX9_find (by decide +kernel) dX7_takeWord_104 (mX9_findS  hq) (by decide) rfl rfl (Nat.le_of_ble_eq_true rfl) 107 rfl (Qi.to (fun v' M' hv => ?_))
    obtain ⟨rfl, rfl⟩ := hv
    refine z_istore hX dX7_takeWord_107 (by decide) 109 rfl ?_
    refine z_iload hX dX7_takeWord_109 rfl 111 rfl ?_
    refine z_if_ge hX dX7_takeWord_111 118 114 (by decide) rfl (fun hc => ?_) (fun hc => ?_)
    · rw [if_pos hc] at h5_
      refine z_bipush hX dX7_takeWord_118 qb_7 120 rfl ?_
      refine z_iload hX dX7_takeWord_120 rfl 122 rfl ?_
      refine z_iadd hX dX7_takeWord_122 123 rfl ?_
      exact z_ireturn hX dX7_takeWord_123 (zend_i h5_)
    · rw [if_neg hc] at h5_
      refine z_iconst hX dX7_takeWord_114 qi_2 115 rfl ?_
      refine z_goto hX dX7_takeWord_115 123 (by decide) ?_
      exact z_ireturn hX dX7_takeWord_123 (zend_i h5_)
  · rw [if_neg hc] at h
    refine z_iconst hX dX7_takeWord_87 qi_1 88 rfl ?_
    exact z_ireturn hX dX7_takeWord_88 (zend_i h)
def gX7_takeWord_J63 (x1 : Int32) (x2 : Int32) (x3 : Int32) (rc7 : (Int32 × zM) → Option (Int32 × zM)) (M : zM) : Option (Int32 × zM) :=
  zlet (zI M 50 2 ((M.1 50 2) + 1)) (fun M10_ => rc7 (x3, M10_))
set_option maxRecDepth 100000 in
set_option maxHeartbeats 2000000 in
theorem aX7_takeWord_J63 {G : zG} {X : zX} {x1 : Int32} {x2 : Int32} {x3 : Int32} (hX : zC G X cX7_takeWord 5 RX7 (some .int) 2)  {rc7 : (Int32 × zM) → Option (Int32 × zM)} {M : zM} {res : (Int32 × zM)} (hrc7 : ∀ s : (Int32 × zM), rc7 s = some res → Z G X (zQi res) 7 [some (.ref 50), some (.int x1), some (.int x2), some (.int s.1), none] [] s.2) (h : gX7_takeWord_J63 x1 x2 x3 rc7 M = some res) : Z G X (zQi res) 63 [some (.ref 50), some (.int x1), some (.int x2), some (.int x3), none] [] M := by
  unfold gX7_takeWord_J63 at h
  refine z_aload_n hX dX7_takeWord_63 rfl 64 rfl ?_
  refine z_dup hX dX7_takeWord_64 rfl 65 rfl ?_
  refine z_getI hX fX7_35 dX7_takeWord_65 zs_50 (by decide) rfl 68 rfl ?_
  refine z_iconst hX dX7_takeWord_68 qi_1 69 rfl ?_
  refine z_iadd hX dX7_takeWord_69 70 rfl ?_
  refine z_putI hX pX7_35 dX7_takeWord_70 zs_50 (by decide) rfl 73 rfl ?_
  refine z_mem h (fun M10_ h11_ => ?_)
  refine z_goto hX dX7_takeWord_73 7 (by decide) ?_
  refine z_mask [true, true, true, true, false] ?_
  have hz := hrc7 _ h11_
  exact hz
def gX7_takeWord_L7 (x1 : Int32) (x2 : Int32) (rc7 : (Int32 × zM) → Option (Int32 × zM)) (s : (Int32 × zM)) : Option (Int32 × zM) :=
  (if (s.2.1 50 1) ≤ (s.2.1 50 2) then gX7_takeWord_J76 x1 x2 s.1 s.2
  else zcI (gX7_peek s.2) (fun v6_ => zcI (gX7_isLetter v6_ s.2) (fun v8_ => (if v8_ = 0 then gX7_takeWord_J76 x1 x2 s.1 s.2
  else (if 6 ≤ ((s.2.1 50 2) - x2) then gX7_takeWord_J63 x1 x2 s.1 rc7 s.2
  else zcI (gX7_peek s.2) (fun v12_ => zlet ((s.1 ||| ((((v12_ - 97) + 1) : Int32) <<< (((25 - (5 * ((s.2.1 50 2) - x2))) : Int32) &&& 31)))) (fun x14_ => gX7_takeWord_J63 x1 x2 x14_ rc7 s.2)))))))
set_option maxRecDepth 100000 in
set_option maxHeartbeats 2000000 in
theorem aX7_takeWord_L7 {G : zG} {X : zX} {x1 : Int32} {x2 : Int32} (hX : zC G X cX7_takeWord 5 RX7 (some .int) 2)    {res : (Int32 × zM)}  : ∀ (N : Nat) (s : (Int32 × zM)), zfix N (gX7_takeWord_L7 x1 x2) s = some res → Z G X (zQi res) 7 [some (.ref 50), some (.int x1), some (.int x2), some (.int s.1), none] [] s.2 := by
  intro N
  induction N with
  | zero => intro s h; cases h
  | succ N hrc7 =>
    intro s h
    replace h : gX7_takeWord_L7 x1 x2 (zfix N (gX7_takeWord_L7 x1 x2)) s = some res := h
    unfold gX7_takeWord_L7 at h
    refine z_aload_n hX dX7_takeWord_7 rfl 8 rfl ?_
    refine z_getI hX fX7_35 dX7_takeWord_8 zs_50 (by decide) rfl 11 rfl ?_
    refine z_aload_n hX dX7_takeWord_11 rfl 12 rfl ?_
    refine z_getI hX fX7_31 dX7_takeWord_12 zs_50 (by decide) rfl 15 rfl ?_
    refine z_icmp_ge hX dX7_takeWord_15 76 18 (by decide) rfl (fun hc => ?_) (fun hc => ?_)
    · rw [if_pos hc] at h
      refine z_mask [true, true, true, true, false] ?_
      have hz := aX7_takeWord_J76 hX h
      exact hz
    · rw [if_neg hc] at h
      refine z_aload_n hX dX7_takeWord_18 rfl 19 rfl ?_
      obtain ⟨v6_, hq, h7_⟩ := zcI_of h
      refine z_callV hX vX7_peek lX7_48 dX7_takeWord_19 zs_50 rfl (mX7_peek  hq) (by decide) rfl rfl (Nat.le_of_ble_eq_true rfl) 22 rfl (Qi.to (fun v' M' hv => ?_))
      obtain ⟨rfl, rfl⟩ := hv
      obtain ⟨v8_, hq, h9_⟩ := zcI_of h7_
      refine z_callS hX vX7_isLetter rfl lX7_54 dX7_takeWord_22 (mX7_isLetter  hq) (by decide) rfl rfl (Nat.le_of_ble_eq_true rfl) 25 rfl (Qi.to (fun v' M' hv => ?_))
      obtain ⟨rfl, rfl⟩ := hv
      refine z_if_eq hX dX7_takeWord_25 76 28 (by decide) rfl (fun hc => ?_) (fun hc => ?_)
      · rw [if_pos hc] at h9_
        refine z_mask [true, true, true, true, false] ?_
        have hz := aX7_takeWord_J76 hX h9_
        exact hz
      · rw [if_neg hc] at h9_
        refine z_aload_n hX dX7_takeWord_28 rfl 29 rfl ?_
        refine z_getI hX fX7_35 dX7_takeWord_29 zs_50 (by decide) rfl 32 rfl ?_
        refine z_iload_n hX dX7_takeWord_32 rfl 33 rfl ?_
        refine z_isub hX dX7_takeWord_33 34 rfl ?_
        refine z_bipush hX dX7_takeWord_34 qb_6 36 rfl ?_
        refine z_icmp_ge hX dX7_takeWord_36 63 39 (by decide) rfl (fun hc => ?_) (fun hc => ?_)
        · rw [if_pos hc] at h9_
          refine z_mask [true, true, true, true, false] ?_
          have hz := aX7_takeWord_J63 hX hrc7 h9_
          exact hz
        · rw [if_neg hc] at h9_
          refine z_iload_n hX dX7_takeWord_39 rfl 40 rfl ?_
          refine z_aload_n hX dX7_takeWord_40 rfl 41 rfl ?_
          obtain ⟨v12_, hq, h13_⟩ := zcI_of h9_
          refine z_callV hX vX7_peek lX7_48 dX7_takeWord_41 zs_50 rfl (mX7_peek  hq) (by decide) rfl rfl (Nat.le_of_ble_eq_true rfl) 44 rfl (Qi.to (fun v' M' hv => ?_))
          obtain ⟨rfl, rfl⟩ := hv
          refine z_bipush hX dX7_takeWord_44 qb_97 46 rfl ?_
          refine z_isub hX dX7_takeWord_46 47 rfl ?_
          refine z_iconst hX dX7_takeWord_47 qi_1 48 rfl ?_
          refine z_iadd hX dX7_takeWord_48 49 rfl ?_
          refine z_bipush hX dX7_takeWord_49 qb_25 51 rfl ?_
          refine z_iconst hX dX7_takeWord_51 qi_5 52 rfl ?_
          refine z_aload_n hX dX7_takeWord_52 rfl 53 rfl ?_
          refine z_getI hX fX7_35 dX7_takeWord_53 zs_50 (by decide) rfl 56 rfl ?_
          refine z_iload_n hX dX7_takeWord_56 rfl 57 rfl ?_
          refine z_isub hX dX7_takeWord_57 58 rfl ?_
          refine z_imul hX dX7_takeWord_58 59 rfl ?_
          refine z_isub hX dX7_takeWord_59 60 rfl ?_
          refine z_ishl hX dX7_takeWord_60 61 rfl ?_
          refine z_ior hX dX7_takeWord_61 62 rfl ?_
          refine z_topi h13_ (fun x14_ h15_ => ?_)
          refine z_istore_n hX dX7_takeWord_62 (by decide) 63 rfl ?_
          refine z_mask [true, true, true, true, false] ?_
          have hz := aX7_takeWord_J63 hX hrc7 h15_
          exact hz
def gX7_takeWord (x1 : Int32) (M : zM) : Option (Int32 × zM) :=
  zfix zFu (gX7_takeWord_L7 x1 (M.1 50 2)) (0, M)
set_option maxRecDepth 100000 in
set_option maxHeartbeats 2000000 in
theorem mX7_takeWord {G : zG} {x1 : Int32} {M : zM}  {res : (Int32 × zM)} (h : gX7_takeWord x1 M = some res) : Ct G 2 tX7_takeWord [.ref 50, .int x1] M (zQi res) := by
  unfold gX7_takeWord at h
  refine Ct.of (y := yX7_takeWord) rfl plX7 (Nat.le_of_ble_eq_true rfl) (fun X hX => ?_)
  replace hX : zC G X cX7_takeWord 5 RX7 (some .int) 2 := hX
  show Z G X _ 0 [some (.ref 50), some (.int x1), none, none, none] [] M
  refine z_aload_n hX dX7_takeWord_0 rfl 1 rfl ?_
  refine z_getI hX fX7_35 dX7_takeWord_1 zs_50 (by decide) rfl 4 rfl ?_
  refine z_istore_n hX dX7_takeWord_4 (by decide) 5 rfl ?_
  refine z_iconst hX dX7_takeWord_5 qi_0 6 rfl ?_
  refine z_istore_n hX dX7_takeWord_6 (by decide) 7 rfl ?_
  refine z_mask [true, true, true, true, false] ?_
  have hz := aX7_takeWord_L7 hX _ _ h
  exact hz
def gX7_takeToken (x1 : Int32) (M : zM) : Option (Int32 × zM) :=
  zcI (gX7_peek M) (fun v1_ => (if v1_ = (-1) then some (0, M)
  else zcI (gX7_isLetter v1_ M) (fun v3_ => (if v3_ = 0 then zcI (gX7_isDigit v1_ M) (fun v5_ => (if v5_ = 0 then zlet (zI M 50 2 ((M.1 50 2) + 1)) (fun M7_ => zcIM (gX7_takeSign v1_ M7_) (fun v9_ M10_ => some (v9_, M10_)))
  else zcIM (gX7_takeNumber x1 M) (fun v12_ M13_ => some (v12_, M13_))))
  else zcIM (gX7_takeWord x1 M) (fun v15_ M16_ => some (v15_, M16_))))))
set_option maxRecDepth 100000 in
set_option maxHeartbeats 2000000 in
theorem mX7_takeToken {G : zG} {x1 : Int32} {M : zM}  {res : (Int32 × zM)} (h : gX7_takeToken x1 M = some res) : Ct G 4 tX7_takeToken [.ref 50, .int x1] M (zQi res) := by
  unfold gX7_takeToken at h
  refine Ct.of (y := yX7_takeToken) rfl plX7 (Nat.le_of_ble_eq_true rfl) (fun X hX => ?_)
  replace hX : zC G X cX7_takeToken 3 RX7 (some .int) 4 := hX
  show Z G X _ 0 [some (.ref 50), some (.int x1), none] [] M
  refine z_aload_n hX dX7_takeToken_0 rfl 1 rfl ?_
  obtain ⟨v1_, hq, h2_⟩ := zcI_of h
  refine z_callV hX vX7_peek lX7_48 dX7_takeToken_1 zs_50 rfl (mX7_peek  hq) (by decide) rfl rfl (Nat.le_of_ble_eq_true rfl) 4 rfl (Qi.to (fun v' M' hv => ?_))
  obtain ⟨rfl, rfl⟩ := hv
  refine z_istore_n hX dX7_takeToken_4 (by decide) 5 rfl ?_
  refine z_iload_n hX dX7_takeToken_5 rfl 6 rfl ?_
  refine z_iconst hX dX7_takeToken_6 qi_m1 7 rfl ?_
  refine z_icmp_ne hX dX7_takeToken_7 12 10 (by decide) rfl (fun hc => ?_) (fun hc => ?_)
  · rw [if_neg hc] at h2_
    refine z_iload_n hX dX7_takeToken_12 rfl 13 rfl ?_
    obtain ⟨v3_, hq, h4_⟩ := zcI_of h2_
    refine z_callS hX vX7_isLetter rfl lX7_54 dX7_takeToken_13 (mX7_isLetter  hq) (by decide) rfl rfl (Nat.le_of_ble_eq_true rfl) 16 rfl (Qi.to (fun v' M' hv => ?_))
    obtain ⟨rfl, rfl⟩ := hv
    refine z_if_eq hX dX7_takeToken_16 25 19 (by decide) rfl (fun hc => ?_) (fun hc => ?_)
    · rw [if_pos hc] at h4_
      refine z_iload_n hX dX7_takeToken_25 rfl 26 rfl ?_
      obtain ⟨v5_, hq, h6_⟩ := zcI_of h4_
      refine z_callS hX vX7_isDigit rfl lX7_61 dX7_takeToken_26 (mX7_isDigit  hq) (by decide) rfl rfl (Nat.le_of_ble_eq_true rfl) 29 rfl (Qi.to (fun v' M' hv => ?_))
      obtain ⟨rfl, rfl⟩ := hv
      refine z_if_eq hX dX7_takeToken_29 38 32 (by decide) rfl (fun hc => ?_) (fun hc => ?_)
      · rw [if_pos hc] at h6_
        refine z_aload_n hX dX7_takeToken_38 rfl 39 rfl ?_
        refine z_dup hX dX7_takeToken_39 rfl 40 rfl ?_
        refine z_getI hX fX7_35 dX7_takeToken_40 zs_50 (by decide) rfl 43 rfl ?_
        refine z_iconst hX dX7_takeToken_43 qi_1 44 rfl ?_
        refine z_iadd hX dX7_takeToken_44 45 rfl ?_
        refine z_putI hX pX7_35 dX7_takeToken_45 zs_50 (by decide) rfl 48 rfl ?_
        refine z_mem h6_ (fun M7_ h8_ => ?_)
        refine z_aload_n hX dX7_takeToken_48 rfl 49 rfl ?_
        refine z_iload_n hX dX7_takeToken_49 rfl 50 rfl ?_
        obtain ⟨v9_, M10_, hq, h11_⟩ := zcIM_of h8_
        refine z_callV hX vX7_takeSign lX7_67 dX7_takeToken_50 zs_50 rfl (mX7_takeSign  hq) (by decide) rfl rfl (Nat.le_of_ble_eq_true rfl) 53 rfl (Qi.to (fun v' M' hv => ?_))
        cases hv
        exact z_ireturn hX dX7_takeToken_53 (zend_i h11_)
      · rw [if_neg hc] at h6_
        refine z_aload_n hX dX7_takeToken_32 rfl 33 rfl ?_
        refine z_iload_n hX dX7_takeToken_33 rfl 34 rfl ?_
        obtain ⟨v12_, M13_, hq, h14_⟩ := zcIM_of h6_
        refine z_callV hX vX7_takeNumber lX7_64 dX7_takeToken_34 zs_50 rfl (mX7_takeNumber  hq) (by decide) rfl rfl (Nat.le_of_ble_eq_true rfl) 37 rfl (Qi.to (fun v' M' hv => ?_))
        cases hv
        exact z_ireturn hX dX7_takeToken_37 (zend_i h14_)
    · rw [if_neg hc] at h4_
      refine z_aload_n hX dX7_takeToken_19 rfl 20 rfl ?_
      refine z_iload_n hX dX7_takeToken_20 rfl 21 rfl ?_
      obtain ⟨v15_, M16_, hq, h17_⟩ := zcIM_of h4_
      refine z_callV hX vX7_takeWord lX7_58 dX7_takeToken_21 zs_50 rfl (mX7_takeWord  hq) (by decide) rfl rfl (Nat.le_of_ble_eq_true rfl) 24 rfl (Qi.to (fun v' M' hv => ?_))
      cases hv
      exact z_ireturn hX dX7_takeToken_24 (zend_i h17_)
  · rw [if_pos hc] at h2_
    refine z_iconst hX dX7_takeToken_10 qi_0 11 rfl ?_
    exact z_ireturn hX dX7_takeToken_11 (zend_i h2_)
def gX7_scan_J93 (x4 : Int32) (y0 : Int32) (rc30 : (Int32 × Int32 × zM) → Option zM) (M : zM) : Option zM :=
  zlet (zI M 50 3 (x4 + 1)) (fun M24_ => rc30 (y0, (x4 + 1), M24_))
set_option maxRecDepth 100000 in
set_option maxHeartbeats 2000000 in
theorem aX7_scan_J93 {G : zG} {X : zX} {x4 : Int32} {y0 : Int32} (hX : zC G X cX7_scan 5 RX7 none 5)  {rc30 : (Int32 × Int32 × zM) → Option zM} {M : zM} {res : zM} (hrc30 : ∀ s : (Int32 × Int32 × zM), rc30 s = some res → Z G X (zQv res) 30 [some (.ref 50), none, none, some (.int s.1), some (.int s.2.1)] [] s.2.2) (h : gX7_scan_J93 x4 y0 rc30 M = some res) : Z G X (zQv res) 93 [some (.ref 50), none, none, none, some (.int x4)] [.int y0] M := by
  unfold gX7_scan_J93 at h
  refine z_istore_n hX dX7_scan_93 (by decide) 94 rfl ?_
  refine z_aload_n hX dX7_scan_94 rfl 95 rfl ?_
  refine z_iload hX dX7_scan_95 rfl 97 rfl ?_
  refine z_iconst hX dX7_scan_97 qi_1 98 rfl ?_
  refine z_iadd hX dX7_scan_98 99 rfl ?_
  refine z_putI hX pX7_38 dX7_scan_99 zs_50 (by decide) rfl 102 rfl ?_
  refine z_mem h (fun M24_ h25_ => ?_)
  refine z_iinc (v := (x4 + 1)) hX dX7_scan_102 rfl (by rfl) (by decide) 105 rfl ?_
  refine z_goto hX dX7_scan_105 30 (by decide) ?_
  refine z_mask [true, false, false, true, true] ?_
  have hz := hrc30 _ h25_
  exact hz
def gX7_scan_L30  (rc30 : (Int32 × Int32 × zM) → Option zM) (s : (Int32 × Int32 × zM)) : Option zM :=
  (if 700 < s.2.1 then some s.2.2
  else (if s.1 = 0 then zcV (gX7_skipBlanks s.2.2) (fun M9_ => zg (zok s.2.1 701) (zlet (zI M9_ 52 (s.2.1 : Int32).toNatClampNeg (M9_.1 50 2)) (fun M12_ => zg (zok s.2.1 701) (zlet (zI M12_ 53 (s.2.1 : Int32).toNatClampNeg 0) (fun M15_ => zcIM (gX7_takeToken s.2.1 M15_) (fun v17_ M18_ => zg (zok s.2.1 701) (zlet (zI M18_ 51 (s.2.1 : Int32).toNatClampNeg v17_) (fun M21_ => zg (zok s.2.1 701) ((if (M21_.1 51 (s.2.1 : Int32).toNatClampNeg) = 0 then gX7_scan_J93 s.2.1 1 rc30 M21_
  else gX7_scan_J93 s.2.1 0 rc30 M21_))))))))))
  else some s.2.2))
set_option maxRecDepth 100000 in
set_option maxHeartbeats 2000000 in
theorem aX7_scan_L30 {G : zG} {X : zX} (hX : zC G X cX7_scan 5 RX7 none 5)    {res : zM}  : ∀ (N : Nat) (s : (Int32 × Int32 × zM)), zfix N (gX7_scan_L30 ) s = some res → Z G X (zQv res) 30 [some (.ref 50), none, none, some (.int s.1), some (.int s.2.1)] [] s.2.2 := by
  intro N
  induction N with
  | zero => intro s h; cases h
  | succ N hrc30 =>
    intro s h
    replace h : gX7_scan_L30  (zfix N (gX7_scan_L30 )) s = some res := h
    unfold gX7_scan_L30 at h
    refine z_iload hX dX7_scan_30 rfl 32 rfl ?_
    refine z_sipush hX dX7_scan_32 qs_700 35 rfl ?_
    refine z_icmp_gt hX dX7_scan_35 108 38 (by decide) rfl (fun hc => ?_) (fun hc => ?_)
    · rw [if_pos hc] at h
      exact z_return hX dX7_scan_108 (zend_v h)
    · rw [if_neg hc] at h
      refine z_iload_n hX dX7_scan_38 rfl 39 rfl ?_
      refine z_if_ne hX dX7_scan_39 108 42 (by decide) rfl (fun hc => ?_) (fun hc => ?_)
      · rw [if_neg hc] at h
        exact z_return hX dX7_scan_108 (zend_v h)
      · rw [if_pos hc] at h
        refine z_aload_n hX dX7_scan_42 rfl 43 rfl ?_
        obtain ⟨M9_, hq, h10_⟩ := zcV_of h
        refine z_callV hX vX7_skipBlanks lX7_41 dX7_scan_43 zs_50 rfl (mX7_skipBlanks  hq) (by decide) rfl rfl (Nat.le_of_ble_eq_true rfl) 46 rfl (Qv.to (fun M' hv => ?_))
        subst hv
        refine z_aload_n hX dX7_scan_46 rfl 47 rfl ?_
        refine z_getF hX fX7_19 dX7_scan_47 zs_50 (by decide) rfl 50 rfl ?_
        refine z_iload hX dX7_scan_50 rfl 52 rfl ?_
        refine z_aload_n hX dX7_scan_52 rfl 53 rfl ?_
        refine z_getI hX fX7_35 dX7_scan_53 zs_50 (by decide) rfl 56 rfl ?_
        obtain ⟨hb, h11_⟩ := zgd h10_
        refine z_iast hX dX7_scan_56 zs_52 (zok_in hb) 57 rfl ?_
        refine z_mem h11_ (fun M12_ h13_ => ?_)
        refine z_aload_n hX dX7_scan_57 rfl 58 rfl ?_
        refine z_getF hX fX7_22 dX7_scan_58 zs_50 (by decide) rfl 61 rfl ?_
        refine z_iload hX dX7_scan_61 rfl 63 rfl ?_
        refine z_iconst hX dX7_scan_63 qi_0 64 rfl ?_
        obtain ⟨hb, h14_⟩ := zgd h13_
        refine z_iast hX dX7_scan_64 zs_53 (zok_in hb) 65 rfl ?_
        refine z_mem h14_ (fun M15_ h16_ => ?_)
        refine z_aload_n hX dX7_scan_65 rfl 66 rfl ?_
        refine z_getF hX fX7_15 dX7_scan_66 zs_50 (by decide) rfl 69 rfl ?_
        refine z_iload hX dX7_scan_69 rfl 71 rfl ?_
        refine z_aload_n hX dX7_scan_71 rfl 72 rfl ?_
        refine z_iload hX dX7_scan_72 rfl 74 rfl ?_
        obtain ⟨v17_, M18_, hq, h19_⟩ := zcIM_of h16_
        refine z_callV hX vX7_takeToken lX7_44 dX7_scan_74 zs_50 rfl (mX7_takeToken  hq) (by decide) rfl rfl (Nat.le_of_ble_eq_true rfl) 77 rfl (Qi.to (fun v' M' hv => ?_))
        cases hv
        obtain ⟨hb, h20_⟩ := zgd h19_
        refine z_iast hX dX7_scan_77 zs_51 (zok_in hb) 78 rfl ?_
        refine z_mem h20_ (fun M21_ h22_ => ?_)
        refine z_aload_n hX dX7_scan_78 rfl 79 rfl ?_
        refine z_getF hX fX7_15 dX7_scan_79 zs_50 (by decide) rfl 82 rfl ?_
        refine z_iload hX dX7_scan_82 rfl 84 rfl ?_
        obtain ⟨hb, h23_⟩ := zgd h22_
        refine z_iald hX dX7_scan_84 zs_51 (zok_in hb) 85 rfl ?_
        refine z_if_ne hX dX7_scan_85 92 88 (by decide) rfl (fun hc => ?_) (fun hc => ?_)
        · rw [if_neg hc] at h23_
          refine z_iconst hX dX7_scan_92 qi_0 93 rfl ?_
          refine z_mask [true, false, false, false, true] ?_
          have hz := aX7_scan_J93 hX hrc30 h23_
          exact hz
        · rw [if_pos hc] at h23_
          refine z_iconst hX dX7_scan_88 qi_1 89 rfl ?_
          refine z_goto hX dX7_scan_89 93 (by decide) ?_
          refine z_mask [true, false, false, false, true] ?_
          have hz := aX7_scan_J93 hX hrc30 h23_
          exact hz
def gX7_scan (x2 : Int32) (M : zM) : Option zM :=
  zlet (zF M 50 0 1) (fun M1_ => zlet (zI M1_ 50 1 (if 700 < x2 then 700 else x2)) (fun M3_ => zlet (zI M3_ 50 2 0) (fun M5_ => zlet (zI M5_ 50 3 0) (fun M7_ => zfix zFu (gX7_scan_L30 ) (0, 0, M7_)))))
set_option maxRecDepth 100000 in
set_option maxHeartbeats 2000000 in
theorem mX7_scan {G : zG} {x2 : Int32} {M : zM}  {res : zM} (h : gX7_scan x2 M = some res) : Ct G 5 tX7_scan [.ref 50, .ref 1, .int x2] M (zQv res) := by
  unfold gX7_scan at h
  refine Ct.of (y := yX7_scan) rfl plX7 (Nat.le_of_ble_eq_true rfl) (fun X hX => ?_)
  replace hX : zC G X cX7_scan 5 RX7 none 5 := hX
  show Z G X _ 0 [some (.ref 50), some (.ref 1), some (.int x2), none, none] [] M
  refine z_aload_n hX dX7_scan_0 rfl 1 rfl ?_
  refine z_aload_n hX dX7_scan_1 rfl 2 rfl ?_
  refine z_putR hX pX7_9 (fun _ => ⟨rfl, rfl⟩) dX7_scan_2 zs_50 (by decide) rfl 5 rfl ?_
  refine z_mem h (fun M1_ h2_ => ?_)
  refine z_aload_n hX dX7_scan_5 rfl 6 rfl ?_
  refine z_iload_n hX dX7_scan_6 rfl 7 rfl ?_
  refine z_aload_n hX dX7_scan_7 rfl 8 rfl ?_
  refine z_alen (v := 700) hX dX7_scan_8 zs_1 (by decide) (by decide) rfl 9 rfl ?_
  refine z_min hX dX7_scan_9 lX7_25 (by decide) (Nat.le_of_ble_eq_true rfl) 12 rfl ?_
  refine z_putI hX pX7_31 dX7_scan_12 zs_50 (by decide) rfl 15 rfl ?_
  refine z_mem h2_ (fun M3_ h4_ => ?_)
  refine z_aload_n hX dX7_scan_15 rfl 16 rfl ?_
  refine z_iconst hX dX7_scan_16 qi_0 17 rfl ?_
  refine z_putI hX pX7_35 dX7_scan_17 zs_50 (by decide) rfl 20 rfl ?_
  refine z_mem h4_ (fun M5_ h6_ => ?_)
  refine z_aload_n hX dX7_scan_20 rfl 21 rfl ?_
  refine z_iconst hX dX7_scan_21 qi_0 22 rfl ?_
  refine z_putI hX pX7_38 dX7_scan_22 zs_50 (by decide) rfl 25 rfl ?_
  refine z_mem h6_ (fun M7_ h8_ => ?_)
  refine z_iconst hX dX7_scan_25 qi_0 26 rfl ?_
  refine z_istore_n hX dX7_scan_26 (by decide) 27 rfl ?_
  refine z_iconst hX dX7_scan_27 qi_0 28 rfl ?_
  refine z_istore hX dX7_scan_28 (by decide) 30 rfl ?_
  refine z_mask [true, false, false, true, true] ?_
  have hz := aX7_scan_L30 hX _ _ h8_
  exact hz
def gX5_advance (M : zM) : Option zM :=
  (if (M.1 47 4) < 0 then some M
  else (if (M.1 50 3) ≤ (M.1 47 4) then some M
  else zg (zok (M.1 47 4) 701) (zlet (zI M 47 5 (M.1 51 ((M.1 47 4) : Int32).toNatClampNeg)) (fun M2_ => zg (zok (M2_.1 47 4) 701) (zlet (zI M2_ 47 6 (M2_.1 52 ((M2_.1 47 4) : Int32).toNatClampNeg)) (fun M5_ => zg (zok (M5_.1 47 4) 701) (zlet (zI M5_ 47 7 (M5_.1 53 ((M5_.1 47 4) : Int32).toNatClampNeg)) (fun M8_ => zlet (zI M8_ 47 4 ((M8_.1 47 4) + 1)) (fun M10_ => some M10_)))))))))
set_option maxRecDepth 100000 in
set_option maxHeartbeats 2000000 in
theorem mX5_advance {G : zG}  {M : zM}  {res : zM} (h : gX5_advance M = some res) : Ct G 1 tX5_advance [.ref 47] M (zQv res) := by
  unfold gX5_advance at h
  refine Ct.of (y := yX5_advance) rfl plX5 (Nat.le_of_ble_eq_true rfl) (fun X hX => ?_)
  replace hX : zC G X cX5_advance 1 RX5 none 1 := hX
  show Z G X _ 0 [some (.ref 47)] [] M
  refine z_aload_n hX dX5_advance_0 rfl 1 rfl ?_
  refine z_getI hX fX5_45 dX5_advance_1 zs_47 (by decide) rfl 4 rfl ?_
  refine z_if_lt hX dX5_advance_4 79 7 (by decide) rfl (fun hc => ?_) (fun hc => ?_)
  · rw [if_pos hc] at h
    exact z_return hX dX5_advance_79 (zend_v h)
  · rw [if_neg hc] at h
    refine z_aload_n hX dX5_advance_7 rfl 8 rfl ?_
    refine z_getI hX fX5_45 dX5_advance_8 zs_47 (by decide) rfl 11 rfl ?_
    refine z_aload_n hX dX5_advance_11 rfl 12 rfl ?_
    refine z_getF hX fX5_18 dX5_advance_12 zs_47 (by decide) rfl 15 rfl ?_
    refine z_getI hX fX5_58 dX5_advance_15 zs_50 (by decide) rfl 18 rfl ?_
    refine z_icmp_ge hX dX5_advance_18 79 21 (by decide) rfl (fun hc => ?_) (fun hc => ?_)
    · rw [if_pos hc] at h
      exact z_return hX dX5_advance_79 (zend_v h)
    · rw [if_neg hc] at h
      refine z_aload_n hX dX5_advance_21 rfl 22 rfl ?_
      refine z_aload_n hX dX5_advance_22 rfl 23 rfl ?_
      refine z_getF hX fX5_18 dX5_advance_23 zs_47 (by decide) rfl 26 rfl ?_
      refine z_getF hX fX5_61 dX5_advance_26 zs_50 (by decide) rfl 29 rfl ?_
      refine z_aload_n hX dX5_advance_29 rfl 30 rfl ?_
      refine z_getI hX fX5_45 dX5_advance_30 zs_47 (by decide) rfl 33 rfl ?_
      obtain ⟨hb, h1_⟩ := zgd h
      refine z_iald hX dX5_advance_33 zs_51 (zok_in hb) 34 rfl ?_
      refine z_putI hX pX5_51 dX5_advance_34 zs_47 (by decide) rfl 37 rfl ?_
      refine z_mem h1_ (fun M2_ h3_ => ?_)
      refine z_aload_n hX dX5_advance_37 rfl 38 rfl ?_
      refine z_aload_n hX dX5_advance_38 rfl 39 rfl ?_
      refine z_getF hX fX5_18 dX5_advance_39 zs_47 (by decide) rfl 42 rfl ?_
      refine z_getF hX fX5_64 dX5_advance_42 zs_50 (by decide) rfl 45 rfl ?_
      refine z_aload_n hX dX5_advance_45 rfl 46 rfl ?_
      refine z_getI hX fX5_45 dX5_advance_46 zs_47 (by decide) rfl 49 rfl ?_
      obtain ⟨hb, h4_⟩ := zgd h3_
      refine z_iald hX dX5_advance_49 zs_52 (zok_in hb) 50 rfl ?_
      refine z_putI hX pX5_67 dX5_advance_50 zs_47 (by decide) rfl 53 rfl ?_
      refine z_mem h4_ (fun M5_ h6_ => ?_)
      refine z_aload_n hX dX5_advance_53 rfl 54 rfl ?_
      refine z_aload_n hX dX5_advance_54 rfl 55 rfl ?_
      refine z_getF hX fX5_18 dX5_advance_55 zs_47 (by decide) rfl 58 rfl ?_
      refine z_getF hX fX5_70 dX5_advance_58 zs_50 (by decide) rfl 61 rfl ?_
      refine z_aload_n hX dX5_advance_61 rfl 62 rfl ?_
      refine z_getI hX fX5_45 dX5_advance_62 zs_47 (by decide) rfl 65 rfl ?_
      obtain ⟨hb, h7_⟩ := zgd h6_
      refine z_iald hX dX5_advance_65 zs_53 (zok_in hb) 66 rfl ?_
      refine z_putI hX pX5_73 dX5_advance_66 zs_47 (by decide) rfl 69 rfl ?_
      refine z_mem h7_ (fun M8_ h9_ => ?_)
      refine z_aload_n hX dX5_advance_69 rfl 70 rfl ?_
      refine z_dup hX dX5_advance_70 rfl 71 rfl ?_
      refine z_getI hX fX5_45 dX5_advance_71 zs_47 (by decide) rfl 74 rfl ?_
      refine z_iconst hX dX5_advance_74 qi_1 75 rfl ?_
      refine z_iadd hX dX5_advance_75 76 rfl ?_
      refine z_putI hX pX5_45 dX5_advance_76 zs_47 (by decide) rfl 79 rfl ?_
      refine z_mem h9_ (fun M10_ h11_ => ?_)
      exact z_return hX dX5_advance_79 (zend_v h11_)
