/-! ===== the class's man where it answers ===== -/
theorem mX9_man_a {G : zG} {x y : Int32} {M : zM} {v : Int32} {c : Nat} (hi : gX9_isMan x M = some 1) (hc8 : c ≤ 8) (hy : y = nI c) (h : cMv x y M = some v) : Ct G 5 tX9_man [.ref 0, .int x, .int y] M (zQip M v) := by
  subst hy
  refine Ct.of (y := yX9_man) rfl plX9 (Nat.le_of_ble_eq_true rfl) (fun X hX => ?_)
  replace hX : zC G X cX9_man 3 RX9 (some .int) 5 := hX
  show Z G X _ 0 [some (.ref 0), some (.int x), some (.int (nI c))] [] M
  refine z_aload_n hX dX9_man_0 rfl 1 rfl ?_
  refine z_iload_n hX dX9_man_1 rfl 2 rfl ?_
  refine z_callV hX vX9_isMan lX9_129 dX9_man_2 zs_0 rfl (mX9_isMan hi) (by decide) rfl rfl (Nat.le_of_ble_eq_true rfl) 5 rfl (Qi.to (fun v' M' hv => ?_))
  obtain ⟨rfl, rfl⟩ := hv
  refine z_if_ne hX dX9_man_5 18 8 (by decide) rfl (fun hc => ?_) (fun hc => absurd hc (by decide))
  refine z_iload_n hX dX9_man_18 rfl 19 rfl ?_
  rcases (show c = 0 ∨ c = 1 ∨ c = 2 ∨ c = 3 ∨ c = 4 ∨ c = 5 ∨ c = 6 ∨ c = 7 ∨ c = 8 by omega) with rfl | rfl | rfl | rfl | rfl | rfl | rfl | rfl | rfl
  · have h2 : zgP (M'.2.2 0 2) (fun p => zg (zok x 6) (some (M'.1 (p + 2) (x : Int32).toNatClampNeg))) = some v := h
    refine z_tabIn hX dX9_man_19 (by decide) (by decide) (by rfl) 68 (by decide) ?_
    refine z_aload_n hX dX9_man_68 rfl 69 rfl ?_
    obtain ⟨p3, hm, hp3, h4⟩ := zgP_of h2
    refine z_getR hX fX9_18 dX9_man_69 zs_0 (by decide) rfl hm 72 rfl ?_
    refine z_getF hX fX9_140 dX9_man_72 (zsP0 hp3) (by decide) rfl 75 rfl ?_
    refine z_iload_n hX dX9_man_75 rfl 76 rfl ?_
    obtain ⟨hb, h5⟩ := zgd h4
    refine z_iald hX dX9_man_76 (zsP2 hp3) (zok_in hb) 77 rfl ?_
    exact z_ireturn hX dX9_man_77 (zend_ip h5)
  · have h2 : zg (zok x 6) (some (M'.1 57 (x : Int32).toNatClampNeg)) = some v := h
    refine z_tabIn hX dX9_man_19 (by decide) (by decide) (by rfl) 78 (by decide) ?_
    refine z_aload_n hX dX9_man_78 rfl 79 rfl ?_
    refine z_getF hX fX9_41 dX9_man_79 zs_0 (by decide) rfl 82 rfl ?_
    refine z_getF hX fX9_143 dX9_man_82 zs_55 (by decide) rfl 85 rfl ?_
    refine z_iload_n hX dX9_man_85 rfl 86 rfl ?_
    obtain ⟨hb, h5⟩ := zgd h2
    refine z_iald hX dX9_man_86 zs_57 (zok_in hb) 87 rfl ?_
    exact z_ireturn hX dX9_man_87 (zend_ip h5)
  · have h2 : zgP (M'.2.2 0 2) (fun p => zg (zok x 6) (some (M'.1 (p + 4) (x : Int32).toNatClampNeg))) = some v := h
    refine z_tabIn hX dX9_man_19 (by decide) (by decide) (by rfl) 88 (by decide) ?_
    refine z_aload_n hX dX9_man_88 rfl 89 rfl ?_
    obtain ⟨p3, hm, hp3, h4⟩ := zgP_of h2
    refine z_getR hX fX9_18 dX9_man_89 zs_0 (by decide) rfl hm 92 rfl ?_
    refine z_getF hX fX9_146 dX9_man_92 (zsP0 hp3) (by decide) rfl 95 rfl ?_
    refine z_iload_n hX dX9_man_95 rfl 96 rfl ?_
    obtain ⟨hb, h5⟩ := zgd h4
    refine z_iald hX dX9_man_96 (zsP4 hp3) (zok_in hb) 97 rfl ?_
    exact z_ireturn hX dX9_man_97 (zend_ip h5)
  · have h2 : zg (zok x 6) (some (M'.1 58 (x : Int32).toNatClampNeg)) = some v := h
    refine z_tabIn hX dX9_man_19 (by decide) (by decide) (by rfl) 98 (by decide) ?_
    refine z_aload_n hX dX9_man_98 rfl 99 rfl ?_
    refine z_getF hX fX9_41 dX9_man_99 zs_0 (by decide) rfl 102 rfl ?_
    refine z_getF hX fX9_149 dX9_man_102 zs_55 (by decide) rfl 105 rfl ?_
    refine z_iload_n hX dX9_man_105 rfl 106 rfl ?_
    obtain ⟨hb, h5⟩ := zgd h2
    refine z_iald hX dX9_man_106 zs_58 (zok_in hb) 107 rfl ?_
    exact z_ireturn hX dX9_man_107 (zend_ip h5)
  · have h2 : zg (zok x 6) (some (M'.1 59 (x : Int32).toNatClampNeg)) = some v := h
    refine z_tabIn hX dX9_man_19 (by decide) (by decide) (by rfl) 108 (by decide) ?_
    refine z_aload_n hX dX9_man_108 rfl 109 rfl ?_
    refine z_getF hX fX9_41 dX9_man_109 zs_0 (by decide) rfl 112 rfl ?_
    refine z_getF hX fX9_152 dX9_man_112 zs_55 (by decide) rfl 115 rfl ?_
    refine z_iload_n hX dX9_man_115 rfl 116 rfl ?_
    obtain ⟨hb, h5⟩ := zgd h2
    refine z_iald hX dX9_man_116 zs_59 (zok_in hb) 117 rfl ?_
    exact z_ireturn hX dX9_man_117 (zend_ip h5)
  · have h2 : zg (zok x 6) (some (M'.1 60 (x : Int32).toNatClampNeg)) = some v := h
    refine z_tabIn hX dX9_man_19 (by decide) (by decide) (by rfl) 118 (by decide) ?_
    refine z_aload_n hX dX9_man_118 rfl 119 rfl ?_
    refine z_getF hX fX9_41 dX9_man_119 zs_0 (by decide) rfl 122 rfl ?_
    refine z_getF hX fX9_155 dX9_man_122 zs_55 (by decide) rfl 125 rfl ?_
    refine z_iload_n hX dX9_man_125 rfl 126 rfl ?_
    obtain ⟨hb, h5⟩ := zgd h2
    refine z_iald hX dX9_man_126 zs_60 (zok_in hb) 127 rfl ?_
    exact z_ireturn hX dX9_man_127 (zend_ip h5)
  · have h2 : zg (zok x 6) (some (M'.1 61 (x : Int32).toNatClampNeg)) = some v := h
    refine z_tabIn hX dX9_man_19 (by decide) (by decide) (by rfl) 128 (by decide) ?_
    refine z_aload_n hX dX9_man_128 rfl 129 rfl ?_
    refine z_getF hX fX9_41 dX9_man_129 zs_0 (by decide) rfl 132 rfl ?_
    refine z_getF hX fX9_158 dX9_man_132 zs_55 (by decide) rfl 135 rfl ?_
    refine z_iload_n hX dX9_man_135 rfl 136 rfl ?_
    obtain ⟨hb, h5⟩ := zgd h2
    refine z_iald hX dX9_man_136 zs_61 (zok_in hb) 137 rfl ?_
    exact z_ireturn hX dX9_man_137 (zend_ip h5)
  · have h2 : gX8_placeOf 55 x M' = some v := h
    refine z_tabIn hX dX9_man_19 (by decide) (by decide) (by rfl) 138 (by decide) ?_
    refine z_aload_n hX dX9_man_138 rfl 139 rfl ?_
    refine z_getF hX fX9_41 dX9_man_139 zs_0 (by decide) rfl 142 rfl ?_
    refine z_iload_n hX dX9_man_142 rfl 143 rfl ?_
    refine z_callV hX vX8_placeOf lX9_161 dX9_man_143 zs_55 rfl (mX8_placeOf isW_55 h2) (by decide) rfl rfl (Nat.le_of_ble_eq_true rfl) 146 rfl (Qi.to (fun v' M2 hv => ?_))
    obtain ⟨rfl, rfl⟩ := hv
    exact z_ireturn hX dX9_man_146 (zend_ip rfl)
  · have h2 : zg (zok x 6) (some (if M'.1 62 (x : Int32).toNatClampNeg = 0 then 0 else 1)) = some v := h
    refine z_tabIn hX dX9_man_19 (by decide) (by decide) (by rfl) 147 (by decide) ?_
    refine z_aload_n hX dX9_man_147 rfl 148 rfl ?_
    refine z_getF hX fX9_41 dX9_man_148 zs_0 (by decide) rfl 151 rfl ?_
    refine z_getF hX fX9_165 dX9_man_151 zs_55 (by decide) rfl 154 rfl ?_
    refine z_iload_n hX dX9_man_154 rfl 155 rfl ?_
    obtain ⟨hb, h5⟩ := zgd h2
    refine z_zald hX dX9_man_155 zs_62 (zok_in hb) 156 rfl ?_
    refine z_if_eq hX dX9_man_156 163 159 (by decide) rfl (fun hc => ?_) (fun hc => ?_)
    · rw [if_pos hc] at h5
      refine z_iconst hX dX9_man_163 (v := 0) (by decide) 164 rfl ?_
      exact z_ireturn hX dX9_man_164 (zend_ip h5)
    · rw [if_neg hc] at h5
      refine z_iconst hX dX9_man_159 (v := 1) (by decide) 160 rfl ?_
      refine z_goto hX dX9_man_160 164 (by decide) ?_
      exact z_ireturn hX dX9_man_164 (zend_ip h5)
