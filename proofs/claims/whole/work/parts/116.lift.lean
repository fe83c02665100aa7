def gX10_keep (M : zM) : Option (Int32 × zM) :=
  zlet (zI M 98 0 0) (fun M1_ => zcV (gX10_copies 2 0 M1_) (fun M3_ => zlet (zI M3_ 98 49 1) (fun M5_ => some ((M5_.1 118 (0 : Int32).toNatClampNeg), M5_))))
set_option maxRecDepth 100000 in
set_option maxHeartbeats 2000000 in
theorem mX10_keep {G : zG}  {M : zM}  {res : (Int32 × zM)} (h : gX10_keep M = some res) : Ct G 2 tX10_keep [.ref 98] M (zQi res) := by
  unfold gX10_keep at h
  refine Ct.of (y := yX10_keep) rfl plX10 (Nat.le_of_ble_eq_true rfl) (fun X hX => ?_)
  replace hX : zC G X cX10_keep 1 RX10 (some .int) 2 := hX
  show Z G X _ 0 [some (.ref 98)] [] M
  refine z_aload_n hX dX10_keep_0 rfl 1 rfl ?_
  refine z_iconst hX dX10_keep_1 qi_0 2 rfl ?_
  refine z_putI hX pX10_154 dX10_keep_2 zs_98 (by decide) rfl 5 rfl ?_
  refine z_mem h (fun M1_ h2_ => ?_)
  refine z_aload_n hX dX10_keep_5 rfl 6 rfl ?_
  refine z_iconst hX dX10_keep_6 qi_2 7 rfl ?_
  refine z_iconst hX dX10_keep_7 qi_0 8 rfl ?_
  obtain ⟨M3_, hq, h4_⟩ := zcV_of h2_
  refine z_callV hX vX10_copies lX10_407 dX10_keep_8 zs_98 rfl (mX10_copies  hq) (by decide) rfl rfl (Nat.le_of_ble_eq_true rfl) 11 rfl (Qv.to (fun M' hv => ?_))
  subst hv
  refine z_aload_n hX dX10_keep_11 rfl 12 rfl ?_
  refine z_iconst hX dX10_keep_12 qi_1 13 rfl ?_
  refine z_putZ hX pX10_307 dX10_keep_13 zs_98 (by decide) rfl (by decide) 16 rfl ?_
  refine z_mem h4_ (fun M5_ h6_ => ?_)
  refine z_aload_n hX dX10_keep_16 rfl 17 rfl ?_
  refine z_getF hX fX10_72 dX10_keep_17 zs_98 (by decide) rfl 20 rfl ?_
  refine z_iconst hX dX10_keep_20 qi_0 21 rfl ?_
  refine z_iald hX dX10_keep_21 zs_118 (zok_in (by decide)) 22 rfl ?_
  exact z_ireturn hX dX10_keep_22 (zend_i h6_)
def gX10_back (M : zM) : Option (Int32 × zM) :=
  zlet (zI M 98 0 0) (fun M1_ => (if (M1_.1 98 49) = 0 then some ((-1), M1_)
  else zcV (gX10_copies 0 2 M1_) (fun M3_ => zlet (zI M3_ 98 50 0) (fun M5_ => some ((M5_.1 118 (0 : Int32).toNatClampNeg), M5_)))))
set_option maxRecDepth 100000 in
set_option maxHeartbeats 2000000 in
theorem mX10_back {G : zG}  {M : zM}  {res : (Int32 × zM)} (h : gX10_back M = some res) : Ct G 2 tX10_back [.ref 98] M (zQi res) := by
  unfold gX10_back at h
  refine Ct.of (y := yX10_back) rfl plX10 (Nat.le_of_ble_eq_true rfl) (fun X hX => ?_)
  replace hX : zC G X cX10_back 1 RX10 (some .int) 2 := hX
  show Z G X _ 0 [some (.ref 98)] [] M
  refine z_aload_n hX dX10_back_0 rfl 1 rfl ?_
  refine z_iconst hX dX10_back_1 qi_0 2 rfl ?_
  refine z_putI hX pX10_154 dX10_back_2 zs_98 (by decide) rfl 5 rfl ?_
  refine z_mem h (fun M1_ h2_ => ?_)
  refine z_aload_n hX dX10_back_5 rfl 6 rfl ?_
  refine z_getI hX fX10_307 dX10_back_6 zs_98 (by decide) rfl 9 rfl ?_
  refine z_if_ne hX dX10_back_9 14 12 (by decide) rfl (fun hc => ?_) (fun hc => ?_)
  · rw [if_neg hc] at h2_
    refine z_aload_n hX dX10_back_14 rfl 15 rfl ?_
    refine z_iconst hX dX10_back_15 qi_0 16 rfl ?_
    refine z_iconst hX dX10_back_16 qi_2 17 rfl ?_
    obtain ⟨M3_, hq, h4_⟩ := zcV_of h2_
    refine z_callV hX vX10_copies lX10_407 dX10_back_17 zs_98 rfl (mX10_copies  hq) (by decide) rfl rfl (Nat.le_of_ble_eq_true rfl) 20 rfl (Qv.to (fun M' hv => ?_))
    subst hv
    refine z_aload_n hX dX10_back_20 rfl 21 rfl ?_
    refine z_iconst hX dX10_back_21 qi_0 22 rfl ?_
    refine z_putI hX pX10_311 dX10_back_22 zs_98 (by decide) rfl 25 rfl ?_
    refine z_mem h4_ (fun M5_ h6_ => ?_)
    refine z_aload_n hX dX10_back_25 rfl 26 rfl ?_
    refine z_getF hX fX10_72 dX10_back_26 zs_98 (by decide) rfl 29 rfl ?_
    refine z_iconst hX dX10_back_29 qi_0 30 rfl ?_
    refine z_iald hX dX10_back_30 zs_118 (zok_in (by decide)) 31 rfl ?_
    exact z_ireturn hX dX10_back_31 (zend_i h6_)
  · rw [if_pos hc] at h2_
    refine z_iconst hX dX10_back_12 qi_m1 13 rfl ?_
    exact z_ireturn hX dX10_back_13 (zend_i h2_)
def gX10_count (x1 : Int32) (M : zM) : Option (Int32 × zM) :=
  zlet (zI M 98 0 0) (fun M1_ => (if x1 = 0 then some ((M1_.1 100 (0 : Int32).toNatClampNeg), M1_)
  else if x1 = 1 then some ((M1_.1 100 (1 : Int32).toNatClampNeg), M1_)
  else if x1 = 2 then some ((M1_.1 100 (8 : Int32).toNatClampNeg), M1_)
  else if x1 = 3 then some ((M1_.1 118 (0 : Int32).toNatClampNeg), M1_)
  else if x1 = 4 then zcI (gX10_thingsOf 0 2 M1_) (fun v3_ => some (v3_, M1_))
  else if x1 = 5 then zcI (gX10_thingsOf 0 3 M1_) (fun v5_ => some (v5_, M1_))
  else if x1 = 6 then zcI (gX10_menOf 0 2 M1_) (fun v7_ => some (v7_, M1_))
  else if x1 = 7 then zcI (gX10_menOf 0 1 M1_) (fun v9_ => some (v9_, M1_))
  else if x1 = 8 then some ((M1_.1 120 (0 : Int32).toNatClampNeg), M1_)
  else if x1 = 9 then some ((M1_.1 121 (0 : Int32).toNatClampNeg), M1_)
  else if x1 = 10 then zcI (gX10_savedWorth 0 M1_) (fun v11_ => some (v11_, M1_))
  else if x1 = 11 then some ((M1_.1 122 (0 : Int32).toNatClampNeg), M1_)
  else if x1 = 12 then some ((M1_.1 98 61), M1_)
  else if x1 = 13 then zcI (gX10_knownMany M1_) (fun v13_ => some (v13_, M1_))
  else if x1 = 14 then some ((M1_.1 98 50), M1_)
  else some ((-1), M1_)))
set_option maxRecDepth 100000 in
set_option maxHeartbeats 2000000 in
theorem mX10_count {G : zG} {x1 : Int32} {M : zM}  {res : (Int32 × zM)} (h : gX10_count x1 M = some res) : Ct G 2 tX10_count [.ref 98, .int x1] M (zQi res) := by
  unfold gX10_count at h
  refine Ct.of (y := yX10_count) rfl plX10 (Nat.le_of_ble_eq_true rfl) (fun X hX => ?_)
  replace hX : zC G X cX10_count 2 RX10 (some .int) 2 := hX
  show Z G X _ 0 [some (.ref 98), some (.int x1)] [] M
  refine z_aload_n hX dX10_count_0 rfl 1 rfl ?_
  refine z_iconst hX dX10_count_1 qi_0 2 rfl ?_
  refine z_putI hX pX10_154 dX10_count_2 zs_98 (by decide) rfl 5 rfl ?_
  refine z_mem h (fun M1_ h2_ => ?_)
  refine z_iload_n hX dX10_count_5 rfl 6 rfl ?_
  by_cases hc0 : x1 = 0
  · rw [if_pos hc0] at h2_
    refine z_tabIn hX dX10_count_6 (by rw [hc0]; decide) (by rw [hc0]; decide) (by rw [hc0]; rfl) 80 (by decide) ?_
    refine z_aload_n hX dX10_count_80 rfl 81 rfl ?_
    refine z_getF hX fX10_13 dX10_count_81 zs_98 (by decide) rfl 84 rfl ?_
    refine z_iconst hX dX10_count_84 qi_0 85 rfl ?_
    refine z_iald hX dX10_count_85 zs_100 (zok_in (by decide)) 86 rfl ?_
    exact z_ireturn hX dX10_count_86 (zend_i h2_)
  rw [if_neg hc0] at h2_
  by_cases hc1 : x1 = 1
  · rw [if_pos hc1] at h2_
    refine z_tabIn hX dX10_count_6 (by rw [hc1]; decide) (by rw [hc1]; decide) (by rw [hc1]; rfl) 87 (by decide) ?_
    refine z_aload_n hX dX10_count_87 rfl 88 rfl ?_
    refine z_getF hX fX10_13 dX10_count_88 zs_98 (by decide) rfl 91 rfl ?_
    refine z_iconst hX dX10_count_91 qi_1 92 rfl ?_
    refine z_iald hX dX10_count_92 zs_100 (zok_in (by decide)) 93 rfl ?_
    exact z_ireturn hX dX10_count_93 (zend_i h2_)
  rw [if_neg hc1] at h2_
  by_cases hc2 : x1 = 2
  · rw [if_pos hc2] at h2_
    refine z_tabIn hX dX10_count_6 (by rw [hc2]; decide) (by rw [hc2]; decide) (by rw [hc2]; rfl) 94 (by decide) ?_
    refine z_aload_n hX dX10_count_94 rfl 95 rfl ?_
    refine z_getF hX fX10_13 dX10_count_95 zs_98 (by decide) rfl 98 rfl ?_
    refine z_bipush hX dX10_count_98 qb_8 100 rfl ?_
    refine z_iald hX dX10_count_100 zs_100 (zok_in (by decide)) 101 rfl ?_
    exact z_ireturn hX dX10_count_101 (zend_i h2_)
  rw [if_neg hc2] at h2_
  by_cases hc3 : x1 = 3
  · rw [if_pos hc3] at h2_
    refine z_tabIn hX dX10_count_6 (by rw [hc3]; decide) (by rw [hc3]; decide) (by rw [hc3]; rfl) 102 (by decide) ?_
    refine z_aload_n hX dX10_count_102 rfl 103 rfl ?_
    refine z_getF hX fX10_72 dX10_count_103 zs_98 (by decide) rfl 106 rfl ?_
    refine z_iconst hX dX10_count_106 qi_0 107 rfl ?_
    refine z_iald hX dX10_count_107 zs_118 (zok_in (by decide)) 108 rfl ?_
    exact z_ireturn hX dX10_count_108 (zend_i h2_)
  rw [if_neg hc3] at h2_
  by_cases hc4 : x1 = 4
  · rw [if_pos hc4] at h2_
    refine z_tabIn hX dX10_count_6 (by rw [hc4]; decide) (by rw [hc4]; decide) (by rw [hc4]; rfl) 109 (by decide) ?_
    refine z_aload_n hX dX10_count_109 rfl 110 rfl ?_
    refine z_iconst hX dX10_count_110 qi_0 111 rfl ?_
    refine z_iconst hX dX10_count_111 qi_2 112 rfl ?_
    obtain ⟨v3_, hq, h4_⟩ := zcI_of h2_
    refine z_callV hX vX10_thingsOf lX10_435 dX10_count_112 zs_98 rfl (mX10_thingsOf  hq) (by decide) rfl rfl (Nat.le_of_ble_eq_true rfl) 115 rfl (Qi.to (fun v' M' hv => ?_))
    obtain ⟨rfl, rfl⟩ := hv
    exact z_ireturn hX dX10_count_115 (zend_i h4_)
  rw [if_neg hc4] at h2_
  by_cases hc5 : x1 = 5
  · rw [if_pos hc5] at h2_
    refine z_tabIn hX dX10_count_6 (by rw [hc5]; decide) (by rw [hc5]; decide) (by rw [hc5]; rfl) 116 (by decide) ?_
    refine z_aload_n hX dX10_count_116 rfl 117 rfl ?_
    refine z_iconst hX dX10_count_117 qi_0 118 rfl ?_
    refine z_iconst hX dX10_count_118 qi_3 119 rfl ?_
    obtain ⟨v5_, hq, h6_⟩ := zcI_of h2_
    refine z_callV hX vX10_thingsOf lX10_435 dX10_count_119 zs_98 rfl (mX10_thingsOf  hq) (by decide) rfl rfl (Nat.le_of_ble_eq_true rfl) 122 rfl (Qi.to (fun v' M' hv => ?_))
    obtain ⟨rfl, rfl⟩ := hv
    exact z_ireturn hX dX10_count_122 (zend_i h6_)
  rw [if_neg hc5] at h2_
  by_cases hc6 : x1 = 6
  · rw [if_pos hc6] at h2_
    refine z_tabIn hX dX10_count_6 (by rw [hc6]; decide) (by rw [hc6]; decide) (by rw [hc6]; rfl) 123 (by decide) ?_
    refine z_aload_n hX dX10_count_123 rfl 124 rfl ?_
    refine z_iconst hX dX10_count_124 qi_0 125 rfl ?_
    refine z_iconst hX dX10_count_125 qi_2 126 rfl ?_
    obtain ⟨v7_, hq, h8_⟩ := zcI_of h2_
    refine z_callV hX vX10_menOf lX10_438 dX10_count_126 zs_98 rfl (mX10_menOf  hq) (by decide) rfl rfl (Nat.le_of_ble_eq_true rfl) 129 rfl (Qi.to (fun v' M' hv => ?_))
    obtain ⟨rfl, rfl⟩ := hv
    exact z_ireturn hX dX10_count_129 (zend_i h8_)
  rw [if_neg hc6] at h2_
  by_cases hc7 : x1 = 7
  · rw [if_pos hc7] at h2_
    refine z_tabIn hX dX10_count_6 (by rw [hc7]; decide) (by rw [hc7]; decide) (by rw [hc7]; rfl) 130 (by decide) ?_
    refine z_aload_n hX dX10_count_130 rfl 131 rfl ?_
    refine z_iconst hX dX10_count_131 qi_0 132 rfl ?_
    refine z_iconst hX dX10_count_132 qi_1 133 rfl ?_
    obtain ⟨v9_, hq, h10_⟩ := zcI_of h2_
    refine z_callV hX vX10_menOf lX10_438 dX10_count_133 zs_98 rfl (mX10_menOf  hq) (by decide) rfl rfl (Nat.le_of_ble_eq_true rfl) 136 rfl (Qi.to (fun v' M' hv => ?_))
    obtain ⟨rfl, rfl⟩ := hv
    exact z_ireturn hX dX10_count_136 (zend_i h10_)
  rw [if_neg hc7] at h2_
  by_cases hc8 : x1 = 8
  · rw [if_pos hc8] at h2_
    refine z_tabIn hX dX10_count_6 (by rw [hc8]; decide) (by rw [hc8]; decide) (by rw [hc8]; rfl) 137 (by decide) ?_
    refine z_aload_n hX dX10_count_137 rfl 138 rfl ?_
    refine z_getF hX fX10_78 dX10_count_138 zs_98 (by decide) rfl 141 rfl ?_
    refine z_iconst hX dX10_count_141 qi_0 142 rfl ?_
    refine z_iald hX dX10_count_142 zs_120 (zok_in (by decide)) 143 rfl ?_
    exact z_ireturn hX dX10_count_143 (zend_i h2_)
  rw [if_neg hc8] at h2_
  by_cases hc9 : x1 = 9
  · rw [if_pos hc9] at h2_
    refine z_tabIn hX dX10_count_6 (by rw [hc9]; decide) (by rw [hc9]; decide) (by rw [hc9]; rfl) 144 (by decide) ?_
    refine z_aload_n hX dX10_count_144 rfl 145 rfl ?_
    refine z_getF hX fX10_81 dX10_count_145 zs_98 (by decide) rfl 148 rfl ?_
    refine z_iconst hX dX10_count_148 qi_0 149 rfl ?_
    refine z_iald hX dX10_count_149 zs_121 (zok_in (by decide)) 150 rfl ?_
    exact z_ireturn hX dX10_count_150 (zend_i h2_)
  rw [if_neg hc9] at h2_
  by_cases hc10 : x1 = 10
  · rw [if_pos hc10] at h2_
    refine z_tabIn hX dX10_count_6 (by rw [hc10]; decide) (by rw [hc10]; decide) (by rw [hc10]; rfl) 151 (by decide) ?_
    refine z_aload_n hX dX10_count_151 rfl 152 rfl ?_
    refine z_iconst hX dX10_count_152 qi_0 153 rfl ?_
    obtain ⟨v11_, hq, h12_⟩ := zcI_of h2_
    refine z_callV hX vX10_savedWorth lX10_453 dX10_count_153 zs_98 rfl (mX10_savedWorth  hq) (by decide) rfl rfl (Nat.le_of_ble_eq_true rfl) 156 rfl (Qi.to (fun v' M' hv => ?_))
    obtain ⟨rfl, rfl⟩ := hv
    exact z_ireturn hX dX10_count_156 (zend_i h12_)
  rw [if_neg hc10] at h2_
  by_cases hc11 : x1 = 11
  · rw [if_pos hc11] at h2_
    refine z_tabIn hX dX10_count_6 (by rw [hc11]; decide) (by rw [hc11]; decide) (by rw [hc11]; rfl) 157 (by decide) ?_
    refine z_aload_n hX dX10_count_157 rfl 158 rfl ?_
    refine z_getF hX fX10_84 dX10_count_158 zs_98 (by decide) rfl 161 rfl ?_
    refine z_iconst hX dX10_count_161 qi_0 162 rfl ?_
    refine z_iald hX dX10_count_162 zs_122 (zok_in (by decide)) 163 rfl ?_
    exact z_ireturn hX dX10_count_163 (zend_i h2_)
  rw [if_neg hc11] at h2_
  by_cases hc12 : x1 = 12
  · rw [if_pos hc12] at h2_
    refine z_tabIn hX dX10_count_6 (by rw [hc12]; decide) (by rw [hc12]; decide) (by rw [hc12]; rfl) 164 (by decide) ?_
    refine z_aload_n hX dX10_count_164 rfl 165 rfl ?_
    refine z_getI hX fX10_304 dX10_count_165 zs_98 (by decide) rfl 168 rfl ?_
    exact z_ireturn hX dX10_count_168 (zend_i h2_)
  rw [if_neg hc12] at h2_
  by_cases hc13 : x1 = 13
  · rw [if_pos hc13] at h2_
    refine z_tabIn hX dX10_count_6 (by rw [hc13]; decide) (by rw [hc13]; decide) (by rw [hc13]; rfl) 169 (by decide) ?_
    refine z_aload_n hX dX10_count_169 rfl 170 rfl ?_
    obtain ⟨v13_, hq, h14_⟩ := zcI_of h2_
    refine z_callV hX vX10_knownMany lX10_481 dX10_count_170 zs_98 rfl (mX10_knownMany  hq) (by decide) rfl rfl (Nat.le_of_ble_eq_true rfl) 173 rfl (Qi.to (fun v' M' hv => ?_))
    obtain ⟨rfl, rfl⟩ := hv
    exact z_ireturn hX dX10_count_173 (zend_i h14_)
  rw [if_neg hc13] at h2_
  by_cases hc14 : x1 = 14
  · rw [if_pos hc14] at h2_
    refine z_tabIn hX dX10_count_6 (by rw [hc14]; decide) (by rw [hc14]; decide) (by rw [hc14]; rfl) 174 (by decide) ?_
    refine z_aload_n hX dX10_count_174 rfl 175 rfl ?_
    refine z_getI hX fX10_311 dX10_count_175 zs_98 (by decide) rfl 178 rfl ?_
    exact z_ireturn hX dX10_count_178 (zend_i h2_)
  rw [if_neg hc14] at h2_
  have hout : (x1 : Int32).toInt < 0 ∨ 14 < (x1 : Int32).toInt := zsw_out (fun k h1 h2 => by
    have hk : k = 0 ∨ k = 1 ∨ k = 2 ∨ k = 3 ∨ k = 4 ∨ k = 5 ∨ k = 6 ∨ k = 7 ∨ k = 8 ∨ k = 9 ∨ k = 10 ∨ k = 11 ∨ k = 12 ∨ k = 13 ∨ k = 14 := by omega
    rcases hk with rfl | rfl | rfl | rfl | rfl | rfl | rfl | rfl | rfl | rfl | rfl | rfl | rfl | rfl | rfl
    · exact hc0
    · exact hc1
    · exact hc2
    · exact hc3
    · exact hc4
    · exact hc5
    · exact hc6
    · exact hc7
    · exact hc8
    · exact hc9
    · exact hc10
    · exact hc11
    · exact hc12
    · exact hc13
    · exact hc14)
  refine z_tabOut hX dX10_count_6 hout 179 (by decide) ?_
  refine z_iconst hX dX10_count_179 qi_m1 180 rfl ?_
  exact z_ireturn hX dX10_count_180 (zend_i h2_)
