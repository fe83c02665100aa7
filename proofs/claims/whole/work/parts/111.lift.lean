def gX10_isMan (x1 : Int32) (M : zM) : Option Int32 :=
  (if x1 < 0 then some 0
  else (if (M.1 100 (0 : Int32).toNatClampNeg) ≤ x1 then some 0
  else some 1))
set_option maxRecDepth 100000 in
set_option maxHeartbeats 2000000 in
theorem mX10_isMan {G : zG} {x1 : Int32} {M : zM}  {res : Int32} (h : gX10_isMan x1 M = some res) : Ct G 1 tX10_isMan [.ref 98, .int x1] M (zQip M res) := by
  unfold gX10_isMan at h
  refine Ct.of (y := yX10_isMan) rfl plX10 (Nat.le_of_ble_eq_true rfl) (fun X hX => ?_)
  replace hX : zC G X cX10_isMan 2 RX10 (some .boolean) 1 := hX
  show Z G X _ 0 [some (.ref 98), some (.int x1)] [] M
  refine z_iload_n hX dX10_isMan_0 rfl 1 rfl ?_
  refine z_if_lt hX dX10_isMan_1 18 4 (by decide) rfl (fun hc => ?_) (fun hc => ?_)
  · rw [if_pos hc] at h
    refine z_iconst hX dX10_isMan_18 qi_0 19 rfl ?_
    exact z_zreturn hX dX10_isMan_19 (by decide) (zend_ip h)
  · rw [if_neg hc] at h
    refine z_iload_n hX dX10_isMan_4 rfl 5 rfl ?_
    refine z_aload_n hX dX10_isMan_5 rfl 6 rfl ?_
    refine z_getF hX fX10_13 dX10_isMan_6 zs_98 (by decide) rfl 9 rfl ?_
    refine z_iconst hX dX10_isMan_9 qi_0 10 rfl ?_
    refine z_iald hX dX10_isMan_10 zs_100 (zok_in (by decide)) 11 rfl ?_
    refine z_icmp_ge hX dX10_isMan_11 18 14 (by decide) rfl (fun hc => ?_) (fun hc => ?_)
    · rw [if_pos hc] at h
      refine z_iconst hX dX10_isMan_18 qi_0 19 rfl ?_
      exact z_zreturn hX dX10_isMan_19 (by decide) (zend_ip h)
    · rw [if_neg hc] at h
      refine z_iconst hX dX10_isMan_14 qi_1 15 rfl ?_
      refine z_goto hX dX10_isMan_15 19 (by decide) ?_
      exact z_zreturn hX dX10_isMan_19 (by decide) (zend_ip h)
def gX10_orNone (x0 : Int32) (M : zM) : Option Int32 :=
  (if x0 = (-1) then some (-2)
  else some x0)
set_option maxRecDepth 100000 in
set_option maxHeartbeats 2000000 in
theorem mX10_orNone {G : zG} {x0 : Int32} {M : zM}  {res : Int32} (h : gX10_orNone x0 M = some res) : Ct G 1 tX10_orNone [.int x0] M (zQip M res) := by
  unfold gX10_orNone at h
  refine Ct.of (y := yX10_orNone) rfl plX10 (Nat.le_of_ble_eq_true rfl) (fun X hX => ?_)
  replace hX : zC G X cX10_orNone 1 RX10 (some .int) 1 := hX
  show Z G X _ 0 [some (.int x0)] [] M
  refine z_iload_n hX dX10_orNone_0 rfl 1 rfl ?_
  refine z_iconst hX dX10_orNone_1 qi_m1 2 rfl ?_
  refine z_icmp_ne hX dX10_orNone_2 10 5 (by decide) rfl (fun hc => ?_) (fun hc => ?_)
  · rw [if_neg hc] at h
    refine z_iload_n hX dX10_orNone_10 rfl 11 rfl ?_
    exact z_ireturn hX dX10_orNone_11 (zend_ip h)
  · rw [if_pos hc] at h
    refine z_bipush hX dX10_orNone_5 qb_m2 7 rfl ?_
    refine z_goto hX dX10_orNone_7 11 (by decide) ?_
    exact z_ireturn hX dX10_orNone_11 (zend_ip h)
def gX10_placeOf_L2 (x1 : Int32) (M : zM) (rc2 : Int32 → Option Int32) (s : Int32) : Option Int32 :=
  (if (M.1 100 (0 : Int32).toNatClampNeg) ≤ s then some (-1)
  else zg (zok s 138) ((if (M.1 129 (s : Int32).toNatClampNeg) = x1 then some s
  else rc2 (s + 1))))
set_option maxRecDepth 100000 in
set_option maxHeartbeats 2000000 in
theorem aX10_placeOf_L2 {G : zG} {X : zX} {x1 : Int32} (hX : zC G X cX10_placeOf 3 RX10 (some .int) 1)   {M : zM} {res : Int32}  : ∀ (N : Nat) (s : Int32), zfix N (gX10_placeOf_L2 x1 M) s = some res → Z G X (zQip M res) 2 [some (.ref 98), some (.int x1), some (.int s)] [] M := by
  intro N
  induction N with
  | zero => intro s h; cases h
  | succ N hrc2 =>
    intro s h
    replace h : gX10_placeOf_L2 x1 M (zfix N (gX10_placeOf_L2 x1 M)) s = some res := h
    unfold gX10_placeOf_L2 at h
    refine z_iload_n hX dX10_placeOf_2 rfl 3 rfl ?_
    refine z_aload_n hX dX10_placeOf_3 rfl 4 rfl ?_
    refine z_getF hX fX10_13 dX10_placeOf_4 zs_98 (by decide) rfl 7 rfl ?_
    refine z_iconst hX dX10_placeOf_7 qi_0 8 rfl ?_
    refine z_iald hX dX10_placeOf_8 zs_100 (zok_in (by decide)) 9 rfl ?_
    refine z_icmp_ge hX dX10_placeOf_9 30 12 (by decide) rfl (fun hc => ?_) (fun hc => ?_)
    · rw [if_pos hc] at h
      refine z_iconst hX dX10_placeOf_30 qi_m1 31 rfl ?_
      exact z_ireturn hX dX10_placeOf_31 (zend_ip h)
    · rw [if_neg hc] at h
      refine z_aload_n hX dX10_placeOf_12 rfl 13 rfl ?_
      refine z_getF hX fX10_105 dX10_placeOf_13 zs_98 (by decide) rfl 16 rfl ?_
      refine z_iload_n hX dX10_placeOf_16 rfl 17 rfl ?_
      obtain ⟨hb, h1_⟩ := zgd h
      refine z_iald hX dX10_placeOf_17 zs_129 (zok_in hb) 18 rfl ?_
      refine z_iload_n hX dX10_placeOf_18 rfl 19 rfl ?_
      refine z_icmp_ne hX dX10_placeOf_19 24 22 (by decide) rfl (fun hc => ?_) (fun hc => ?_)
      · rw [if_neg hc] at h1_
        refine z_iinc (v := (s + 1)) hX dX10_placeOf_24 rfl (by rfl) (by decide) 27 rfl ?_
        refine z_goto hX dX10_placeOf_27 2 (by decide) ?_
        refine z_mask [true, true, true] ?_
        have hz := hrc2 _ h1_
        exact hz
      · rw [if_pos hc] at h1_
        refine z_iload_n hX dX10_placeOf_22 rfl 23 rfl ?_
        exact z_ireturn hX dX10_placeOf_23 (zend_ip h1_)
def gX10_placeOf (x1 : Int32) (M : zM) : Option Int32 :=
  zfix zFu (gX10_placeOf_L2 x1 M) 0
set_option maxRecDepth 100000 in
set_option maxHeartbeats 2000000 in
theorem mX10_placeOf {G : zG} {x1 : Int32} {M : zM}  {res : Int32} (h : gX10_placeOf x1 M = some res) : Ct G 1 tX10_placeOf [.ref 98, .int x1] M (zQip M res) := by
  unfold gX10_placeOf at h
  refine Ct.of (y := yX10_placeOf) rfl plX10 (Nat.le_of_ble_eq_true rfl) (fun X hX => ?_)
  replace hX : zC G X cX10_placeOf 3 RX10 (some .int) 1 := hX
  show Z G X _ 0 [some (.ref 98), some (.int x1), none] [] M
  refine z_iconst hX dX10_placeOf_0 qi_0 1 rfl ?_
  refine z_istore_n hX dX10_placeOf_1 (by decide) 2 rfl ?_
  refine z_mask [true, true, true] ?_
  have hz := aX10_placeOf_L2 hX _ _ h
  exact hz
def gX10_man_J28 (x1 : Int32) (x2 : Int32) (y1 : Int32) (M : zM) : Option (Int32 × zM) :=
  zlet (zI M 98 0 y1) (fun M3_ => (if (M3_.1 98 0) = 0 then (if x2 = 0 then zg (zok x1 12) (some ((M3_.1 102 (x1 : Int32).toNatClampNeg), M3_))
  else if x2 = 1 then zg (zok x1 138) (some ((M3_.1 123 (x1 : Int32).toNatClampNeg), M3_))
  else if x2 = 2 then zg (zok x1 12) (some ((M3_.1 104 (x1 : Int32).toNatClampNeg), M3_))
  else if x2 = 3 then zg (zok x1 138) (some ((M3_.1 124 (x1 : Int32).toNatClampNeg), M3_))
  else if x2 = 4 then zg (zok x1 138) (some ((M3_.1 125 (x1 : Int32).toNatClampNeg), M3_))
  else if x2 = 5 then zg (zok x1 138) (zcI (gX10_orNone (M3_.1 126 (x1 : Int32).toNatClampNeg) M3_) (fun v11_ => some (v11_, M3_)))
  else if x2 = 6 then zg (zok x1 138) (some ((M3_.1 127 (x1 : Int32).toNatClampNeg), M3_))
  else if x2 = 7 then zcI (gX10_placeOf x1 M3_) (fun v14_ => some (v14_, M3_))
  else zg (zok x1 138) (some ((M3_.1 128 (x1 : Int32).toNatClampNeg), M3_)))
  else some (0, M3_)))
set_option maxRecDepth 100000 in
set_option maxHeartbeats 2000000 in
theorem aX10_man_J28 {G : zG} {X : zX} {x1 : Int32} {x2 : Int32} {y1 : Int32} (hX : zC G X cX10_man 3 RX10 (some .int) 2)   {M : zM} {res : (Int32 × zM)}  (h : gX10_man_J28 x1 x2 y1 M = some res) : Z G X (zQi res) 28 [some (.ref 98), some (.int x1), some (.int x2)] [.int y1, .ref 98] M := by
  unfold gX10_man_J28 at h
  refine z_putI hX pX10_154 dX10_man_28 zs_98 (by decide) rfl 31 rfl ?_
  refine z_mem h (fun M3_ h4_ => ?_)
  refine z_aload_n hX dX10_man_31 rfl 32 rfl ?_
  refine z_getI hX fX10_154 dX10_man_32 zs_98 (by decide) rfl 35 rfl ?_
  refine z_if_eq hX dX10_man_35 40 38 (by decide) rfl (fun hc => ?_) (fun hc => ?_)
  · rw [if_pos hc] at h4_
    refine z_iload_n hX dX10_man_40 rfl 41 rfl ?_
    by_cases hc0 : x2 = 0
    · rw [if_pos hc0] at h4_
      refine z_tabIn hX dX10_man_41 (by rw [hc0]; decide) (by rw [hc0]; decide) (by rw [hc0]; rfl) 88 (by decide) ?_
      refine z_aload_n hX dX10_man_88 rfl 89 rfl ?_
      refine z_getF hX fX10_19 dX10_man_89 zs_98 (by decide) rfl 92 rfl ?_
      refine z_iload_n hX dX10_man_92 rfl 93 rfl ?_
      obtain ⟨hb, h5_⟩ := zgd h4_
      refine z_iald hX dX10_man_93 zs_102 (zok_in hb) 94 rfl ?_
      exact z_ireturn hX dX10_man_94 (zend_i h5_)
    rw [if_neg hc0] at h4_
    by_cases hc1 : x2 = 1
    · rw [if_pos hc1] at h4_
      refine z_tabIn hX dX10_man_41 (by rw [hc1]; decide) (by rw [hc1]; decide) (by rw [hc1]; rfl) 95 (by decide) ?_
      refine z_aload_n hX dX10_man_95 rfl 96 rfl ?_
      refine z_getF hX fX10_87 dX10_man_96 zs_98 (by decide) rfl 99 rfl ?_
      refine z_iload_n hX dX10_man_99 rfl 100 rfl ?_
      obtain ⟨hb, h6_⟩ := zgd h4_
      refine z_iald hX dX10_man_100 zs_123 (zok_in hb) 101 rfl ?_
      exact z_ireturn hX dX10_man_101 (zend_i h6_)
    rw [if_neg hc1] at h4_
    by_cases hc2 : x2 = 2
    · rw [if_pos hc2] at h4_
      refine z_tabIn hX dX10_man_41 (by rw [hc2]; decide) (by rw [hc2]; decide) (by rw [hc2]; rfl) 102 (by decide) ?_
      refine z_aload_n hX dX10_man_102 rfl 103 rfl ?_
      refine z_getF hX fX10_25 dX10_man_103 zs_98 (by decide) rfl 106 rfl ?_
      refine z_iload_n hX dX10_man_106 rfl 107 rfl ?_
      obtain ⟨hb, h7_⟩ := zgd h4_
      refine z_iald hX dX10_man_107 zs_104 (zok_in hb) 108 rfl ?_
      exact z_ireturn hX dX10_man_108 (zend_i h7_)
    rw [if_neg hc2] at h4_
    by_cases hc3 : x2 = 3
    · rw [if_pos hc3] at h4_
      refine z_tabIn hX dX10_man_41 (by rw [hc3]; decide) (by rw [hc3]; decide) (by rw [hc3]; rfl) 109 (by decide) ?_
      refine z_aload_n hX dX10_man_109 rfl 110 rfl ?_
      refine z_getF hX fX10_90 dX10_man_110 zs_98 (by decide) rfl 113 rfl ?_
      refine z_iload_n hX dX10_man_113 rfl 114 rfl ?_
      obtain ⟨hb, h8_⟩ := zgd h4_
      refine z_iald hX dX10_man_114 zs_124 (zok_in hb) 115 rfl ?_
      exact z_ireturn hX dX10_man_115 (zend_i h8_)
    rw [if_neg hc3] at h4_
    by_cases hc4 : x2 = 4
    · rw [if_pos hc4] at h4_
      refine z_tabIn hX dX10_man_41 (by rw [hc4]; decide) (by rw [hc4]; decide) (by rw [hc4]; rfl) 116 (by decide) ?_
      refine z_aload_n hX dX10_man_116 rfl 117 rfl ?_
      refine z_getF hX fX10_93 dX10_man_117 zs_98 (by decide) rfl 120 rfl ?_
      refine z_iload_n hX dX10_man_120 rfl 121 rfl ?_
      obtain ⟨hb, h9_⟩ := zgd h4_
      refine z_iald hX dX10_man_121 zs_125 (zok_in hb) 122 rfl ?_
      exact z_ireturn hX dX10_man_122 (zend_i h9_)
    rw [if_neg hc4] at h4_
    by_cases hc5 : x2 = 5
    · rw [if_pos hc5] at h4_
      refine z_tabIn hX dX10_man_41 (by rw [hc5]; decide) (by rw [hc5]; decide) (by rw [hc5]; rfl) 123 (by decide) ?_
      refine z_aload_n hX dX10_man_123 rfl 124 rfl ?_
      refine z_getF hX fX10_96 dX10_man_124 zs_98 (by decide) rfl 127 rfl ?_
      refine z_iload_n hX dX10_man_127 rfl 128 rfl ?_
      obtain ⟨hb, h10_⟩ := zgd h4_
      refine z_iald hX dX10_man_128 zs_126 (zok_in hb) 129 rfl ?_
      obtain ⟨v11_, hq, h12_⟩ := zcI_of h10_
      refine z_callS hX vX10_orNone rfl lX10_416 dX10_man_129 (mX10_orNone  hq) (by decide) rfl rfl (Nat.le_of_ble_eq_true rfl) 132 rfl (Qi.to (fun v' M' hv => ?_))
      obtain ⟨rfl, rfl⟩ := hv
      exact z_ireturn hX dX10_man_132 (zend_i h12_)
    rw [if_neg hc5] at h4_
    by_cases hc6 : x2 = 6
    · rw [if_pos hc6] at h4_
      refine z_tabIn hX dX10_man_41 (by rw [hc6]; decide) (by rw [hc6]; decide) (by rw [hc6]; rfl) 133 (by decide) ?_
      refine z_aload_n hX dX10_man_133 rfl 134 rfl ?_
      refine z_getF hX fX10_99 dX10_man_134 zs_98 (by decide) rfl 137 rfl ?_
      refine z_iload_n hX dX10_man_137 rfl 138 rfl ?_
      obtain ⟨hb, h13_⟩ := zgd h4_
      refine z_iald hX dX10_man_138 zs_127 (zok_in hb) 139 rfl ?_
      exact z_ireturn hX dX10_man_139 (zend_i h13_)
    rw [if_neg hc6] at h4_
    by_cases hc7 : x2 = 7
    · rw [if_pos hc7] at h4_
      refine z_tabIn hX dX10_man_41 (by rw [hc7]; decide) (by rw [hc7]; decide) (by rw [hc7]; rfl) 140 (by decide) ?_
      refine z_aload_n hX dX10_man_140 rfl 141 rfl ?_
      refine z_iload_n hX dX10_man_141 rfl 142 rfl ?_
      obtain ⟨v14_, hq, h15_⟩ := zcI_of h4_
      refine z_callV hX vX10_placeOf lX10_419 dX10_man_142 zs_98 rfl (mX10_placeOf  hq) (by decide) rfl rfl (Nat.le_of_ble_eq_true rfl) 145 rfl (Qi.to (fun v' M' hv => ?_))
      obtain ⟨rfl, rfl⟩ := hv
      exact z_ireturn hX dX10_man_145 (zend_i h15_)
    rw [if_neg hc7] at h4_
    have hout : (x2 : Int32).toInt < 0 ∨ 7 < (x2 : Int32).toInt := zsw_out (fun k h1 h2 => by
      have hk : k = 0 ∨ k = 1 ∨ k = 2 ∨ k = 3 ∨ k = 4 ∨ k = 5 ∨ k = 6 ∨ k = 7 := by omega
      rcases hk with rfl | rfl | rfl | rfl | rfl | rfl | rfl | rfl
      · exact hc0
      · exact hc1
      · exact hc2
      · exact hc3
      · exact hc4
      · exact hc5
      · exact hc6
      · exact hc7)
    refine z_tabOut hX dX10_man_41 hout 146 (by decide) ?_
    refine z_aload_n hX dX10_man_146 rfl 147 rfl ?_
    refine z_getF hX fX10_102 dX10_man_147 zs_98 (by decide) rfl 150 rfl ?_
    refine z_iload_n hX dX10_man_150 rfl 151 rfl ?_
    obtain ⟨hb, h16_⟩ := zgd h4_
    refine z_iald hX dX10_man_151 zs_128 (zok_in hb) 152 rfl ?_
    exact z_ireturn hX dX10_man_152 (zend_i h16_)
  · rw [if_neg hc] at h4_
    refine z_iconst hX dX10_man_38 qi_0 39 rfl ?_
    exact z_ireturn hX dX10_man_39 (zend_i h4_)
def gX10_man_J23 (x1 : Int32) (x2 : Int32) (M : zM) : Option (Int32 × zM) :=
  gX10_man_J28 x1 x2 2 M
set_option maxRecDepth 100000 in
set_option maxHeartbeats 2000000 in
theorem aX10_man_J23 {G : zG} {X : zX} {x1 : Int32} {x2 : Int32} (hX : zC G X cX10_man 3 RX10 (some .int) 2)   {M : zM} {res : (Int32 × zM)}  (h : gX10_man_J23 x1 x2 M = some res) : Z G X (zQi res) 23 [some (.ref 98), some (.int x1), some (.int x2)] [.ref 98] M := by
  unfold gX10_man_J23 at h
  refine z_iconst hX dX10_man_23 qi_2 24 rfl ?_
  refine z_goto hX dX10_man_24 28 (by decide) ?_
  refine z_mask [true, true, true] ?_
  have hz := aX10_man_J28 hX h
  exact hz
def gX10_man (x1 : Int32) (x2 : Int32) (M : zM) : Option (Int32 × zM) :=
  zcI (gX10_isMan x1 M) (fun v1_ => (if v1_ = 0 then gX10_man_J28 x1 x2 1 M
  else (if x2 < 0 then gX10_man_J23 x1 x2 M
  else (if x2 ≤ 8 then gX10_man_J28 x1 x2 0 M
  else gX10_man_J23 x1 x2 M))))
set_option maxRecDepth 100000 in
set_option maxHeartbeats 2000000 in
theorem mX10_man {G : zG} {x1 : Int32} {x2 : Int32} {M : zM}  {res : (Int32 × zM)} (h : gX10_man x1 x2 M = some res) : Ct G 2 tX10_man [.ref 98, .int x1, .int x2] M (zQi res) := by
  unfold gX10_man at h
  refine Ct.of (y := yX10_man) rfl plX10 (Nat.le_of_ble_eq_true rfl) (fun X hX => ?_)
  replace hX : zC G X cX10_man 3 RX10 (some .int) 2 := hX
  show Z G X _ 0 [some (.ref 98), some (.int x1), some (.int x2)] [] M
  refine z_aload_n hX dX10_man_0 rfl 1 rfl ?_
  refine z_aload_n hX dX10_man_1 rfl 2 rfl ?_
  refine z_iload_n hX dX10_man_2 rfl 3 rfl ?_
  obtain ⟨v1_, hq, h2_⟩ := zcI_of h
  refine z_callV hX vX10_isMan lX10_413 dX10_man_3 zs_98 rfl (mX10_isMan  hq) (by decide) rfl rfl (Nat.le_of_ble_eq_true rfl) 6 rfl (Qi.to (fun v' M' hv => ?_))
  obtain ⟨rfl, rfl⟩ := hv
  refine z_if_ne hX dX10_man_6 13 9 (by decide) rfl (fun hc => ?_) (fun hc => ?_)
  · rw [if_neg hc] at h2_
    refine z_iload_n hX dX10_man_13 rfl 14 rfl ?_
    refine z_if_lt hX dX10_man_14 23 17 (by decide) rfl (fun hc => ?_) (fun hc => ?_)
    · rw [if_pos hc] at h2_
      refine z_mask [true, true, true] ?_
      have hz := aX10_man_J23 hX h2_
      exact hz
    · rw [if_neg hc] at h2_
      refine z_iload_n hX dX10_man_17 rfl 18 rfl ?_
      refine z_bipush hX dX10_man_18 qb_8 20 rfl ?_
      refine z_icmp_le hX dX10_man_20 27 23 (by decide) rfl (fun hc => ?_) (fun hc => ?_)
      · rw [if_pos hc] at h2_
        refine z_iconst hX dX10_man_27 qi_0 28 rfl ?_
        refine z_mask [true, true, true] ?_
        have hz := aX10_man_J28 hX h2_
        exact hz
      · rw [if_neg hc] at h2_
        refine z_mask [true, true, true] ?_
        have hz := aX10_man_J23 hX h2_
        exact hz
  · rw [if_pos hc] at h2_
    refine z_iconst hX dX10_man_9 qi_1 10 rfl ?_
    refine z_goto hX dX10_man_10 28 (by decide) ?_
    refine z_mask [true, true, true] ?_
    have hz := aX10_man_J28 hX h2_
    exact hz
def gX10_isThing (x1 : Int32) (M : zM) : Option Int32 :=
  (if x1 < 0 then some 0
  else (if (M.1 100 (1 : Int32).toNatClampNeg) ≤ x1 then some 0
  else some 1))
set_option maxRecDepth 100000 in
set_option maxHeartbeats 2000000 in
theorem mX10_isThing {G : zG} {x1 : Int32} {M : zM}  {res : Int32} (h : gX10_isThing x1 M = some res) : Ct G 1 tX10_isThing [.ref 98, .int x1] M (zQip M res) := by
  unfold gX10_isThing at h
  refine Ct.of (y := yX10_isThing) rfl plX10 (Nat.le_of_ble_eq_true rfl) (fun X hX => ?_)
  replace hX : zC G X cX10_isThing 2 RX10 (some .boolean) 1 := hX
  show Z G X _ 0 [some (.ref 98), some (.int x1)] [] M
  refine z_iload_n hX dX10_isThing_0 rfl 1 rfl ?_
  refine z_if_lt hX dX10_isThing_1 18 4 (by decide) rfl (fun hc => ?_) (fun hc => ?_)
  · rw [if_pos hc] at h
    refine z_iconst hX dX10_isThing_18 qi_0 19 rfl ?_
    exact z_zreturn hX dX10_isThing_19 (by decide) (zend_ip h)
  · rw [if_neg hc] at h
    refine z_iload_n hX dX10_isThing_4 rfl 5 rfl ?_
    refine z_aload_n hX dX10_isThing_5 rfl 6 rfl ?_
    refine z_getF hX fX10_13 dX10_isThing_6 zs_98 (by decide) rfl 9 rfl ?_
    refine z_iconst hX dX10_isThing_9 qi_1 10 rfl ?_
    refine z_iald hX dX10_isThing_10 zs_100 (zok_in (by decide)) 11 rfl ?_
    refine z_icmp_ge hX dX10_isThing_11 18 14 (by decide) rfl (fun hc => ?_) (fun hc => ?_)
    · rw [if_pos hc] at h
      refine z_iconst hX dX10_isThing_18 qi_0 19 rfl ?_
      exact z_zreturn hX dX10_isThing_19 (by decide) (zend_ip h)
    · rw [if_neg hc] at h
      refine z_iconst hX dX10_isThing_14 qi_1 15 rfl ?_
      refine z_goto hX dX10_isThing_15 19 (by decide) ?_
      exact z_zreturn hX dX10_isThing_19 (by decide) (zend_ip h)
def gX10_goerOf_L2 (x1 : Int32) (x2 : Int32) (M : zM) (rc2 : Int32 → Option Int32) (s : Int32) : Option Int32 :=
  (if (M.1 100 (0 : Int32).toNatClampNeg) ≤ s then some (-1)
  else zg (zok ((6 * x1) + s) 138) ((if (M.1 126 (((6 * x1) + s) : Int32).toNatClampNeg) = x2 then some s
  else rc2 (s + 1))))
set_option maxRecDepth 100000 in
set_option maxHeartbeats 2000000 in
theorem aX10_goerOf_L2 {G : zG} {X : zX} {x1 : Int32} {x2 : Int32} (hX : zC G X cX10_goerOf 4 RX10 (some .int) 1)   {M : zM} {res : Int32}  : ∀ (N : Nat) (s : Int32), zfix N (gX10_goerOf_L2 x1 x2 M) s = some res → Z G X (zQip M res) 2 [some (.ref 98), some (.int x1), some (.int x2), some (.int s)] [] M := by
  intro N
  induction N with
  | zero => intro s h; cases h
  | succ N hrc2 =>
    intro s h
    replace h : gX10_goerOf_L2 x1 x2 M (zfix N (gX10_goerOf_L2 x1 x2 M)) s = some res := h
    unfold gX10_goerOf_L2 at h
    refine z_iload_n hX dX10_goerOf_2 rfl 3 rfl ?_
    refine z_aload_n hX dX10_goerOf_3 rfl 4 rfl ?_
    refine z_getF hX fX10_13 dX10_goerOf_4 zs_98 (by decide) rfl 7 rfl ?_
    refine z_iconst hX dX10_goerOf_7 qi_0 8 rfl ?_
    refine z_iald hX dX10_goerOf_8 zs_100 (zok_in (by decide)) 9 rfl ?_
    refine z_icmp_ge hX dX10_goerOf_9 35 12 (by decide) rfl (fun hc => ?_) (fun hc => ?_)
    · rw [if_pos hc] at h
      refine z_iconst hX dX10_goerOf_35 qi_m1 36 rfl ?_
      exact z_ireturn hX dX10_goerOf_36 (zend_ip h)
    · rw [if_neg hc] at h
      refine z_aload_n hX dX10_goerOf_12 rfl 13 rfl ?_
      refine z_getF hX fX10_96 dX10_goerOf_13 zs_98 (by decide) rfl 16 rfl ?_
      refine z_bipush hX dX10_goerOf_16 qb_6 18 rfl ?_
      refine z_iload_n hX dX10_goerOf_18 rfl 19 rfl ?_
      refine z_imul hX dX10_goerOf_19 20 rfl ?_
      refine z_iload_n hX dX10_goerOf_20 rfl 21 rfl ?_
      refine z_iadd hX dX10_goerOf_21 22 rfl ?_
      obtain ⟨hb, h1_⟩ := zgd h
      refine z_iald hX dX10_goerOf_22 zs_126 (zok_in hb) 23 rfl ?_
      refine z_iload_n hX dX10_goerOf_23 rfl 24 rfl ?_
      refine z_icmp_ne hX dX10_goerOf_24 29 27 (by decide) rfl (fun hc => ?_) (fun hc => ?_)
      · rw [if_neg hc] at h1_
        refine z_iinc (v := (s + 1)) hX dX10_goerOf_29 rfl (by rfl) (by decide) 32 rfl ?_
        refine z_goto hX dX10_goerOf_32 2 (by decide) ?_
        refine z_mask [true, true, true, true] ?_
        have hz := hrc2 _ h1_
        exact hz
      · rw [if_pos hc] at h1_
        refine z_iload_n hX dX10_goerOf_27 rfl 28 rfl ?_
        exact z_ireturn hX dX10_goerOf_28 (zend_ip h1_)
def gX10_goerOf (x1 : Int32) (x2 : Int32) (M : zM) : Option Int32 :=
  zfix zFu (gX10_goerOf_L2 x1 x2 M) 0
set_option maxRecDepth 100000 in
set_option maxHeartbeats 2000000 in
theorem mX10_goerOf {G : zG} {x1 : Int32} {x2 : Int32} {M : zM}  {res : Int32} (h : gX10_goerOf x1 x2 M = some res) : Ct G 1 tX10_goerOf [.ref 98, .int x1, .int x2] M (zQip M res) := by
  unfold gX10_goerOf at h
  refine Ct.of (y := yX10_goerOf) rfl plX10 (Nat.le_of_ble_eq_true rfl) (fun X hX => ?_)
  replace hX : zC G X cX10_goerOf 4 RX10 (some .int) 1 := hX
  show Z G X _ 0 [some (.ref 98), some (.int x1), some (.int x2), none] [] M
  refine z_iconst hX dX10_goerOf_0 qi_0 1 rfl ?_
  refine z_istore_n hX dX10_goerOf_1 (by decide) 2 rfl ?_
  refine z_mask [true, true, true, true] ?_
  have hz := aX10_goerOf_L2 hX _ _ h
  exact hz
def gX10_thing (x1 : Int32) (x2 : Int32) (M : zM) : Option (Int32 × zM) :=
  zlet (zI M 98 0 0) (fun M1_ => zcI (gX10_isThing x1 M1_) (fun v3_ => (if v3_ = 0 then some ((-1), M1_)
  else (if x2 = 0 then zg (zok x1 16) (some ((M1_.1 106 (x1 : Int32).toNatClampNeg), M1_))
  else if x2 = 1 then zg (zok x1 16) (some ((M1_.1 107 (x1 : Int32).toNatClampNeg), M1_))
  else if x2 = 2 then zg (zok x1 184) (some ((M1_.1 131 (x1 : Int32).toNatClampNeg), M1_))
  else if x2 = 3 then zg (zok x1 184) (some ((M1_.1 130 (x1 : Int32).toNatClampNeg), M1_))
  else if x2 = 4 then zcI (gX10_goerOf 0 x1 M1_) (fun v9_ => zcI (gX10_orNone v9_ M1_) (fun v11_ => some (v11_, M1_)))
  else some ((-1), M1_)))))
set_option maxRecDepth 100000 in
set_option maxHeartbeats 2000000 in
theorem mX10_thing {G : zG} {x1 : Int32} {x2 : Int32} {M : zM}  {res : (Int32 × zM)} (h : gX10_thing x1 x2 M = some res) : Ct G 2 tX10_thing [.ref 98, .int x1, .int x2] M (zQi res) := by
  unfold gX10_thing at h
  refine Ct.of (y := yX10_thing) rfl plX10 (Nat.le_of_ble_eq_true rfl) (fun X hX => ?_)
  replace hX : zC G X cX10_thing 3 RX10 (some .int) 2 := hX
  show Z G X _ 0 [some (.ref 98), some (.int x1), some (.int x2)] [] M
  refine z_aload_n hX dX10_thing_0 rfl 1 rfl ?_
  refine z_iconst hX dX10_thing_1 qi_0 2 rfl ?_
  refine z_putI hX pX10_154 dX10_thing_2 zs_98 (by decide) rfl 5 rfl ?_
  refine z_mem h (fun M1_ h2_ => ?_)
  refine z_aload_n hX dX10_thing_5 rfl 6 rfl ?_
  refine z_iload_n hX dX10_thing_6 rfl 7 rfl ?_
  obtain ⟨v3_, hq, h4_⟩ := zcI_of h2_
  refine z_callV hX vX10_isThing lX10_422 dX10_thing_7 zs_98 rfl (mX10_isThing  hq) (by decide) rfl rfl (Nat.le_of_ble_eq_true rfl) 10 rfl (Qi.to (fun v' M' hv => ?_))
  obtain ⟨rfl, rfl⟩ := hv
  refine z_if_ne hX dX10_thing_10 15 13 (by decide) rfl (fun hc => ?_) (fun hc => ?_)
  · rw [if_neg hc] at h4_
    refine z_iload_n hX dX10_thing_15 rfl 16 rfl ?_
    by_cases hc0 : x2 = 0
    · rw [if_pos hc0] at h4_
      refine z_tabIn hX dX10_thing_16 (by rw [hc0]; decide) (by rw [hc0]; decide) (by rw [hc0]; rfl) 52 (by decide) ?_
      refine z_aload_n hX dX10_thing_52 rfl 53 rfl ?_
      refine z_getF hX fX10_31 dX10_thing_53 zs_98 (by decide) rfl 56 rfl ?_
      refine z_iload_n hX dX10_thing_56 rfl 57 rfl ?_
      obtain ⟨hb, h5_⟩ := zgd h4_
      refine z_iald hX dX10_thing_57 zs_106 (zok_in hb) 58 rfl ?_
      exact z_ireturn hX dX10_thing_58 (zend_i h5_)
    rw [if_neg hc0] at h4_
    by_cases hc1 : x2 = 1
    · rw [if_pos hc1] at h4_
      refine z_tabIn hX dX10_thing_16 (by rw [hc1]; decide) (by rw [hc1]; decide) (by rw [hc1]; rfl) 59 (by decide) ?_
      refine z_aload_n hX dX10_thing_59 rfl 60 rfl ?_
      refine z_getF hX fX10_34 dX10_thing_60 zs_98 (by decide) rfl 63 rfl ?_
      refine z_iload_n hX dX10_thing_63 rfl 64 rfl ?_
      obtain ⟨hb, h6_⟩ := zgd h4_
      refine z_iald hX dX10_thing_64 zs_107 (zok_in hb) 65 rfl ?_
      exact z_ireturn hX dX10_thing_65 (zend_i h6_)
    rw [if_neg hc1] at h4_
    by_cases hc2 : x2 = 2
    · rw [if_pos hc2] at h4_
      refine z_tabIn hX dX10_thing_16 (by rw [hc2]; decide) (by rw [hc2]; decide) (by rw [hc2]; rfl) 66 (by decide) ?_
      refine z_aload_n hX dX10_thing_66 rfl 67 rfl ?_
      refine z_getF hX fX10_111 dX10_thing_67 zs_98 (by decide) rfl 70 rfl ?_
      refine z_iload_n hX dX10_thing_70 rfl 71 rfl ?_
      obtain ⟨hb, h7_⟩ := zgd h4_
      refine z_iald hX dX10_thing_71 zs_131 (zok_in hb) 72 rfl ?_
      exact z_ireturn hX dX10_thing_72 (zend_i h7_)
    rw [if_neg hc2] at h4_
    by_cases hc3 : x2 = 3
    · rw [if_pos hc3] at h4_
      refine z_tabIn hX dX10_thing_16 (by rw [hc3]; decide) (by rw [hc3]; decide) (by rw [hc3]; rfl) 73 (by decide) ?_
      refine z_aload_n hX dX10_thing_73 rfl 74 rfl ?_
      refine z_getF hX fX10_108 dX10_thing_74 zs_98 (by decide) rfl 77 rfl ?_
      refine z_iload_n hX dX10_thing_77 rfl 78 rfl ?_
      obtain ⟨hb, h8_⟩ := zgd h4_
      refine z_iald hX dX10_thing_78 zs_130 (zok_in hb) 79 rfl ?_
      exact z_ireturn hX dX10_thing_79 (zend_i h8_)
    rw [if_neg hc3] at h4_
    by_cases hc4 : x2 = 4
    · rw [if_pos hc4] at h4_
      refine z_tabIn hX dX10_thing_16 (by rw [hc4]; decide) (by rw [hc4]; decide) (by rw [hc4]; rfl) 80 (by decide) ?_
      refine z_aload_n hX dX10_thing_80 rfl 81 rfl ?_
      refine z_iconst hX dX10_thing_81 qi_0 82 rfl ?_
      refine z_iload_n hX dX10_thing_82 rfl 83 rfl ?_
      obtain ⟨v9_, hq, h10_⟩ := zcI_of h4_
      refine z_callV hX vX10_goerOf lX10_337 dX10_thing_83 zs_98 rfl (mX10_goerOf  hq) (by decide) rfl rfl (Nat.le_of_ble_eq_true rfl) 86 rfl (Qi.to (fun v' M' hv => ?_))
      obtain ⟨rfl, rfl⟩ := hv
      obtain ⟨v11_, hq, h12_⟩ := zcI_of h10_
      refine z_callS hX vX10_orNone rfl lX10_416 dX10_thing_86 (mX10_orNone  hq) (by decide) rfl rfl (Nat.le_of_ble_eq_true rfl) 89 rfl (Qi.to (fun v' M' hv => ?_))
      obtain ⟨rfl, rfl⟩ := hv
      exact z_ireturn hX dX10_thing_89 (zend_i h12_)
    rw [if_neg hc4] at h4_
    have hout : (x2 : Int32).toInt < 0 ∨ 4 < (x2 : Int32).toInt := zsw_out (fun k h1 h2 => by
      have hk : k = 0 ∨ k = 1 ∨ k = 2 ∨ k = 3 ∨ k = 4 := by omega
      rcases hk with rfl | rfl | rfl | rfl | rfl
      · exact hc0
      · exact hc1
      · exact hc2
      · exact hc3
      · exact hc4)
    refine z_tabOut hX dX10_thing_16 hout 90 (by decide) ?_
    refine z_iconst hX dX10_thing_90 qi_m1 91 rfl ?_
    exact z_ireturn hX dX10_thing_91 (zend_i h4_)
  · rw [if_pos hc] at h4_
    refine z_iconst hX dX10_thing_13 qi_m1 14 rfl ?_
    exact z_ireturn hX dX10_thing_14 (zend_i h4_)
def gX10_hasLaw (x1 : Int32) (M : zM) : Option Int32 :=
  zg (zok x1 6) (zg (zok x1 6) ((if (M.1 113 (x1 : Int32).toNatClampNeg) ≤ (M.1 112 (x1 : Int32).toNatClampNeg) then some 0
  else some 1)))
set_option maxRecDepth 100000 in
set_option maxHeartbeats 2000000 in
theorem mX10_hasLaw {G : zG} {x1 : Int32} {M : zM}  {res : Int32} (h : gX10_hasLaw x1 M = some res) : Ct G 1 tX10_hasLaw [.ref 98, .int x1] M (zQip M res) := by
  unfold gX10_hasLaw at h
  refine Ct.of (y := yX10_hasLaw) rfl plX10 (Nat.le_of_ble_eq_true rfl) (fun X hX => ?_)
  replace hX : zC G X cX10_hasLaw 2 RX10 (some .boolean) 1 := hX
  show Z G X _ 0 [some (.ref 98), some (.int x1)] [] M
  refine z_aload_n hX dX10_hasLaw_0 rfl 1 rfl ?_
  refine z_getF hX fX10_52 dX10_hasLaw_1 zs_98 (by decide) rfl 4 rfl ?_
  refine z_iload_n hX dX10_hasLaw_4 rfl 5 rfl ?_
  obtain ⟨hb, h1_⟩ := zgd h
  refine z_iald hX dX10_hasLaw_5 zs_113 (zok_in hb) 6 rfl ?_
  refine z_aload_n hX dX10_hasLaw_6 rfl 7 rfl ?_
  refine z_getF hX fX10_49 dX10_hasLaw_7 zs_98 (by decide) rfl 10 rfl ?_
  refine z_iload_n hX dX10_hasLaw_10 rfl 11 rfl ?_
  obtain ⟨hb, h2_⟩ := zgd h1_
  refine z_iald hX dX10_hasLaw_11 zs_112 (zok_in hb) 12 rfl ?_
  refine z_icmp_le hX dX10_hasLaw_12 19 15 (by decide) rfl (fun hc => ?_) (fun hc => ?_)
  · rw [if_pos hc] at h2_
    refine z_iconst hX dX10_hasLaw_19 qi_0 20 rfl ?_
    exact z_zreturn hX dX10_hasLaw_20 (by decide) (zend_ip h2_)
  · rw [if_neg hc] at h2_
    refine z_iconst hX dX10_hasLaw_15 qi_1 16 rfl ?_
    refine z_goto hX dX10_hasLaw_16 20 (by decide) ?_
    exact z_zreturn hX dX10_hasLaw_20 (by decide) (zend_ip h2_)
def gX10_calls_J99 (x1 : Int32) (y2 : Int64) (M : zM) : Option zM :=
  zlet (zJ M 116 (5 : Int32).toNatClampNeg y2) (fun M17_ => zg (zok x1 23) (zlet (zJ M17_ 116 (6 : Int32).toNatClampNeg (((M17_.1 118 (x1 : Int32).toNatClampNeg) : Int32).toInt64)) (fun M20_ => some M20_)))
set_option maxRecDepth 100000 in
set_option maxHeartbeats 2000000 in
theorem aX10_calls_J99 {G : zG} {X : zX} {x1 : Int32} {y2 : Int64} (hX : zC G X cX10_calls 5 RX10 none 1)   {M : zM} {res : zM}  (h : gX10_calls_J99 x1 y2 M = some res) : Z G X (zQv res) 99 [some (.ref 98), some (.int x1), none, none, none] [.long y2, .int 5, .ref 116] M := by
  unfold gX10_calls_J99 at h
  refine z_last hX dX10_calls_99 zs_116 (zok_in (by decide)) 100 rfl ?_
  refine z_mem h (fun M17_ h18_ => ?_)
  refine z_aload_n hX dX10_calls_100 rfl 101 rfl ?_
  refine z_getF hX fX10_65 dX10_calls_101 zs_98 (by decide) rfl 104 rfl ?_
  refine z_bipush hX dX10_calls_104 qb_6 106 rfl ?_
  refine z_aload_n hX dX10_calls_106 rfl 107 rfl ?_
  refine z_getF hX fX10_72 dX10_calls_107 zs_98 (by decide) rfl 110 rfl ?_
  refine z_iload_n hX dX10_calls_110 rfl 111 rfl ?_
  obtain ⟨hb, h19_⟩ := zgd h18_
  refine z_iald hX dX10_calls_111 zs_118 (zok_in hb) 112 rfl ?_
  refine z_i2l hX dX10_calls_112 113 rfl ?_
  refine z_last hX dX10_calls_113 zs_116 (zok_in (by decide)) 114 rfl ?_
  refine z_mem h19_ (fun M20_ h21_ => ?_)
  exact z_return hX dX10_calls_114 (zend_v h21_)
def gX10_calls (x1 : Int32) (x2 : Int32) (x3 : Int32) (x4 : Int32) (M : zM) : Option zM :=
  zg (zok x2 12) (zlet (zJ M 116 (0 : Int32).toNatClampNeg (((M.1 102 (x2 : Int32).toNatClampNeg) : Int32).toInt64)) (fun M2_ => zg (zok ((6 * x1) + x2) 138) (zlet (zJ M2_ 116 (1 : Int32).toNatClampNeg (((M2_.1 123 (((6 * x1) + x2) : Int32).toNatClampNeg) : Int32).toInt64)) (fun M5_ => zg (zok x2 12) (zlet (zJ M5_ 116 (2 : Int32).toNatClampNeg (((M5_.1 104 (x2 : Int32).toNatClampNeg) : Int32).toInt64)) (fun M8_ => zg (zok ((6 * x1) + x2) 138) (zlet (zJ M8_ 116 (3 : Int32).toNatClampNeg ((((M8_.1 124 (((6 * x1) + x2) : Int32).toNatClampNeg) + x4) : Int32).toInt64)) (fun M11_ => zg (zok x1 23) (zlet (zJ M11_ 116 (4 : Int32).toNatClampNeg (((M11_.1 120 (x1 : Int32).toNatClampNeg) : Int32).toInt64)) (fun M14_ => (if x3 = (-1) then gX10_calls_J99 x1 0 M14_
  else zg (zok x3 16) (gX10_calls_J99 x1 (((M14_.1 107 (x3 : Int32).toNatClampNeg) : Int32).toInt64) M14_))))))))))))
set_option maxRecDepth 100000 in
set_option maxHeartbeats 2000000 in
theorem mX10_calls {G : zG} {x1 : Int32} {x2 : Int32} {x3 : Int32} {x4 : Int32} {M : zM}  {res : zM} (h : gX10_calls x1 x2 x3 x4 M = some res) : Ct G 1 tX10_calls [.ref 98, .int x1, .int x2, .int x3, .int x4] M (zQv res) := by
  unfold gX10_calls at h
  refine Ct.of (y := yX10_calls) rfl plX10 (Nat.le_of_ble_eq_true rfl) (fun X hX => ?_)
  replace hX : zC G X cX10_calls 5 RX10 none 1 := hX
  show Z G X _ 0 [some (.ref 98), some (.int x1), some (.int x2), some (.int x3), some (.int x4)] [] M
  refine z_aload_n hX dX10_calls_0 rfl 1 rfl ?_
  refine z_getF hX fX10_65 dX10_calls_1 zs_98 (by decide) rfl 4 rfl ?_
  refine z_iconst hX dX10_calls_4 qi_0 5 rfl ?_
  refine z_aload_n hX dX10_calls_5 rfl 6 rfl ?_
  refine z_getF hX fX10_19 dX10_calls_6 zs_98 (by decide) rfl 9 rfl ?_
  refine z_iload_n hX dX10_calls_9 rfl 10 rfl ?_
  obtain ⟨hb, h1_⟩ := zgd h
  refine z_iald hX dX10_calls_10 zs_102 (zok_in hb) 11 rfl ?_
  refine z_i2l hX dX10_calls_11 12 rfl ?_
  refine z_last hX dX10_calls_12 zs_116 (zok_in (by decide)) 13 rfl ?_
  refine z_mem h1_ (fun M2_ h3_ => ?_)
  refine z_aload_n hX dX10_calls_13 rfl 14 rfl ?_
  refine z_getF hX fX10_65 dX10_calls_14 zs_98 (by decide) rfl 17 rfl ?_
  refine z_iconst hX dX10_calls_17 qi_1 18 rfl ?_
  refine z_aload_n hX dX10_calls_18 rfl 19 rfl ?_
  refine z_getF hX fX10_87 dX10_calls_19 zs_98 (by decide) rfl 22 rfl ?_
  refine z_bipush hX dX10_calls_22 qb_6 24 rfl ?_
  refine z_iload_n hX dX10_calls_24 rfl 25 rfl ?_
  refine z_imul hX dX10_calls_25 26 rfl ?_
  refine z_iload_n hX dX10_calls_26 rfl 27 rfl ?_
  refine z_iadd hX dX10_calls_27 28 rfl ?_
  obtain ⟨hb, h4_⟩ := zgd h3_
  refine z_iald hX dX10_calls_28 zs_123 (zok_in hb) 29 rfl ?_
  refine z_i2l hX dX10_calls_29 30 rfl ?_
  refine z_last hX dX10_calls_30 zs_116 (zok_in (by decide)) 31 rfl ?_
  refine z_mem h4_ (fun M5_ h6_ => ?_)
  refine z_aload_n hX dX10_calls_31 rfl 32 rfl ?_
  refine z_getF hX fX10_65 dX10_calls_32 zs_98 (by decide) rfl 35 rfl ?_
  refine z_iconst hX dX10_calls_35 qi_2 36 rfl ?_
  refine z_aload_n hX dX10_calls_36 rfl 37 rfl ?_
  refine z_getF hX fX10_25 dX10_calls_37 zs_98 (by decide) rfl 40 rfl ?_
  refine z_iload_n hX dX10_calls_40 rfl 41 rfl ?_
  obtain ⟨hb, h7_⟩ := zgd h6_
  refine z_iald hX dX10_calls_41 zs_104 (zok_in hb) 42 rfl ?_
  refine z_i2l hX dX10_calls_42 43 rfl ?_
  refine z_last hX dX10_calls_43 zs_116 (zok_in (by decide)) 44 rfl ?_
  refine z_mem h7_ (fun M8_ h9_ => ?_)
  refine z_aload_n hX dX10_calls_44 rfl 45 rfl ?_
  refine z_getF hX fX10_65 dX10_calls_45 zs_98 (by decide) rfl 48 rfl ?_
  refine z_iconst hX dX10_calls_48 qi_3 49 rfl ?_
  refine z_aload_n hX dX10_calls_49 rfl 50 rfl ?_
  refine z_getF hX fX10_90 dX10_calls_50 zs_98 (by decide) rfl 53 rfl ?_
  refine z_bipush hX dX10_calls_53 qb_6 55 rfl ?_
  refine z_iload_n hX dX10_calls_55 rfl 56 rfl ?_
  refine z_imul hX dX10_calls_56 57 rfl ?_
  refine z_iload_n hX dX10_calls_57 rfl 58 rfl ?_
  refine z_iadd hX dX10_calls_58 59 rfl ?_
  obtain ⟨hb, h10_⟩ := zgd h9_
  refine z_iald hX dX10_calls_59 zs_124 (zok_in hb) 60 rfl ?_
  refine z_iload hX dX10_calls_60 rfl 62 rfl ?_
  refine z_iadd hX dX10_calls_62 63 rfl ?_
  refine z_i2l hX dX10_calls_63 64 rfl ?_
  refine z_last hX dX10_calls_64 zs_116 (zok_in (by decide)) 65 rfl ?_
  refine z_mem h10_ (fun M11_ h12_ => ?_)
  refine z_aload_n hX dX10_calls_65 rfl 66 rfl ?_
  refine z_getF hX fX10_65 dX10_calls_66 zs_98 (by decide) rfl 69 rfl ?_
  refine z_iconst hX dX10_calls_69 qi_4 70 rfl ?_
  refine z_aload_n hX dX10_calls_70 rfl 71 rfl ?_
  refine z_getF hX fX10_78 dX10_calls_71 zs_98 (by decide) rfl 74 rfl ?_
  refine z_iload_n hX dX10_calls_74 rfl 75 rfl ?_
  obtain ⟨hb, h13_⟩ := zgd h12_
  refine z_iald hX dX10_calls_75 zs_120 (zok_in hb) 76 rfl ?_
  refine z_i2l hX dX10_calls_76 77 rfl ?_
  refine z_last hX dX10_calls_77 zs_116 (zok_in (by decide)) 78 rfl ?_
  refine z_mem h13_ (fun M14_ h15_ => ?_)
  refine z_aload_n hX dX10_calls_78 rfl 79 rfl ?_
  refine z_getF hX fX10_65 dX10_calls_79 zs_98 (by decide) rfl 82 rfl ?_
  refine z_iconst hX dX10_calls_82 qi_5 83 rfl ?_
  refine z_iload_n hX dX10_calls_83 rfl 84 rfl ?_
  refine z_iconst hX dX10_calls_84 qi_m1 85 rfl ?_
  refine z_icmp_ne hX dX10_calls_85 92 88 (by decide) rfl (fun hc => ?_) (fun hc => ?_)
  · rw [if_neg hc] at h15_
    refine z_aload_n hX dX10_calls_92 rfl 93 rfl ?_
    refine z_getF hX fX10_34 dX10_calls_93 zs_98 (by decide) rfl 96 rfl ?_
    refine z_iload_n hX dX10_calls_96 rfl 97 rfl ?_
    obtain ⟨hb, h16_⟩ := zgd h15_
    refine z_iald hX dX10_calls_97 zs_107 (zok_in hb) 98 rfl ?_
    refine z_i2l hX dX10_calls_98 99 rfl ?_
    refine z_mask [true, true, false, false, false] ?_
    have hz := aX10_calls_J99 hX h16_
    exact hz
  · rw [if_pos hc] at h15_
    refine z_lconst hX dX10_calls_88 ql_0 89 rfl ?_
    refine z_goto hX dX10_calls_89 99 (by decide) ?_
    refine z_mask [true, true, false, false, false] ?_
    have hz := aX10_calls_J99 hX h15_
    exact hz
def gX10_is (x0 : Int32) (M : zM) : Option Int64 :=
  (if x0 = 0 then some 0
  else some 1)
set_option maxRecDepth 100000 in
set_option maxHeartbeats 2000000 in
theorem mX10_is {G : zG} {x0 : Int32} {M : zM}  {res : Int64} (h : gX10_is x0 M = some res) : Ct G 1 tX10_is [.int x0] M (zQlp M res) := by
  unfold gX10_is at h
  refine Ct.of (y := yX10_is) rfl plX10 (Nat.le_of_ble_eq_true rfl) (fun X hX => ?_)
  replace hX : zC G X cX10_is 1 RX10 (some .long) 1 := hX
  show Z G X _ 0 [some (.int x0)] [] M
  refine z_iload_n hX dX10_is_0 rfl 1 rfl ?_
  refine z_if_eq hX dX10_is_1 8 4 (by decide) rfl (fun hc => ?_) (fun hc => ?_)
  · rw [if_pos hc] at h
    refine z_lconst hX dX10_is_8 ql_0 9 rfl ?_
    exact z_lreturn hX dX10_is_9 (zend_lp h)
  · rw [if_neg hc] at h
    refine z_lconst hX dX10_is_4 ql_1 5 rfl ?_
    refine z_goto hX dX10_is_5 9 (by decide) ?_
    exact z_lreturn hX dX10_is_9 (zend_lp h)
def gX10_works_J407 (z6 : Int64) (M : zM) : Option (Int32 × zM) :=
  zg (zok ((M.1 98 34) - 1) 64) (zlet (zJ M 117 (((M.1 98 34) - 1) : Int32).toNatClampNeg z6) (fun M10_ => (if 0 < (lg_cmp z6 1000000000000) then some (0, M10_)
  else (if (lg_cmp z6 (-1000000000000)) < 0 then some (0, M10_)
  else some (1, M10_)))))
set_option maxRecDepth 100000 in
set_option maxHeartbeats 2000000 in
theorem aX10_works_J407 {G : zG} {X : zX} {z6 : Int64} (hX : zC G X cX10_works 8 RX10 (some .boolean) 2)   {M : zM} {res : (Int32 × zM)}  (h : gX10_works_J407 z6 M = some res) : Z G X (zQi res) 407 [some (.ref 98), none, none, none, none, none, some (.long z6), none] [] M := by
  unfold gX10_works_J407 at h
  refine z_aload_n hX dX10_works_407 rfl 408 rfl ?_
  refine z_getF hX fX10_69 dX10_works_408 zs_98 (by decide) rfl 411 rfl ?_
  refine z_aload_n hX dX10_works_411 rfl 412 rfl ?_
  refine z_getI hX fX10_314 dX10_works_412 zs_98 (by decide) rfl 415 rfl ?_
  refine z_iconst hX dX10_works_415 qi_1 416 rfl ?_
  refine z_isub hX dX10_works_416 417 rfl ?_
  refine z_lload hX dX10_works_417 rfl 419 rfl ?_
  obtain ⟨hb, h9_⟩ := zgd h
  refine z_last hX dX10_works_419 zs_117 (zok_in hb) 420 rfl ?_
  refine z_mem h9_ (fun M10_ h11_ => ?_)
  refine z_lload hX dX10_works_420 rfl 422 rfl ?_
  refine z_ldc2 hX dX10_works_422 kX10_327 425 rfl ?_
  refine z_lcmp hX dX10_works_425 426 rfl ?_
  refine z_if_gt hX dX10_works_426 442 429 (by decide) rfl (fun hc => ?_) (fun hc => ?_)
  · rw [if_pos hc] at h11_
    refine z_iconst hX dX10_works_442 qi_0 443 rfl ?_
    exact z_zreturn hX dX10_works_443 (by decide) (zend_i h11_)
  · rw [if_neg hc] at h11_
    refine z_lload hX dX10_works_429 rfl 431 rfl ?_
    refine z_ldc2 hX dX10_works_431 kX10_329 434 rfl ?_
    refine z_lcmp hX dX10_works_434 435 rfl ?_
    refine z_if_lt hX dX10_works_435 442 438 (by decide) rfl (fun hc => ?_) (fun hc => ?_)
    · rw [if_pos hc] at h11_
      refine z_iconst hX dX10_works_442 qi_0 443 rfl ?_
      exact z_zreturn hX dX10_works_443 (by decide) (zend_i h11_)
    · rw [if_neg hc] at h11_
      refine z_iconst hX dX10_works_438 qi_1 439 rfl ?_
      refine z_goto hX dX10_works_439 443 (by decide) ?_
      exact z_zreturn hX dX10_works_443 (by decide) (zend_i h11_)
def gX10_works_J212 (z2 : Int64) (z4 : Int64) (M : zM) : Option (Int32 × zM) :=
  gX10_works_J407 (z4 * z2) M
set_option maxRecDepth 100000 in
set_option maxHeartbeats 2000000 in
theorem aX10_works_J212 {G : zG} {X : zX} {z2 : Int64} {z4 : Int64} (hX : zC G X cX10_works 8 RX10 (some .boolean) 2)   {M : zM} {res : (Int32 × zM)}  (h : gX10_works_J212 z2 z4 M = some res) : Z G X (zQi res) 212 [some (.ref 98), none, some (.long z2), none, some (.long z4), none, none, none] [] M := by
  unfold gX10_works_J212 at h
  refine z_lload hX dX10_works_212 rfl 214 rfl ?_
  refine z_lload_n hX dX10_works_214 rfl 215 rfl ?_
  refine z_lmul hX dX10_works_215 216 rfl ?_
  refine z_lstore hX dX10_works_216 (by decide) 218 rfl ?_
  refine z_goto hX dX10_works_218 407 (by decide) ?_
  refine z_mask [true, false, false, false, false, false, true, false] ?_
  have hz := aX10_works_J407 hX h
  exact hz
def gX10_works_J250 (y0 : Int32) (M : zM) : Option (Int32 × zM) :=
  zcL (gX10_is y0 M) (fun v14_ => gX10_works_J407 v14_ M)
set_option maxRecDepth 100000 in
set_option maxHeartbeats 2000000 in
theorem aX10_works_J250 {G : zG} {X : zX} {y0 : Int32} (hX : zC G X cX10_works 8 RX10 (some .boolean) 2)   {M : zM} {res : (Int32 × zM)}  (h : gX10_works_J250 y0 M = some res) : Z G X (zQi res) 250 [some (.ref 98), none, none, none, none, none, none, none] [.int y0] M := by
  unfold gX10_works_J250 at h
  obtain ⟨v14_, hq, h15_⟩ := zcL_of h
  refine z_callS hX vX10_is rfl lX10_317 dX10_works_250 (mX10_is  hq) (by decide) rfl rfl (Nat.le_of_ble_eq_true rfl) 253 rfl (Ql.to (fun v' M' hv => ?_))
  obtain ⟨rfl, rfl⟩ := hv
  refine z_lstore hX dX10_works_253 (by decide) 255 rfl ?_
  refine z_goto hX dX10_works_255 407 (by decide) ?_
  refine z_mask [true, false, false, false, false, false, true, false] ?_
  have hz := aX10_works_J407 hX h15_
  exact hz
def gX10_works_J290 (y0 : Int32) (M : zM) : Option (Int32 × zM) :=
  zcL (gX10_is y0 M) (fun v16_ => gX10_works_J407 v16_ M)
set_option maxRecDepth 100000 in
set_option maxHeartbeats 2000000 in
theorem aX10_works_J290 {G : zG} {X : zX} {y0 : Int32} (hX : zC G X cX10_works 8 RX10 (some .boolean) 2)   {M : zM} {res : (Int32 × zM)}  (h : gX10_works_J290 y0 M = some res) : Z G X (zQi res) 290 [some (.ref 98), none, none, none, none, none, none, none] [.int y0] M := by
  unfold gX10_works_J290 at h
  obtain ⟨v16_, hq, h17_⟩ := zcL_of h
  refine z_callS hX vX10_is rfl lX10_317 dX10_works_290 (mX10_is  hq) (by decide) rfl rfl (Nat.le_of_ble_eq_true rfl) 293 rfl (Ql.to (fun v' M' hv => ?_))
  obtain ⟨rfl, rfl⟩ := hv
  refine z_lstore hX dX10_works_293 (by decide) 295 rfl ?_
  refine z_goto hX dX10_works_295 407 (by decide) ?_
  refine z_mask [true, false, false, false, false, false, true, false] ?_
  have hz := aX10_works_J407 hX h17_
  exact hz
def gX10_works_J270 (y0 : Int32) (M : zM) : Option (Int32 × zM) :=
  zcL (gX10_is y0 M) (fun v18_ => gX10_works_J407 v18_ M)
set_option maxRecDepth 100000 in
set_option maxHeartbeats 2000000 in
theorem aX10_works_J270 {G : zG} {X : zX} {y0 : Int32} (hX : zC G X cX10_works 8 RX10 (some .boolean) 2)   {M : zM} {res : (Int32 × zM)}  (h : gX10_works_J270 y0 M = some res) : Z G X (zQi res) 270 [some (.ref 98), none, none, none, none, none, none, none] [.int y0] M := by
  unfold gX10_works_J270 at h
  obtain ⟨v18_, hq, h19_⟩ := zcL_of h
  refine z_callS hX vX10_is rfl lX10_317 dX10_works_270 (mX10_is  hq) (by decide) rfl rfl (Nat.le_of_ble_eq_true rfl) 273 rfl (Ql.to (fun v' M' hv => ?_))
  obtain ⟨rfl, rfl⟩ := hv
  refine z_lstore hX dX10_works_273 (by decide) 275 rfl ?_
  refine z_goto hX dX10_works_275 407 (by decide) ?_
  refine z_mask [true, false, false, false, false, false, true, false] ?_
  have hz := aX10_works_J407 hX h19_
  exact hz
def gX10_works_J310 (y0 : Int32) (M : zM) : Option (Int32 × zM) :=
  zcL (gX10_is y0 M) (fun v20_ => gX10_works_J407 v20_ M)
set_option maxRecDepth 100000 in
set_option maxHeartbeats 2000000 in
theorem aX10_works_J310 {G : zG} {X : zX} {y0 : Int32} (hX : zC G X cX10_works 8 RX10 (some .boolean) 2)   {M : zM} {res : (Int32 × zM)}  (h : gX10_works_J310 y0 M = some res) : Z G X (zQi res) 310 [some (.ref 98), none, none, none, none, none, none, none] [.int y0] M := by
  unfold gX10_works_J310 at h
  obtain ⟨v20_, hq, h21_⟩ := zcL_of h
  refine z_callS hX vX10_is rfl lX10_317 dX10_works_310 (mX10_is  hq) (by decide) rfl rfl (Nat.le_of_ble_eq_true rfl) 313 rfl (Ql.to (fun v' M' hv => ?_))
  obtain ⟨rfl, rfl⟩ := hv
  refine z_lstore hX dX10_works_313 (by decide) 315 rfl ?_
  refine z_goto hX dX10_works_315 407 (by decide) ?_
  refine z_mask [true, false, false, false, false, false, true, false] ?_
  have hz := aX10_works_J407 hX h21_
  exact hz
def gX10_works_J350 (y0 : Int32) (M : zM) : Option (Int32 × zM) :=
  zcL (gX10_is y0 M) (fun v22_ => gX10_works_J407 v22_ M)
set_option maxRecDepth 100000 in
set_option maxHeartbeats 2000000 in
theorem aX10_works_J350 {G : zG} {X : zX} {y0 : Int32} (hX : zC G X cX10_works 8 RX10 (some .boolean) 2)   {M : zM} {res : (Int32 × zM)}  (h : gX10_works_J350 y0 M = some res) : Z G X (zQi res) 350 [some (.ref 98), none, none, none, none, none, none, none] [.int y0] M := by
  unfold gX10_works_J350 at h
  obtain ⟨v22_, hq, h23_⟩ := zcL_of h
  refine z_callS hX vX10_is rfl lX10_317 dX10_works_350 (mX10_is  hq) (by decide) rfl rfl (Nat.le_of_ble_eq_true rfl) 353 rfl (Ql.to (fun v' M' hv => ?_))
  obtain ⟨rfl, rfl⟩ := hv
  refine z_lstore hX dX10_works_353 (by decide) 355 rfl ?_
  refine z_goto hX dX10_works_355 407 (by decide) ?_
  refine z_mask [true, false, false, false, false, false, true, false] ?_
  have hz := aX10_works_J407 hX h23_
  exact hz
def gX10_works_J330 (y0 : Int32) (M : zM) : Option (Int32 × zM) :=
  zcL (gX10_is y0 M) (fun v24_ => gX10_works_J407 v24_ M)
set_option maxRecDepth 100000 in
set_option maxHeartbeats 2000000 in
theorem aX10_works_J330 {G : zG} {X : zX} {y0 : Int32} (hX : zC G X cX10_works 8 RX10 (some .boolean) 2)   {M : zM} {res : (Int32 × zM)}  (h : gX10_works_J330 y0 M = some res) : Z G X (zQi res) 330 [some (.ref 98), none, none, none, none, none, none, none] [.int y0] M := by
  unfold gX10_works_J330 at h
  obtain ⟨v24_, hq, h25_⟩ := zcL_of h
  refine z_callS hX vX10_is rfl lX10_317 dX10_works_330 (mX10_is  hq) (by decide) rfl rfl (Nat.le_of_ble_eq_true rfl) 333 rfl (Ql.to (fun v' M' hv => ?_))
  obtain ⟨rfl, rfl⟩ := hv
  refine z_lstore hX dX10_works_333 (by decide) 335 rfl ?_
  refine z_goto hX dX10_works_335 407 (by decide) ?_
  refine z_mask [true, false, false, false, false, false, true, false] ?_
  have hz := aX10_works_J407 hX h25_
  exact hz
def gX10_works_J376 (y0 : Int32) (M : zM) : Option (Int32 × zM) :=
  zcL (gX10_is y0 M) (fun v26_ => gX10_works_J407 v26_ M)
set_option maxRecDepth 100000 in
set_option maxHeartbeats 2000000 in
theorem aX10_works_J376 {G : zG} {X : zX} {y0 : Int32} (hX : zC G X cX10_works 8 RX10 (some .boolean) 2)   {M : zM} {res : (Int32 × zM)}  (h : gX10_works_J376 y0 M = some res) : Z G X (zQi res) 376 [some (.ref 98), none, none, none, none, none, none, none] [.int y0] M := by
  unfold gX10_works_J376 at h
  obtain ⟨v26_, hq, h27_⟩ := zcL_of h
  refine z_callS hX vX10_is rfl lX10_317 dX10_works_376 (mX10_is  hq) (by decide) rfl rfl (Nat.le_of_ble_eq_true rfl) 379 rfl (Ql.to (fun v' M' hv => ?_))
  obtain ⟨rfl, rfl⟩ := hv
  refine z_lstore hX dX10_works_379 (by decide) 381 rfl ?_
  refine z_goto hX dX10_works_381 407 (by decide) ?_
  refine z_mask [true, false, false, false, false, false, true, false] ?_
  have hz := aX10_works_J407 hX h27_
  exact hz
def gX10_works_J375 (M : zM) : Option (Int32 × zM) :=
  gX10_works_J376 0 M
set_option maxRecDepth 100000 in
set_option maxHeartbeats 2000000 in
theorem aX10_works_J375 {G : zG} {X : zX} (hX : zC G X cX10_works 8 RX10 (some .boolean) 2)   {M : zM} {res : (Int32 × zM)}  (h : gX10_works_J375 M = some res) : Z G X (zQi res) 375 [some (.ref 98), none, none, none, none, none, none, none] [] M := by
  unfold gX10_works_J375 at h
  refine z_iconst hX dX10_works_375 qi_0 376 rfl ?_
  refine z_mask [true, false, false, false, false, false, false, false] ?_
  have hz := aX10_works_J376 hX h
  exact hz
def gX10_works_J402 (y0 : Int32) (M : zM) : Option (Int32 × zM) :=
  zcL (gX10_is y0 M) (fun v28_ => gX10_works_J407 v28_ M)
set_option maxRecDepth 100000 in
set_option maxHeartbeats 2000000 in
theorem aX10_works_J402 {G : zG} {X : zX} {y0 : Int32} (hX : zC G X cX10_works 8 RX10 (some .boolean) 2)   {M : zM} {res : (Int32 × zM)}  (h : gX10_works_J402 y0 M = some res) : Z G X (zQi res) 402 [some (.ref 98), none, none, none, none, none, none, none] [.int y0] M := by
  unfold gX10_works_J402 at h
  obtain ⟨v28_, hq, h29_⟩ := zcL_of h
  refine z_callS hX vX10_is rfl lX10_317 dX10_works_402 (mX10_is  hq) (by decide) rfl rfl (Nat.le_of_ble_eq_true rfl) 405 rfl (Ql.to (fun v' M' hv => ?_))
  obtain ⟨rfl, rfl⟩ := hv
  refine z_lstore hX dX10_works_405 (by decide) 407 rfl ?_
  refine z_mask [true, false, false, false, false, false, true, false] ?_
  have hz := aX10_works_J407 hX h29_
  exact hz
def gX10_works_J397 (M : zM) : Option (Int32 × zM) :=
  gX10_works_J402 1 M
set_option maxRecDepth 100000 in
set_option maxHeartbeats 2000000 in
theorem aX10_works_J397 {G : zG} {X : zX} (hX : zC G X cX10_works 8 RX10 (some .boolean) 2)   {M : zM} {res : (Int32 × zM)}  (h : gX10_works_J397 M = some res) : Z G X (zQi res) 397 [some (.ref 98), none, none, none, none, none, none, none] [] M := by
  unfold gX10_works_J397 at h
  refine z_iconst hX dX10_works_397 qi_1 398 rfl ?_
  refine z_goto hX dX10_works_398 402 (by decide) ?_
  refine z_mask [true, false, false, false, false, false, false, false] ?_
  have hz := aX10_works_J402 hX h
  exact hz
def gX10_works_J40 (y1 : Int32) (y2 : Int32) (M : zM) : Option (Int32 × zM) :=
  zcL (gX10_is y2 M) (fun v30_ => zg (zok y1 64) (zlet (zJ M 117 (y1 : Int32).toNatClampNeg v30_) (fun M33_ => some (1, M33_))))
set_option maxRecDepth 100000 in
set_option maxHeartbeats 2000000 in
theorem aX10_works_J40 {G : zG} {X : zX} {y1 : Int32} {y2 : Int32} (hX : zC G X cX10_works 8 RX10 (some .boolean) 2)   {M : zM} {res : (Int32 × zM)}  (h : gX10_works_J40 y1 y2 M = some res) : Z G X (zQi res) 40 [none, none, none, none, none, none, none, none] [.int y2, .int y1, .ref 117] M := by
  unfold gX10_works_J40 at h
  obtain ⟨v30_, hq, h31_⟩ := zcL_of h
  refine z_callS hX vX10_is rfl lX10_317 dX10_works_40 (mX10_is  hq) (by decide) rfl rfl (Nat.le_of_ble_eq_true rfl) 43 rfl (Ql.to (fun v' M' hv => ?_))
  obtain ⟨rfl, rfl⟩ := hv
  obtain ⟨hb, h32_⟩ := zgd h31_
  refine z_last hX dX10_works_43 zs_117 (zok_in hb) 44 rfl ?_
  refine z_mem h32_ (fun M33_ h34_ => ?_)
  refine z_iconst hX dX10_works_44 qi_1 45 rfl ?_
  exact z_zreturn hX dX10_works_45 (by decide) (zend_i h34_)
def gX10_works (x1 : Int32) (M : zM) : Option (Int32 × zM) :=
  zg (zok ((M.1 98 34) - 1) 64) (zlet ((M.2.1 117 (((M.1 98 34) - 1) : Int32).toNatClampNeg)) (fun z2_ => (if x1 = 260 then (if (lg_cmp z2_ 0) = 0 then gX10_works_J40 ((M.1 98 34) - 1) 1 M
  else gX10_works_J40 ((M.1 98 34) - 1) 0 M)
  else zg (zok ((M.1 98 34) - 2) 64) (zlet ((M.2.1 117 (((M.1 98 34) - 2) : Int32).toNatClampNeg)) (fun z5_ => zlet (zI M 98 34 ((M.1 98 34) - 1)) (fun M7_ => (if x1 = 42 then (if (lg_cmp z5_ 0) = 0 then gX10_works_J212 z2_ z5_ M7_
  else zg (znzL (if 0 < z5_ then z5_ else -z5_)) ((if (lg_cmp (if 0 < z2_ then z2_ else -z2_) (1000000000000 / (if 0 < z5_ then z5_ else -z5_))) ≤ 0 then gX10_works_J212 z2_ z5_ M7_
  else some (0, M7_))))
  else if x1 = 43 then gX10_works_J407 (z5_ + z2_) M7_
  else if x1 = 45 then gX10_works_J407 (z5_ - z2_) M7_
  else if x1 = 47 then (if (lg_cmp z2_ 0) = 0 then some (0, M7_)
  else zg (znzL z2_) (gX10_works_J407 (z5_ / z2_) M7_))
  else if x1 = 60 then (if 0 ≤ (lg_cmp z5_ z2_) then gX10_works_J250 0 M7_
  else gX10_works_J250 1 M7_)
  else if x1 = 61 then (if (lg_cmp z5_ z2_) = 0 then gX10_works_J290 1 M7_
  else gX10_works_J290 0 M7_)
  else if x1 = 62 then (if (lg_cmp z5_ z2_) ≤ 0 then gX10_works_J270 0 M7_
  else gX10_works_J270 1 M7_)
  else if x1 = 256 then (if 0 < (lg_cmp z5_ z2_) then gX10_works_J310 0 M7_
  else gX10_works_J310 1 M7_)
  else if x1 = 257 then (if (lg_cmp z5_ z2_) = 0 then gX10_works_J350 0 M7_
  else gX10_works_J350 1 M7_)
  else if x1 = 258 then (if (lg_cmp z5_ z2_) < 0 then gX10_works_J330 0 M7_
  else gX10_works_J330 1 M7_)
  else if x1 = 261 then (if (lg_cmp z5_ 0) = 0 then gX10_works_J375 M7_
  else (if (lg_cmp z2_ 0) = 0 then gX10_works_J375 M7_
  else gX10_works_J376 1 M7_))
  else (if (lg_cmp z5_ 0) = 0 then (if (lg_cmp z2_ 0) = 0 then gX10_works_J402 0 M7_
  else gX10_works_J397 M7_)
  else gX10_works_J397 M7_))))))))
set_option maxRecDepth 100000 in
set_option maxHeartbeats 2000000 in
theorem mX10_works {G : zG} {x1 : Int32} {M : zM}  {res : (Int32 × zM)} (h : gX10_works x1 M = some res) : Ct G 2 tX10_works [.ref 98, .int x1] M (zQi res) := by
  unfold gX10_works at h
  refine Ct.of (y := yX10_works) rfl plX10 (Nat.le_of_ble_eq_true rfl) (fun X hX => ?_)
  replace hX : zC G X cX10_works 8 RX10 (some .boolean) 2 := hX
  show Z G X _ 0 [some (.ref 98), some (.int x1), none, none, none, none, none, none] [] M
  refine z_aload_n hX dX10_works_0 rfl 1 rfl ?_
  refine z_getF hX fX10_69 dX10_works_1 zs_98 (by decide) rfl 4 rfl ?_
  refine z_aload_n hX dX10_works_4 rfl 5 rfl ?_
  refine z_getI hX fX10_314 dX10_works_5 zs_98 (by decide) rfl 8 rfl ?_
  refine z_iconst hX dX10_works_8 qi_1 9 rfl ?_
  refine z_isub hX dX10_works_9 10 rfl ?_
  obtain ⟨hb, h1_⟩ := zgd h
  refine z_lald hX dX10_works_10 zs_117 (zok_in hb) 11 rfl ?_
  refine z_topl h1_ (fun z2_ h3_ => ?_)
  refine z_lstore_n hX dX10_works_11 (by decide) 12 rfl ?_
  refine z_iload_n hX dX10_works_12 rfl 13 rfl ?_
  refine z_sipush hX dX10_works_13 qs_260 16 rfl ?_
  refine z_icmp_ne hX dX10_works_16 46 19 (by decide) rfl (fun hc => ?_) (fun hc => ?_)
  · rw [if_neg hc] at h3_
    refine z_aload_n hX dX10_works_46 rfl 47 rfl ?_
    refine z_getF hX fX10_69 dX10_works_47 zs_98 (by decide) rfl 50 rfl ?_
    refine z_aload_n hX dX10_works_50 rfl 51 rfl ?_
    refine z_getI hX fX10_314 dX10_works_51 zs_98 (by decide) rfl 54 rfl ?_
    refine z_iconst hX dX10_works_54 qi_2 55 rfl ?_
    refine z_isub hX dX10_works_55 56 rfl ?_
    obtain ⟨hb, h4_⟩ := zgd h3_
    refine z_lald hX dX10_works_56 zs_117 (zok_in hb) 57 rfl ?_
    refine z_topl h4_ (fun z5_ h6_ => ?_)
    refine z_lstore hX dX10_works_57 (by decide) 59 rfl ?_
    refine z_aload_n hX dX10_works_59 rfl 60 rfl ?_
    refine z_dup hX dX10_works_60 rfl 61 rfl ?_
    refine z_getI hX fX10_314 dX10_works_61 zs_98 (by decide) rfl 64 rfl ?_
    refine z_iconst hX dX10_works_64 qi_1 65 rfl ?_
    refine z_isub hX dX10_works_65 66 rfl ?_
    refine z_putI hX pX10_314 dX10_works_66 zs_98 (by decide) rfl 69 rfl ?_
    refine z_mem h6_ (fun M7_ h8_ => ?_)
    refine z_iload_n hX dX10_works_69 rfl 70 rfl ?_
    by_cases hc0 : x1 = 42
    · rw [if_pos hc0] at h8_
      refine z_look hX dX10_works_70 (by decide) (by rw [hc0] <;> rfl) 186 (by decide) ?_
      refine z_lload hX dX10_works_186 rfl 188 rfl ?_
      refine z_lconst hX dX10_works_188 ql_0 189 rfl ?_
      refine z_lcmp hX dX10_works_189 190 rfl ?_
      refine z_if_eq hX dX10_works_190 212 193 (by decide) rfl (fun hc => ?_) (fun hc => ?_)
      · rw [if_pos hc] at h8_
        refine z_mask [true, false, true, false, true, false, false, false] ?_
        have hz := aX10_works_J212 hX h8_
        exact hz
      · rw [if_neg hc] at h8_
        refine z_lload_n hX dX10_works_193 rfl 194 rfl ?_
        refine z_absL hX dX10_works_194 lX10_321 (by decide) (Nat.le_of_ble_eq_true rfl) 197 rfl ?_
        refine z_ldc2 hX dX10_works_197 kX10_327 200 rfl ?_
        refine z_lload hX dX10_works_200 rfl 202 rfl ?_
        refine z_absL hX dX10_works_202 lX10_321 (by decide) (Nat.le_of_ble_eq_true rfl) 205 rfl ?_
        obtain ⟨hb, h12_⟩ := zgd h8_
        refine z_ldiv hX dX10_works_205 (znzL_ne hb) 206 rfl ?_
        refine z_lcmp hX dX10_works_206 207 rfl ?_
        refine z_if_le hX dX10_works_207 212 210 (by decide) rfl (fun hc => ?_) (fun hc => ?_)
        · rw [if_pos hc] at h12_
          refine z_mask [true, false, true, false, true, false, false, false] ?_
          have hz := aX10_works_J212 hX h12_
          exact hz
        · rw [if_neg hc] at h12_
          refine z_iconst hX dX10_works_210 qi_0 211 rfl ?_
          exact z_zreturn hX dX10_works_211 (by decide) (zend_i h12_)
    rw [if_neg hc0] at h8_
    by_cases hc1 : x1 = 43
    · rw [if_pos hc1] at h8_
      refine z_look hX dX10_works_70 (by decide) (by rw [hc1] <;> rfl) 168 (by decide) ?_
      refine z_lload hX dX10_works_168 rfl 170 rfl ?_
      refine z_lload_n hX dX10_works_170 rfl 171 rfl ?_
      refine z_ladd hX dX10_works_171 172 rfl ?_
      refine z_lstore hX dX10_works_172 (by decide) 174 rfl ?_
      refine z_goto hX dX10_works_174 407 (by decide) ?_
      refine z_mask [true, false, false, false, false, false, true, false] ?_
      have hz := aX10_works_J407 hX h8_
      exact hz
    rw [if_neg hc1] at h8_
    by_cases hc2 : x1 = 45
    · rw [if_pos hc2] at h8_
      refine z_look hX dX10_works_70 (by decide) (by rw [hc2] <;> rfl) 177 (by decide) ?_
      refine z_lload hX dX10_works_177 rfl 179 rfl ?_
      refine z_lload_n hX dX10_works_179 rfl 180 rfl ?_
      refine z_lsub hX dX10_works_180 181 rfl ?_
      refine z_lstore hX dX10_works_181 (by decide) 183 rfl ?_
      refine z_goto hX dX10_works_183 407 (by decide) ?_
      refine z_mask [true, false, false, false, false, false, true, false] ?_
      have hz := aX10_works_J407 hX h8_
      exact hz
    rw [if_neg hc2] at h8_
    by_cases hc3 : x1 = 47
    · rw [if_pos hc3] at h8_
      refine z_look hX dX10_works_70 (by decide) (by rw [hc3] <;> rfl) 221 (by decide) ?_
      refine z_lload_n hX dX10_works_221 rfl 222 rfl ?_
      refine z_lconst hX dX10_works_222 ql_0 223 rfl ?_
      refine z_lcmp hX dX10_works_223 224 rfl ?_
      refine z_if_ne hX dX10_works_224 229 227 (by decide) rfl (fun hc => ?_) (fun hc => ?_)
      · rw [if_neg hc] at h8_
        refine z_lload hX dX10_works_229 rfl 231 rfl ?_
        refine z_lload_n hX dX10_works_231 rfl 232 rfl ?_
        obtain ⟨hb, h13_⟩ := zgd h8_
        refine z_ldiv hX dX10_works_232 (znzL_ne hb) 233 rfl ?_
        refine z_lstore hX dX10_works_233 (by decide) 235 rfl ?_
        refine z_goto hX dX10_works_235 407 (by decide) ?_
        refine z_mask [true, false, false, false, false, false, true, false] ?_
        have hz := aX10_works_J407 hX h13_
        exact hz
      · rw [if_pos hc] at h8_
        refine z_iconst hX dX10_works_227 qi_0 228 rfl ?_
        exact z_zreturn hX dX10_works_228 (by decide) (zend_i h8_)
    rw [if_neg hc3] at h8_
    by_cases hc4 : x1 = 60
    · rw [if_pos hc4] at h8_
      refine z_look hX dX10_works_70 (by decide) (by rw [hc4] <;> rfl) 238 (by decide) ?_
      refine z_lload hX dX10_works_238 rfl 240 rfl ?_
      refine z_lload_n hX dX10_works_240 rfl 241 rfl ?_
      refine z_lcmp hX dX10_works_241 242 rfl ?_
      refine z_if_ge hX dX10_works_242 249 245 (by decide) rfl (fun hc => ?_) (fun hc => ?_)
      · rw [if_pos hc] at h8_
        refine z_iconst hX dX10_works_249 qi_0 250 rfl ?_
        refine z_mask [true, false, false, false, false, false, false, false] ?_
        have hz := aX10_works_J250 hX h8_
        exact hz
      · rw [if_neg hc] at h8_
        refine z_iconst hX dX10_works_245 qi_1 246 rfl ?_
        refine z_goto hX dX10_works_246 250 (by decide) ?_
        refine z_mask [true, false, false, false, false, false, false, false] ?_
        have hz := aX10_works_J250 hX h8_
        exact hz
    rw [if_neg hc4] at h8_
    by_cases hc5 : x1 = 61
    · rw [if_pos hc5] at h8_
      refine z_look hX dX10_works_70 (by decide) (by rw [hc5] <;> rfl) 278 (by decide) ?_
      refine z_lload hX dX10_works_278 rfl 280 rfl ?_
      refine z_lload_n hX dX10_works_280 rfl 281 rfl ?_
      refine z_lcmp hX dX10_works_281 282 rfl ?_
      refine z_if_ne hX dX10_works_282 289 285 (by decide) rfl (fun hc => ?_) (fun hc => ?_)
      · rw [if_neg hc] at h8_
        refine z_iconst hX dX10_works_289 qi_0 290 rfl ?_
        refine z_mask [true, false, false, false, false, false, false, false] ?_
        have hz := aX10_works_J290 hX h8_
        exact hz
      · rw [if_pos hc] at h8_
        refine z_iconst hX dX10_works_285 qi_1 286 rfl ?_
        refine z_goto hX dX10_works_286 290 (by decide) ?_
        refine z_mask [true, false, false, false, false, false, false, false] ?_
        have hz := aX10_works_J290 hX h8_
        exact hz
    rw [if_neg hc5] at h8_
    by_cases hc6 : x1 = 62
    · rw [if_pos hc6] at h8_
      refine z_look hX dX10_works_70 (by decide) (by rw [hc6] <;> rfl) 258 (by decide) ?_
      refine z_lload hX dX10_works_258 rfl 260 rfl ?_
      refine z_lload_n hX dX10_works_260 rfl 261 rfl ?_
      refine z_lcmp hX dX10_works_261 262 rfl ?_
      refine z_if_le hX dX10_works_262 269 265 (by decide) rfl (fun hc => ?_) (fun hc => ?_)
      · rw [if_pos hc] at h8_
        refine z_iconst hX dX10_works_269 qi_0 270 rfl ?_
        refine z_mask [true, false, false, false, false, false, false, false] ?_
        have hz := aX10_works_J270 hX h8_
        exact hz
      · rw [if_neg hc] at h8_
        refine z_iconst hX dX10_works_265 qi_1 266 rfl ?_
        refine z_goto hX dX10_works_266 270 (by decide) ?_
        refine z_mask [true, false, false, false, false, false, false, false] ?_
        have hz := aX10_works_J270 hX h8_
        exact hz
    rw [if_neg hc6] at h8_
    by_cases hc7 : x1 = 256
    · rw [if_pos hc7] at h8_
      refine z_look hX dX10_works_70 (by decide) (by rw [hc7] <;> rfl) 298 (by decide) ?_
      refine z_lload hX dX10_works_298 rfl 300 rfl ?_
      refine z_lload_n hX dX10_works_300 rfl 301 rfl ?_
      refine z_lcmp hX dX10_works_301 302 rfl ?_
      refine z_if_gt hX dX10_works_302 309 305 (by decide) rfl (fun hc => ?_) (fun hc => ?_)
      · rw [if_pos hc] at h8_
        refine z_iconst hX dX10_works_309 qi_0 310 rfl ?_
        refine z_mask [true, false, false, false, false, false, false, false] ?_
        have hz := aX10_works_J310 hX h8_
        exact hz
      · rw [if_neg hc] at h8_
        refine z_iconst hX dX10_works_305 qi_1 306 rfl ?_
        refine z_goto hX dX10_works_306 310 (by decide) ?_
        refine z_mask [true, false, false, false, false, false, false, false] ?_
        have hz := aX10_works_J310 hX h8_
        exact hz
    rw [if_neg hc7] at h8_
    by_cases hc8 : x1 = 257
    · rw [if_pos hc8] at h8_
      refine z_look hX dX10_works_70 (by decide) (by rw [hc8] <;> rfl) 338 (by decide) ?_
      refine z_lload hX dX10_works_338 rfl 340 rfl ?_
      refine z_lload_n hX dX10_works_340 rfl 341 rfl ?_
      refine z_lcmp hX dX10_works_341 342 rfl ?_
      refine z_if_eq hX dX10_works_342 349 345 (by decide) rfl (fun hc => ?_) (fun hc => ?_)
      · rw [if_pos hc] at h8_
        refine z_iconst hX dX10_works_349 qi_0 350 rfl ?_
        refine z_mask [true, false, false, false, false, false, false, false] ?_
        have hz := aX10_works_J350 hX h8_
        exact hz
      · rw [if_neg hc] at h8_
        refine z_iconst hX dX10_works_345 qi_1 346 rfl ?_
        refine z_goto hX dX10_works_346 350 (by decide) ?_
        refine z_mask [true, false, false, false, false, false, false, false] ?_
        have hz := aX10_works_J350 hX h8_
        exact hz
    rw [if_neg hc8] at h8_
    by_cases hc9 : x1 = 258
    · rw [if_pos hc9] at h8_
      refine z_look hX dX10_works_70 (by decide) (by rw [hc9] <;> rfl) 318 (by decide) ?_
      refine z_lload hX dX10_works_318 rfl 320 rfl ?_
      refine z_lload_n hX dX10_works_320 rfl 321 rfl ?_
      refine z_lcmp hX dX10_works_321 322 rfl ?_
      refine z_if_lt hX dX10_works_322 329 325 (by decide) rfl (fun hc => ?_) (fun hc => ?_)
      · rw [if_pos hc] at h8_
        refine z_iconst hX dX10_works_329 qi_0 330 rfl ?_
        refine z_mask [true, false, false, false, false, false, false, false] ?_
        have hz := aX10_works_J330 hX h8_
        exact hz
      · rw [if_neg hc] at h8_
        refine z_iconst hX dX10_works_325 qi_1 326 rfl ?_
        refine z_goto hX dX10_works_326 330 (by decide) ?_
        refine z_mask [true, false, false, false, false, false, false, false] ?_
        have hz := aX10_works_J330 hX h8_
        exact hz
    rw [if_neg hc9] at h8_
    by_cases hc10 : x1 = 261
    · rw [if_pos hc10] at h8_
      refine z_look hX dX10_works_70 (by decide) (by rw [hc10] <;> rfl) 358 (by decide) ?_
      refine z_lload hX dX10_works_358 rfl 360 rfl ?_
      refine z_lconst hX dX10_works_360 ql_0 361 rfl ?_
      refine z_lcmp hX dX10_works_361 362 rfl ?_
      refine z_if_eq hX dX10_works_362 375 365 (by decide) rfl (fun hc => ?_) (fun hc => ?_)
      · rw [if_pos hc] at h8_
        refine z_mask [true, false, false, false, false, false, false, false] ?_
        have hz := aX10_works_J375 hX h8_
        exact hz
      · rw [if_neg hc] at h8_
        refine z_lload_n hX dX10_works_365 rfl 366 rfl ?_
        refine z_lconst hX dX10_works_366 ql_0 367 rfl ?_
        refine z_lcmp hX dX10_works_367 368 rfl ?_
        refine z_if_eq hX dX10_works_368 375 371 (by decide) rfl (fun hc => ?_) (fun hc => ?_)
        · rw [if_pos hc] at h8_
          refine z_mask [true, false, false, false, false, false, false, false] ?_
          have hz := aX10_works_J375 hX h8_
          exact hz
        · rw [if_neg hc] at h8_
          refine z_iconst hX dX10_works_371 qi_1 372 rfl ?_
          refine z_goto hX dX10_works_372 376 (by decide) ?_
          refine z_mask [true, false, false, false, false, false, false, false] ?_
          have hz := aX10_works_J376 hX h8_
          exact hz
    rw [if_neg hc10] at h8_
    refine z_look hX dX10_works_70 (by decide) (zlk_out [42, 43, 45, 47, 60, 61, 62, 256, 257, 258, 261] (by decide) (by simp only [List.forall_mem_cons]; exact ⟨hc0, hc1, hc2, hc3, hc4, hc5, hc6, hc7, hc8, hc9, hc10, fun _ h => absurd h List.not_mem_nil⟩)) 384 (by decide) ?_
    refine z_lload hX dX10_works_384 rfl 386 rfl ?_
    refine z_lconst hX dX10_works_386 ql_0 387 rfl ?_
    refine z_lcmp hX dX10_works_387 388 rfl ?_
    refine z_if_ne hX dX10_works_388 397 391 (by decide) rfl (fun hc => ?_) (fun hc => ?_)
    · rw [if_neg hc] at h8_
      refine z_mask [true, false, false, false, false, false, false, false] ?_
      have hz := aX10_works_J397 hX h8_
      exact hz
    · rw [if_pos hc] at h8_
      refine z_lload_n hX dX10_works_391 rfl 392 rfl ?_
      refine z_lconst hX dX10_works_392 ql_0 393 rfl ?_
      refine z_lcmp hX dX10_works_393 394 rfl ?_
      refine z_if_eq hX dX10_works_394 401 397 (by decide) rfl (fun hc => ?_) (fun hc => ?_)
      · rw [if_pos hc] at h8_
        refine z_iconst hX dX10_works_401 qi_0 402 rfl ?_
        refine z_mask [true, false, false, false, false, false, false, false] ?_
        have hz := aX10_works_J402 hX h8_
        exact hz
      · rw [if_neg hc] at h8_
        refine z_mask [true, false, false, false, false, false, false, false] ?_
        have hz := aX10_works_J397 hX h8_
        exact hz
  · rw [if_pos hc] at h3_
    refine z_aload_n hX dX10_works_19 rfl 20 rfl ?_
    refine z_getF hX fX10_69 dX10_works_20 zs_98 (by decide) rfl 23 rfl ?_
    refine z_aload_n hX dX10_works_23 rfl 24 rfl ?_
    refine z_getI hX fX10_314 dX10_works_24 zs_98 (by decide) rfl 27 rfl ?_
    refine z_iconst hX dX10_works_27 qi_1 28 rfl ?_
    refine z_isub hX dX10_works_28 29 rfl ?_
    refine z_lload_n hX dX10_works_29 rfl 30 rfl ?_
    refine z_lconst hX dX10_works_30 ql_0 31 rfl ?_
    refine z_lcmp hX dX10_works_31 32 rfl ?_
    refine z_if_ne hX dX10_works_32 39 35 (by decide) rfl (fun hc => ?_) (fun hc => ?_)
    · rw [if_neg hc] at h3_
      refine z_iconst hX dX10_works_39 qi_0 40 rfl ?_
      refine z_mask [false, false, false, false, false, false, false, false] ?_
      have hz := aX10_works_J40 hX h3_
      exact hz
    · rw [if_pos hc] at h3_
      refine z_iconst hX dX10_works_35 qi_1 36 rfl ?_
      refine z_goto hX dX10_works_36 40 (by decide) ?_
      refine z_mask [false, false, false, false, false, false, false, false] ?_
      have hz := aX10_works_J40 hX h3_
      exact hz
def gX10_comesOut_J85 (x1 : Int32) (x2 : Int32) (y1 : Int32) (y2 : Int64) (rc12 : (Int32 × zM) → Option (Int32 × zM)) (M : zM) : Option (Int32 × zM) :=
  zg (zok y1 64) (zlet (zJ M 117 (y1 : Int32).toNatClampNeg y2) (fun M12_ => zlet (zI M12_ 98 34 ((M12_.1 98 34) + 1)) (fun M14_ => rc12 ((x2 + 1), M14_))))
set_option maxRecDepth 100000 in
set_option maxHeartbeats 2000000 in
theorem aX10_comesOut_J85 {G : zG} {X : zX} {x1 : Int32} {x2 : Int32} {y1 : Int32} {y2 : Int64} (hX : zC G X cX10_comesOut 3 RX10 (some .boolean) 3)  {rc12 : (Int32 × zM) → Option (Int32 × zM)} {M : zM} {res : (Int32 × zM)} (hrc12 : ∀ s : (Int32 × zM), rc12 s = some res → Z G X (zQi res) 12 [some (.ref 98), some (.int x1), some (.int s.1)] [] s.2) (h : gX10_comesOut_J85 x1 x2 y1 y2 rc12 M = some res) : Z G X (zQi res) 85 [some (.ref 98), some (.int x1), some (.int x2)] [.long y2, .int y1, .ref 117] M := by
  unfold gX10_comesOut_J85 at h
  obtain ⟨hb, h11_⟩ := zgd h
  refine z_last hX dX10_comesOut_85 zs_117 (zok_in hb) 86 rfl ?_
  refine z_mem h11_ (fun M12_ h13_ => ?_)
  refine z_aload_n hX dX10_comesOut_86 rfl 87 rfl ?_
  refine z_dup hX dX10_comesOut_87 rfl 88 rfl ?_
  refine z_getI hX fX10_314 dX10_comesOut_88 zs_98 (by decide) rfl 91 rfl ?_
  refine z_iconst hX dX10_comesOut_91 qi_1 92 rfl ?_
  refine z_iadd hX dX10_comesOut_92 93 rfl ?_
  refine z_putI hX pX10_314 dX10_comesOut_93 zs_98 (by decide) rfl 96 rfl ?_
  refine z_mem h13_ (fun M14_ h15_ => ?_)
  refine z_iinc (v := (x2 + 1)) hX dX10_comesOut_96 rfl (by rfl) (by decide) 99 rfl ?_
  refine z_goto hX dX10_comesOut_99 12 (by decide) ?_
  refine z_mask [true, true, true] ?_
  have hz := hrc12 _ h15_
  exact hz
def gX10_comesOut_L12 (x1 : Int32) (rc12 : (Int32 × zM) → Option (Int32 × zM)) (s : (Int32 × zM)) : Option (Int32 × zM) :=
  zg (zok x1 6) ((if (s.2.1 113 (x1 : Int32).toNatClampNeg) ≤ s.1 then some (1, s.2)
  else zg (zok s.1 128) ((if (s.2.1 114 (s.1 : Int32).toNatClampNeg) = 2 then zg (zok s.1 128) (zcIM (gX10_works (s.2.1 115 (s.1 : Int32).toNatClampNeg) s.2) (fun v18_ M19_ => (if v18_ = 0 then some (0, M19_)
  else rc12 ((s.1 + 1), M19_))))
  else zg (zok s.1 128) ((if (s.2.1 114 (s.1 : Int32).toNatClampNeg) = 0 then zg (zok s.1 128) (gX10_comesOut_J85 x1 s.1 (s.2.1 98 34) (((s.2.1 115 (s.1 : Int32).toNatClampNeg) : Int32).toInt64) rc12 s.2)
  else zg (zok s.1 128) (zg (zok (s.2.1 115 (s.1 : Int32).toNatClampNeg) 7) (gX10_comesOut_J85 x1 s.1 (s.2.1 98 34) (s.2.2.1 116 ((s.2.1 115 (s.1 : Int32).toNatClampNeg) : Int32).toNatClampNeg) rc12 s.2))))))))
set_option maxRecDepth 100000 in
set_option maxHeartbeats 2000000 in
theorem aX10_comesOut_L12 {G : zG} {X : zX} {x1 : Int32} (hX : zC G X cX10_comesOut 3 RX10 (some .boolean) 3)    {res : (Int32 × zM)}  : ∀ (N : Nat) (s : (Int32 × zM)), zfix N (gX10_comesOut_L12 x1) s = some res → Z G X (zQi res) 12 [some (.ref 98), some (.int x1), some (.int s.1)] [] s.2 := by
  intro N
  induction N with
  | zero => intro s h; cases h
  | succ N hrc12 =>
    intro s h
    replace h : gX10_comesOut_L12 x1 (zfix N (gX10_comesOut_L12 x1)) s = some res := h
    unfold gX10_comesOut_L12 at h
    refine z_iload_n hX dX10_comesOut_12 rfl 13 rfl ?_
    refine z_aload_n hX dX10_comesOut_13 rfl 14 rfl ?_
    refine z_getF hX fX10_52 dX10_comesOut_14 zs_98 (by decide) rfl 17 rfl ?_
    refine z_iload_n hX dX10_comesOut_17 rfl 18 rfl ?_
    obtain ⟨hb, h6_⟩ := zgd h
    refine z_iald hX dX10_comesOut_18 zs_113 (zok_in hb) 19 rfl ?_
    refine z_icmp_ge hX dX10_comesOut_19 102 22 (by decide) rfl (fun hc => ?_) (fun hc => ?_)
    · rw [if_pos hc] at h6_
      refine z_iconst hX dX10_comesOut_102 qi_1 103 rfl ?_
      exact z_zreturn hX dX10_comesOut_103 (by decide) (zend_i h6_)
    · rw [if_neg hc] at h6_
      refine z_aload_n hX dX10_comesOut_22 rfl 23 rfl ?_
      refine z_getF hX fX10_55 dX10_comesOut_23 zs_98 (by decide) rfl 26 rfl ?_
      refine z_iload_n hX dX10_comesOut_26 rfl 27 rfl ?_
      obtain ⟨hb, h7_⟩ := zgd h6_
      refine z_iald hX dX10_comesOut_27 zs_114 (zok_in hb) 28 rfl ?_
      refine z_iconst hX dX10_comesOut_28 qi_2 29 rfl ?_
      refine z_icmp_ne hX dX10_comesOut_29 47 32 (by decide) rfl (fun hc => ?_) (fun hc => ?_)
      · rw [if_neg hc] at h7_
        refine z_aload_n hX dX10_comesOut_47 rfl 48 rfl ?_
        refine z_getF hX fX10_69 dX10_comesOut_48 zs_98 (by decide) rfl 51 rfl ?_
        refine z_aload_n hX dX10_comesOut_51 rfl 52 rfl ?_
        refine z_getI hX fX10_314 dX10_comesOut_52 zs_98 (by decide) rfl 55 rfl ?_
        refine z_aload_n hX dX10_comesOut_55 rfl 56 rfl ?_
        refine z_getF hX fX10_55 dX10_comesOut_56 zs_98 (by decide) rfl 59 rfl ?_
        refine z_iload_n hX dX10_comesOut_59 rfl 60 rfl ?_
        obtain ⟨hb, h8_⟩ := zgd h7_
        refine z_iald hX dX10_comesOut_60 zs_114 (zok_in hb) 61 rfl ?_
        refine z_if_ne hX dX10_comesOut_61 74 64 (by decide) rfl (fun hc => ?_) (fun hc => ?_)
        · rw [if_neg hc] at h8_
          refine z_aload_n hX dX10_comesOut_74 rfl 75 rfl ?_
          refine z_getF hX fX10_65 dX10_comesOut_75 zs_98 (by decide) rfl 78 rfl ?_
          refine z_aload_n hX dX10_comesOut_78 rfl 79 rfl ?_
          refine z_getF hX fX10_58 dX10_comesOut_79 zs_98 (by decide) rfl 82 rfl ?_
          refine z_iload_n hX dX10_comesOut_82 rfl 83 rfl ?_
          obtain ⟨hb, h9_⟩ := zgd h8_
          refine z_iald hX dX10_comesOut_83 zs_115 (zok_in hb) 84 rfl ?_
          obtain ⟨hb, h10_⟩ := zgd h9_
          refine z_lald hX dX10_comesOut_84 zs_116 (zok_in hb) 85 rfl ?_
          refine z_mask [true, true, true] ?_
          have hz := aX10_comesOut_J85 hX hrc12 h10_
          exact hz
        · rw [if_pos hc] at h8_
          refine z_aload_n hX dX10_comesOut_64 rfl 65 rfl ?_
          refine z_getF hX fX10_58 dX10_comesOut_65 zs_98 (by decide) rfl 68 rfl ?_
          refine z_iload_n hX dX10_comesOut_68 rfl 69 rfl ?_
          obtain ⟨hb, h16_⟩ := zgd h8_
          refine z_iald hX dX10_comesOut_69 zs_115 (zok_in hb) 70 rfl ?_
          refine z_i2l hX dX10_comesOut_70 71 rfl ?_
          refine z_goto hX dX10_comesOut_71 85 (by decide) ?_
          refine z_mask [true, true, true] ?_
          have hz := aX10_comesOut_J85 hX hrc12 h16_
          exact hz
      · rw [if_pos hc] at h7_
        refine z_aload_n hX dX10_comesOut_32 rfl 33 rfl ?_
        refine z_aload_n hX dX10_comesOut_33 rfl 34 rfl ?_
        refine z_getF hX fX10_58 dX10_comesOut_34 zs_98 (by decide) rfl 37 rfl ?_
        refine z_iload_n hX dX10_comesOut_37 rfl 38 rfl ?_
        obtain ⟨hb, h17_⟩ := zgd h7_
        refine z_iald hX dX10_comesOut_38 zs_115 (zok_in hb) 39 rfl ?_
        obtain ⟨v18_, M19_, hq, h20_⟩ := zcIM_of h17_
        refine z_callV hX vX10_works lX10_331 dX10_comesOut_39 zs_98 rfl (mX10_works  hq) (by decide) rfl rfl (Nat.le_of_ble_eq_true rfl) 42 rfl (Qi.to (fun v' M' hv => ?_))
        cases hv
        refine z_if_ne hX dX10_comesOut_42 96 45 (by decide) rfl (fun hc => ?_) (fun hc => ?_)
        · rw [if_neg hc] at h20_
          refine z_iinc (v := (s.1 + 1)) hX dX10_comesOut_96 rfl (by rfl) (by decide) 99 rfl ?_
          refine z_goto hX dX10_comesOut_99 12 (by decide) ?_
          refine z_mask [true, true, true] ?_
          have hz := hrc12 _ h20_
          exact hz
        · rw [if_pos hc] at h20_
          refine z_iconst hX dX10_comesOut_45 qi_0 46 rfl ?_
          exact z_zreturn hX dX10_comesOut_46 (by decide) (zend_i h20_)
def gX10_comesOut (x1 : Int32) (M : zM) : Option (Int32 × zM) :=
  zlet (zI M 98 34 0) (fun M1_ => zg (zok x1 6) (zlet ((M1_.1 112 (x1 : Int32).toNatClampNeg)) (fun x4_ => zfix zFu (gX10_comesOut_L12 x1) (x4_, M1_))))
set_option maxRecDepth 100000 in
set_option maxHeartbeats 2000000 in
theorem mX10_comesOut {G : zG} {x1 : Int32} {M : zM}  {res : (Int32 × zM)} (h : gX10_comesOut x1 M = some res) : Ct G 3 tX10_comesOut [.ref 98, .int x1] M (zQi res) := by
  unfold gX10_comesOut at h
  refine Ct.of (y := yX10_comesOut) rfl plX10 (Nat.le_of_ble_eq_true rfl) (fun X hX => ?_)
  replace hX : zC G X cX10_comesOut 3 RX10 (some .boolean) 3 := hX
  show Z G X _ 0 [some (.ref 98), some (.int x1), none] [] M
  refine z_aload_n hX dX10_comesOut_0 rfl 1 rfl ?_
  refine z_iconst hX dX10_comesOut_1 qi_0 2 rfl ?_
  refine z_putI hX pX10_314 dX10_comesOut_2 zs_98 (by decide) rfl 5 rfl ?_
  refine z_mem h (fun M1_ h2_ => ?_)
  refine z_aload_n hX dX10_comesOut_5 rfl 6 rfl ?_
  refine z_getF hX fX10_49 dX10_comesOut_6 zs_98 (by decide) rfl 9 rfl ?_
  refine z_iload_n hX dX10_comesOut_9 rfl 10 rfl ?_
  obtain ⟨hb, h3_⟩ := zgd h2_
  refine z_iald hX dX10_comesOut_10 zs_112 (zok_in hb) 11 rfl ?_
  refine z_topi h3_ (fun x4_ h5_ => ?_)
  refine z_istore_n hX dX10_comesOut_11 (by decide) 12 rfl ?_
  refine z_mask [true, true, true] ?_
  have hz := aX10_comesOut_L12 hX _ _ h5_
  exact hz
def gX10_firstLeft_L2 (x1 : Int32) (M : zM) (rc2 : Int32 → Option Int32) (s : Int32) : Option Int32 :=
  (if (M.1 100 (1 : Int32).toNatClampNeg) ≤ s then some (-1)
  else zg (zok ((8 * x1) + s) 184) ((if (M.1 130 (((8 * x1) + s) : Int32).toNatClampNeg) = 0 then zcI (gX10_goerOf x1 s M) (fun v2_ => (if v2_ = (-1) then some s
  else rc2 (s + 1)))
  else rc2 (s + 1))))
set_option maxRecDepth 100000 in
set_option maxHeartbeats 2000000 in
theorem aX10_firstLeft_L2 {G : zG} {X : zX} {x1 : Int32} (hX : zC G X cX10_firstLeft 3 RX10 (some .int) 2)   {M : zM} {res : Int32}  : ∀ (N : Nat) (s : Int32), zfix N (gX10_firstLeft_L2 x1 M) s = some res → Z G X (zQip M res) 2 [some (.ref 98), some (.int x1), some (.int s)] [] M := by
  intro N
  induction N with
  | zero => intro s h; cases h
  | succ N hrc2 =>
    intro s h
    replace h : gX10_firstLeft_L2 x1 M (zfix N (gX10_firstLeft_L2 x1 M)) s = some res := h
    unfold gX10_firstLeft_L2 at h
    refine z_iload_n hX dX10_firstLeft_2 rfl 3 rfl ?_
    refine z_aload_n hX dX10_firstLeft_3 rfl 4 rfl ?_
    refine z_getF hX fX10_13 dX10_firstLeft_4 zs_98 (by decide) rfl 7 rfl ?_
    refine z_iconst hX dX10_firstLeft_7 qi_1 8 rfl ?_
    refine z_iald hX dX10_firstLeft_8 zs_100 (zok_in (by decide)) 9 rfl ?_
    refine z_icmp_ge hX dX10_firstLeft_9 44 12 (by decide) rfl (fun hc => ?_) (fun hc => ?_)
    · rw [if_pos hc] at h
      refine z_iconst hX dX10_firstLeft_44 qi_m1 45 rfl ?_
      exact z_ireturn hX dX10_firstLeft_45 (zend_ip h)
    · rw [if_neg hc] at h
      refine z_aload_n hX dX10_firstLeft_12 rfl 13 rfl ?_
      refine z_getF hX fX10_108 dX10_firstLeft_13 zs_98 (by decide) rfl 16 rfl ?_
      refine z_bipush hX dX10_firstLeft_16 qb_8 18 rfl ?_
      refine z_iload_n hX dX10_firstLeft_18 rfl 19 rfl ?_
      refine z_imul hX dX10_firstLeft_19 20 rfl ?_
      refine z_iload_n hX dX10_firstLeft_20 rfl 21 rfl ?_
      refine z_iadd hX dX10_firstLeft_21 22 rfl ?_
      obtain ⟨hb, h1_⟩ := zgd h
      refine z_iald hX dX10_firstLeft_22 zs_130 (zok_in hb) 23 rfl ?_
      refine z_if_ne hX dX10_firstLeft_23 38 26 (by decide) rfl (fun hc => ?_) (fun hc => ?_)
      · rw [if_neg hc] at h1_
        refine z_iinc (v := (s + 1)) hX dX10_firstLeft_38 rfl (by rfl) (by decide) 41 rfl ?_
        refine z_goto hX dX10_firstLeft_41 2 (by decide) ?_
        refine z_mask [true, true, true] ?_
        have hz := hrc2 _ h1_
        exact hz
      · rw [if_pos hc] at h1_
        refine z_aload_n hX dX10_firstLeft_26 rfl 27 rfl ?_
        refine z_iload_n hX dX10_firstLeft_27 rfl 28 rfl ?_
        refine z_iload_n hX dX10_firstLeft_28 rfl 29 rfl ?_
        obtain ⟨v2_, hq, h3_⟩ := zcI_of h1_
        refine z_callV hX vX10_goerOf lX10_337 dX10_firstLeft_29 zs_98 rfl (mX10_goerOf  hq) (by decide) rfl rfl (Nat.le_of_ble_eq_true rfl) 32 rfl (Qi.to (fun v' M' hv => ?_))
        obtain ⟨rfl, rfl⟩ := hv
        refine z_iconst hX dX10_firstLeft_32 qi_m1 33 rfl ?_
        refine z_icmp_ne hX dX10_firstLeft_33 38 36 (by decide) rfl (fun hc => ?_) (fun hc => ?_)
        · rw [if_neg hc] at h3_
          refine z_iinc (v := (s + 1)) hX dX10_firstLeft_38 rfl (by rfl) (by decide) 41 rfl ?_
          refine z_goto hX dX10_firstLeft_41 2 (by decide) ?_
          refine z_mask [true, true, true] ?_
          have hz := hrc2 _ h3_
          exact hz
        · rw [if_pos hc] at h3_
          refine z_iload_n hX dX10_firstLeft_36 rfl 37 rfl ?_
          exact z_ireturn hX dX10_firstLeft_37 (zend_ip h3_)
def gX10_firstLeft (x1 : Int32) (M : zM) : Option Int32 :=
  zfix zFu (gX10_firstLeft_L2 x1 M) 0
set_option maxRecDepth 100000 in
set_option maxHeartbeats 2000000 in
theorem mX10_firstLeft {G : zG} {x1 : Int32} {M : zM}  {res : Int32} (h : gX10_firstLeft x1 M = some res) : Ct G 2 tX10_firstLeft [.ref 98, .int x1] M (zQip M res) := by
  unfold gX10_firstLeft at h
  refine Ct.of (y := yX10_firstLeft) rfl plX10 (Nat.le_of_ble_eq_true rfl) (fun X hX => ?_)
  replace hX : zC G X cX10_firstLeft 3 RX10 (some .int) 2 := hX
  show Z G X _ 0 [some (.ref 98), some (.int x1), none] [] M
  refine z_iconst hX dX10_firstLeft_0 qi_0 1 rfl ?_
  refine z_istore_n hX dX10_firstLeft_1 (by decide) 2 rfl ?_
  refine z_mask [true, true, true] ?_
  have hz := aX10_firstLeft_L2 hX _ _ h
  exact hz
def gX10_law_J55 (x1 : Int32) (y2 : Int32) (y3 : Int32) (M : zM) : Option (Int64 × zM) :=
  zcV (gX10_calls 0 y2 y3 0 M) (fun M8_ => zcIM (gX10_comesOut x1 M8_) (fun v10_ M11_ => (if v10_ = 0 then some ((-9223372036854775808), M11_)
  else some ((M11_.2.1 117 (0 : Int32).toNatClampNeg), M11_))))
set_option maxRecDepth 100000 in
set_option maxHeartbeats 2000000 in
theorem aX10_law_J55 {G : zG} {X : zX} {x1 : Int32} {y2 : Int32} {y3 : Int32} (hX : zC G X cX10_law 3 RX10 (some .long) 4)   {M : zM} {res : (Int64 × zM)}  (h : gX10_law_J55 x1 y2 y3 M = some res) : Z G X (zQl res) 55 [some (.ref 98), some (.int x1), none] [.int y3, .int y2, .int 0, .ref 98] M := by
  unfold gX10_law_J55 at h
  refine z_iconst hX dX10_law_55 qi_0 56 rfl ?_
  obtain ⟨M8_, hq, h9_⟩ := zcV_of h
  refine z_callV hX vX10_calls lX10_340 dX10_law_56 zs_98 rfl (mX10_calls  hq) (by decide) rfl rfl (Nat.le_of_ble_eq_true rfl) 59 rfl (Qv.to (fun M' hv => ?_))
  subst hv
  refine z_aload_n hX dX10_law_59 rfl 60 rfl ?_
  refine z_iload_n hX dX10_law_60 rfl 61 rfl ?_
  obtain ⟨v10_, M11_, hq, h12_⟩ := zcIM_of h9_
  refine z_callV hX vX10_comesOut lX10_347 dX10_law_61 zs_98 rfl (mX10_comesOut  hq) (by decide) rfl rfl (Nat.le_of_ble_eq_true rfl) 64 rfl (Qi.to (fun v' M' hv => ?_))
  cases hv
  refine z_if_eq hX dX10_law_64 76 67 (by decide) rfl (fun hc => ?_) (fun hc => ?_)
  · rw [if_pos hc] at h12_
    refine z_ldc2 hX dX10_law_76 kX10_427 79 rfl ?_
    exact z_lreturn hX dX10_law_79 (zend_l h12_)
  · rw [if_neg hc] at h12_
    refine z_aload_n hX dX10_law_67 rfl 68 rfl ?_
    refine z_getF hX fX10_69 dX10_law_68 zs_98 (by decide) rfl 71 rfl ?_
    refine z_iconst hX dX10_law_71 qi_0 72 rfl ?_
    refine z_lald hX dX10_law_72 zs_117 (zok_in (by decide)) 73 rfl ?_
    refine z_goto hX dX10_law_73 79 (by decide) ?_
    exact z_lreturn hX dX10_law_79 (zend_l h12_)
def gX10_law (x1 : Int32) (x2 : Int32) (M : zM) : Option (Int64 × zM) :=
  zlet (zI M 98 0 0) (fun M1_ => (if x1 < 0 then some ((-9223372036854775808), M1_)
  else (if 2 < x1 then some ((-9223372036854775808), M1_)
  else zcI (gX10_hasLaw x1 M1_) (fun v3_ => (if v3_ = 0 then some ((-9223372036854775808), M1_)
  else zcI (gX10_isMan x2 M1_) (fun v5_ => (if v5_ = 0 then some ((-9223372036854775808), M1_)
  else (if x1 = 0 then zcI (gX10_firstLeft 0 M1_) (fun v13_ => gX10_law_J55 x1 x2 v13_ M1_)
  else zg (zok x2 138) (gX10_law_J55 x1 x2 (M1_.1 126 (x2 : Int32).toNatClampNeg) M1_)))))))))
set_option maxRecDepth 100000 in
set_option maxHeartbeats 2000000 in
theorem mX10_law {G : zG} {x1 : Int32} {x2 : Int32} {M : zM}  {res : (Int64 × zM)} (h : gX10_law x1 x2 M = some res) : Ct G 4 tX10_law [.ref 98, .int x1, .int x2] M (zQl res) := by
  unfold gX10_law at h
  refine Ct.of (y := yX10_law) rfl plX10 (Nat.le_of_ble_eq_true rfl) (fun X hX => ?_)
  replace hX : zC G X cX10_law 3 RX10 (some .long) 4 := hX
  show Z G X _ 0 [some (.ref 98), some (.int x1), some (.int x2)] [] M
  refine z_aload_n hX dX10_law_0 rfl 1 rfl ?_
  refine z_iconst hX dX10_law_1 qi_0 2 rfl ?_
  refine z_putI hX pX10_154 dX10_law_2 zs_98 (by decide) rfl 5 rfl ?_
  refine z_mem h (fun M1_ h2_ => ?_)
  refine z_iload_n hX dX10_law_5 rfl 6 rfl ?_
  refine z_if_lt hX dX10_law_6 30 9 (by decide) rfl (fun hc => ?_) (fun hc => ?_)
  · rw [if_pos hc] at h2_
    refine z_ldc2 hX dX10_law_30 kX10_427 33 rfl ?_
    exact z_lreturn hX dX10_law_33 (zend_l h2_)
  · rw [if_neg hc] at h2_
    refine z_iload_n hX dX10_law_9 rfl 10 rfl ?_
    refine z_iconst hX dX10_law_10 qi_2 11 rfl ?_
    refine z_icmp_gt hX dX10_law_11 30 14 (by decide) rfl (fun hc => ?_) (fun hc => ?_)
    · rw [if_pos hc] at h2_
      refine z_ldc2 hX dX10_law_30 kX10_427 33 rfl ?_
      exact z_lreturn hX dX10_law_33 (zend_l h2_)
    · rw [if_neg hc] at h2_
      refine z_aload_n hX dX10_law_14 rfl 15 rfl ?_
      refine z_iload_n hX dX10_law_15 rfl 16 rfl ?_
      obtain ⟨v3_, hq, h4_⟩ := zcI_of h2_
      refine z_callV hX vX10_hasLaw lX10_344 dX10_law_16 zs_98 rfl (mX10_hasLaw  hq) (by decide) rfl rfl (Nat.le_of_ble_eq_true rfl) 19 rfl (Qi.to (fun v' M' hv => ?_))
      obtain ⟨rfl, rfl⟩ := hv
      refine z_if_eq hX dX10_law_19 30 22 (by decide) rfl (fun hc => ?_) (fun hc => ?_)
      · rw [if_pos hc] at h4_
        refine z_ldc2 hX dX10_law_30 kX10_427 33 rfl ?_
        exact z_lreturn hX dX10_law_33 (zend_l h4_)
      · rw [if_neg hc] at h4_
        refine z_aload_n hX dX10_law_22 rfl 23 rfl ?_
        refine z_iload_n hX dX10_law_23 rfl 24 rfl ?_
        obtain ⟨v5_, hq, h6_⟩ := zcI_of h4_
        refine z_callV hX vX10_isMan lX10_413 dX10_law_24 zs_98 rfl (mX10_isMan  hq) (by decide) rfl rfl (Nat.le_of_ble_eq_true rfl) 27 rfl (Qi.to (fun v' M' hv => ?_))
        obtain ⟨rfl, rfl⟩ := hv
        refine z_if_ne hX dX10_law_27 34 30 (by decide) rfl (fun hc => ?_) (fun hc => ?_)
        · rw [if_neg hc] at h6_
          refine z_aload_n hX dX10_law_34 rfl 35 rfl ?_
          refine z_iconst hX dX10_law_35 qi_0 36 rfl ?_
          refine z_iload_n hX dX10_law_36 rfl 37 rfl ?_
          refine z_iload_n hX dX10_law_37 rfl 38 rfl ?_
          refine z_if_ne hX dX10_law_38 49 41 (by decide) rfl (fun hc => ?_) (fun hc => ?_)
          · rw [if_neg hc] at h6_
            refine z_aload_n hX dX10_law_49 rfl 50 rfl ?_
            refine z_getF hX fX10_96 dX10_law_50 zs_98 (by decide) rfl 53 rfl ?_
            refine z_iload_n hX dX10_law_53 rfl 54 rfl ?_
            obtain ⟨hb, h7_⟩ := zgd h6_
            refine z_iald hX dX10_law_54 zs_126 (zok_in hb) 55 rfl ?_
            refine z_mask [true, true, false] ?_
            have hz := aX10_law_J55 hX h7_
            exact hz
          · rw [if_pos hc] at h6_
            refine z_aload_n hX dX10_law_41 rfl 42 rfl ?_
            refine z_iconst hX dX10_law_42 qi_0 43 rfl ?_
            obtain ⟨v13_, hq, h14_⟩ := zcI_of h6_
            refine z_callV hX vX10_firstLeft lX10_357 dX10_law_43 zs_98 rfl (mX10_firstLeft  hq) (by decide) rfl rfl (Nat.le_of_ble_eq_true rfl) 46 rfl (Qi.to (fun v' M' hv => ?_))
            obtain ⟨rfl, rfl⟩ := hv
            refine z_goto hX dX10_law_46 55 (by decide) ?_
            refine z_mask [true, true, false] ?_
            have hz := aX10_law_J55 hX h14_
            exact hz
        · rw [if_pos hc] at h6_
          refine z_ldc2 hX dX10_law_30 kX10_427 33 rfl ?_
          exact z_lreturn hX dX10_law_33 (zend_l h6_)
