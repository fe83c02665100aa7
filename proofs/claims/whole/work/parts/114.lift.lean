def gX10_premium (x1 : Int32) (M : zM) : Option (Int32 × zM) :=
  zlet (zI M 98 0 0) (fun M1_ => zcI (gX10_isMan x1 M1_) (fun v3_ => (if v3_ = 0 then some ((-1), M1_)
  else zcIM (gX10_premiumOf x1 M1_) (fun v5_ M6_ => some (v5_, M6_)))))
set_option maxRecDepth 100000 in
set_option maxHeartbeats 2000000 in
theorem mX10_premium {G : zG} {x1 : Int32} {M : zM}  {res : (Int32 × zM)} (h : gX10_premium x1 M = some res) : Ct G 6 tX10_premium [.ref 98, .int x1] M (zQi res) := by
  unfold gX10_premium at h
  refine Ct.of (y := yX10_premium) rfl plX10 (Nat.le_of_ble_eq_true rfl) (fun X hX => ?_)
  replace hX : zC G X cX10_premium 2 RX10 (some .int) 6 := hX
  show Z G X _ 0 [some (.ref 98), some (.int x1)] [] M
  refine z_aload_n hX dX10_premium_0 rfl 1 rfl ?_
  refine z_iconst hX dX10_premium_1 qi_0 2 rfl ?_
  refine z_putI hX pX10_154 dX10_premium_2 zs_98 (by decide) rfl 5 rfl ?_
  refine z_mem h (fun M1_ h2_ => ?_)
  refine z_aload_n hX dX10_premium_5 rfl 6 rfl ?_
  refine z_iload_n hX dX10_premium_6 rfl 7 rfl ?_
  obtain ⟨v3_, hq, h4_⟩ := zcI_of h2_
  refine z_callV hX vX10_isMan lX10_413 dX10_premium_7 zs_98 rfl (mX10_isMan  hq) (by decide) rfl rfl (Nat.le_of_ble_eq_true rfl) 10 rfl (Qi.to (fun v' M' hv => ?_))
  obtain ⟨rfl, rfl⟩ := hv
  refine z_if_eq hX dX10_premium_10 21 13 (by decide) rfl (fun hc => ?_) (fun hc => ?_)
  · rw [if_pos hc] at h4_
    refine z_iconst hX dX10_premium_21 qi_m1 22 rfl ?_
    exact z_ireturn hX dX10_premium_22 (zend_i h4_)
  · rw [if_neg hc] at h4_
    refine z_aload_n hX dX10_premium_13 rfl 14 rfl ?_
    refine z_iload_n hX dX10_premium_14 rfl 15 rfl ?_
    obtain ⟨v5_, M6_, hq, h7_⟩ := zcIM_of h4_
    refine z_callV hX vX10_premiumOf lX10_441 dX10_premium_15 zs_98 rfl (mX10_premiumOf  hq) (by decide) rfl rfl (Nat.le_of_ble_eq_true rfl) 18 rfl (Qi.to (fun v' M' hv => ?_))
    cases hv
    refine z_goto hX dX10_premium_18 22 (by decide) ?_
    exact z_ireturn hX dX10_premium_22 (zend_i h7_)
def gX10_cover_J156 (x1 : Int32) (x2 : Int32) (x3 : Int32) (M : zM) : Option (Int32 × zM) :=
  (if x1 ≤ x2 then some (x3, M)
  else some ((-2), M))
set_option maxRecDepth 100000 in
set_option maxHeartbeats 2000000 in
theorem aX10_cover_J156 {G : zG} {X : zX} {x1 : Int32} {x2 : Int32} {x3 : Int32} (hX : zC G X cX10_cover 6 RX10 (some .int) 6)   {M : zM} {res : (Int32 × zM)}  (h : gX10_cover_J156 x1 x2 x3 M = some res) : Z G X (zQi res) 156 [none, some (.int x1), some (.int x2), some (.int x3), none, none] [] M := by
  unfold gX10_cover_J156 at h
  refine z_iload_n hX dX10_cover_156 rfl 157 rfl ?_
  refine z_iload_n hX dX10_cover_157 rfl 158 rfl ?_
  refine z_icmp_ge hX dX10_cover_158 166 161 (by decide) rfl (fun hc => ?_) (fun hc => ?_)
  · rw [if_pos hc] at h
    refine z_iload_n hX dX10_cover_166 rfl 167 rfl ?_
    exact z_ireturn hX dX10_cover_167 (zend_i h)
  · rw [if_neg hc] at h
    refine z_bipush hX dX10_cover_161 qb_m2 163 rfl ?_
    refine z_goto hX dX10_cover_163 167 (by decide) ?_
    exact z_ireturn hX dX10_cover_167 (zend_i h)
def gX10_cover_L128 (x1 : Int32) (x2 : Int32) (M : zM) (rc128 : (Int32 × Int32) → Option (Int32 × zM)) (s : (Int32 × Int32)) : Option (Int32 × zM) :=
  (if x1 ≤ s.2 then gX10_cover_J156 x1 x2 s.1 M
  else (if x2 ≤ s.2 then gX10_cover_J156 x1 x2 s.1 M
  else zg (zok s.2 6) (zlet ((s.1 + (M.1 132 (s.2 : Int32).toNatClampNeg))) (fun x4_ => rc128 (x4_, (s.2 + 1))))))
set_option maxRecDepth 100000 in
set_option maxHeartbeats 2000000 in
theorem aX10_cover_L128 {G : zG} {X : zX} {x1 : Int32} {x2 : Int32} (hX : zC G X cX10_cover 6 RX10 (some .int) 6)   {M : zM} {res : (Int32 × zM)}  : ∀ (N : Nat) (s : (Int32 × Int32)), zfix N (gX10_cover_L128 x1 x2 M) s = some res → Z G X (zQi res) 128 [some (.ref 98), some (.int x1), some (.int x2), some (.int s.1), some (.int s.2), none] [] M := by
  intro N
  induction N with
  | zero => intro s h; cases h
  | succ N hrc128 =>
    intro s h
    replace h : gX10_cover_L128 x1 x2 M (zfix N (gX10_cover_L128 x1 x2 M)) s = some res := h
    unfold gX10_cover_L128 at h
    refine z_iload hX dX10_cover_128 rfl 130 rfl ?_
    refine z_iload_n hX dX10_cover_130 rfl 131 rfl ?_
    refine z_icmp_ge hX dX10_cover_131 156 134 (by decide) rfl (fun hc => ?_) (fun hc => ?_)
    · rw [if_pos hc] at h
      refine z_mask [false, true, true, true, false, false] ?_
      have hz := aX10_cover_J156 hX h
      exact hz
    · rw [if_neg hc] at h
      refine z_iload hX dX10_cover_134 rfl 136 rfl ?_
      refine z_iload_n hX dX10_cover_136 rfl 137 rfl ?_
      refine z_icmp_ge hX dX10_cover_137 156 140 (by decide) rfl (fun hc => ?_) (fun hc => ?_)
      · rw [if_pos hc] at h
        refine z_mask [false, true, true, true, false, false] ?_
        have hz := aX10_cover_J156 hX h
        exact hz
      · rw [if_neg hc] at h
        refine z_iload_n hX dX10_cover_140 rfl 141 rfl ?_
        refine z_aload_n hX dX10_cover_141 rfl 142 rfl ?_
        refine z_getF hX fX10_117 dX10_cover_142 zs_98 (by decide) rfl 145 rfl ?_
        refine z_iload hX dX10_cover_145 rfl 147 rfl ?_
        obtain ⟨hb, h3_⟩ := zgd h
        refine z_iald hX dX10_cover_147 zs_132 (zok_in hb) 148 rfl ?_
        refine z_iadd hX dX10_cover_148 149 rfl ?_
        refine z_topi h3_ (fun x4_ h5_ => ?_)
        refine z_istore_n hX dX10_cover_149 (by decide) 150 rfl ?_
        refine z_iinc (v := (s.2 + 1)) hX dX10_cover_150 rfl (by rfl) (by decide) 153 rfl ?_
        refine z_goto hX dX10_cover_153 128 (by decide) ?_
        refine z_mask [true, true, true, true, true, false] ?_
        have hz := hrc128 _ h5_
        exact hz
def gX10_cover_J105 (x1 : Int32) (x2 : Int32) (x3 : Int32) (x4 : Int32) (x5 : Int32) (rc21 : (Int32 × Int32 × zM) → Option (Int32 × zM)) (M : zM) : Option (Int32 × zM) :=
  zg (zok x5 6) (zlet (zI M 132 (x5 : Int32).toNatClampNeg x4) (fun M11_ => rc21 ((x2 + 1), (x3 + 1), M11_)))
set_option maxRecDepth 100000 in
set_option maxHeartbeats 2000000 in
theorem aX10_cover_J105 {G : zG} {X : zX} {x1 : Int32} {x2 : Int32} {x3 : Int32} {x4 : Int32} {x5 : Int32} (hX : zC G X cX10_cover 6 RX10 (some .int) 6)  {rc21 : (Int32 × Int32 × zM) → Option (Int32 × zM)} {M : zM} {res : (Int32 × zM)} (hrc21 : ∀ s : (Int32 × Int32 × zM), rc21 s = some res → Z G X (zQi res) 21 [some (.ref 98), some (.int x1), some (.int s.1), some (.int s.2.1), none, none] [] s.2.2) (h : gX10_cover_J105 x1 x2 x3 x4 x5 rc21 M = some res) : Z G X (zQi res) 105 [some (.ref 98), some (.int x1), some (.int x2), some (.int x3), some (.int x4), some (.int x5)] [] M := by
  unfold gX10_cover_J105 at h
  refine z_aload_n hX dX10_cover_105 rfl 106 rfl ?_
  refine z_getF hX fX10_117 dX10_cover_106 zs_98 (by decide) rfl 109 rfl ?_
  refine z_iload hX dX10_cover_109 rfl 111 rfl ?_
  refine z_iload hX dX10_cover_111 rfl 113 rfl ?_
  obtain ⟨hb, h10_⟩ := zgd h
  refine z_iast hX dX10_cover_113 zs_132 (zok_in hb) 114 rfl ?_
  refine z_mem h10_ (fun M11_ h12_ => ?_)
  refine z_iinc (v := (x2 + 1)) hX dX10_cover_114 rfl (by rfl) (by decide) 117 rfl ?_
  refine z_iinc (v := (x3 + 1)) hX dX10_cover_117 rfl (by rfl) (by decide) 120 rfl ?_
  refine z_goto hX dX10_cover_120 21 (by decide) ?_
  refine z_mask [true, true, true, true, false, false] ?_
  have hz := hrc21 _ h12_
  exact hz
def gX10_cover_L64 (x1 : Int32) (x2 : Int32) (x3 : Int32) (x4 : Int32) (rc21 : (Int32 × Int32 × zM) → Option (Int32 × zM)) (rc64 : (Int32 × zM) → Option (Int32 × zM)) (s : (Int32 × zM)) : Option (Int32 × zM) :=
  (if s.1 ≤ 0 then gX10_cover_J105 x1 x2 x3 x4 s.1 rc21 s.2
  else zg (zok (s.1 - 1) 6) ((if (s.2.1 132 ((s.1 - 1) : Int32).toNatClampNeg) ≤ x4 then gX10_cover_J105 x1 x2 x3 x4 s.1 rc21 s.2
  else zg (zok (s.1 - 1) 6) (zg (zok s.1 6) (zlet (zI s.2 132 (s.1 : Int32).toNatClampNeg (s.2.1 132 ((s.1 - 1) : Int32).toNatClampNeg)) (fun M16_ => rc64 ((s.1 + (-1)), M16_)))))))
set_option maxRecDepth 100000 in
set_option maxHeartbeats 2000000 in
theorem aX10_cover_L64 {G : zG} {X : zX} {x1 : Int32} {x2 : Int32} {x3 : Int32} {x4 : Int32} (hX : zC G X cX10_cover 6 RX10 (some .int) 6)  {rc21 : (Int32 × Int32 × zM) → Option (Int32 × zM)}  {res : (Int32 × zM)} (hrc21 : ∀ s : (Int32 × Int32 × zM), rc21 s = some res → Z G X (zQi res) 21 [some (.ref 98), some (.int x1), some (.int s.1), some (.int s.2.1), none, none] [] s.2.2) : ∀ (N : Nat) (s : (Int32 × zM)), zfix N (gX10_cover_L64 x1 x2 x3 x4 rc21) s = some res → Z G X (zQi res) 64 [some (.ref 98), some (.int x1), some (.int x2), some (.int x3), some (.int x4), some (.int s.1)] [] s.2 := by
  intro N
  induction N with
  | zero => intro s h; cases h
  | succ N hrc64 =>
    intro s h
    replace h : gX10_cover_L64 x1 x2 x3 x4 rc21 (zfix N (gX10_cover_L64 x1 x2 x3 x4 rc21)) s = some res := h
    unfold gX10_cover_L64 at h
    refine z_iload hX dX10_cover_64 rfl 66 rfl ?_
    refine z_if_le hX dX10_cover_66 105 69 (by decide) rfl (fun hc => ?_) (fun hc => ?_)
    · rw [if_pos hc] at h
      refine z_mask [true, true, true, true, true, true] ?_
      have hz := aX10_cover_J105 hX hrc21 h
      exact hz
    · rw [if_neg hc] at h
      refine z_aload_n hX dX10_cover_69 rfl 70 rfl ?_
      refine z_getF hX fX10_117 dX10_cover_70 zs_98 (by decide) rfl 73 rfl ?_
      refine z_iload hX dX10_cover_73 rfl 75 rfl ?_
      refine z_iconst hX dX10_cover_75 qi_1 76 rfl ?_
      refine z_isub hX dX10_cover_76 77 rfl ?_
      obtain ⟨hb, h13_⟩ := zgd h
      refine z_iald hX dX10_cover_77 zs_132 (zok_in hb) 78 rfl ?_
      refine z_iload hX dX10_cover_78 rfl 80 rfl ?_
      refine z_icmp_le hX dX10_cover_80 105 83 (by decide) rfl (fun hc => ?_) (fun hc => ?_)
      · rw [if_pos hc] at h13_
        refine z_mask [true, true, true, true, true, true] ?_
        have hz := aX10_cover_J105 hX hrc21 h13_
        exact hz
      · rw [if_neg hc] at h13_
        refine z_aload_n hX dX10_cover_83 rfl 84 rfl ?_
        refine z_getF hX fX10_117 dX10_cover_84 zs_98 (by decide) rfl 87 rfl ?_
        refine z_iload hX dX10_cover_87 rfl 89 rfl ?_
        refine z_aload_n hX dX10_cover_89 rfl 90 rfl ?_
        refine z_getF hX fX10_117 dX10_cover_90 zs_98 (by decide) rfl 93 rfl ?_
        refine z_iload hX dX10_cover_93 rfl 95 rfl ?_
        refine z_iconst hX dX10_cover_95 qi_1 96 rfl ?_
        refine z_isub hX dX10_cover_96 97 rfl ?_
        obtain ⟨hb, h14_⟩ := zgd h13_
        refine z_iald hX dX10_cover_97 zs_132 (zok_in hb) 98 rfl ?_
        obtain ⟨hb, h15_⟩ := zgd h14_
        refine z_iast hX dX10_cover_98 zs_132 (zok_in hb) 99 rfl ?_
        refine z_mem h15_ (fun M16_ h17_ => ?_)
        refine z_iinc (v := (s.1 + (-1))) hX dX10_cover_99 rfl (by rfl) (by decide) 102 rfl ?_
        refine z_goto hX dX10_cover_102 64 (by decide) ?_
        refine z_mask [true, true, true, true, true, true] ?_
        have hz := hrc64 _ h17_
        exact hz
def gX10_cover_J51 (x1 : Int32) (x2 : Int32) (x3 : Int32) (y0 : Int32) (rc21 : (Int32 × Int32 × zM) → Option (Int32 × zM)) (M : zM) : Option (Int32 × zM) :=
  (if 0 ≤ y0 then zfix zFu (gX10_cover_L64 x1 x2 x3 y0 rc21) (x2, M)
  else rc21 (x2, (x3 + 1), M))
set_option maxRecDepth 100000 in
set_option maxHeartbeats 2000000 in
theorem aX10_cover_J51 {G : zG} {X : zX} {x1 : Int32} {x2 : Int32} {x3 : Int32} {y0 : Int32} (hX : zC G X cX10_cover 6 RX10 (some .int) 6)  {rc21 : (Int32 × Int32 × zM) → Option (Int32 × zM)} {M : zM} {res : (Int32 × zM)} (hrc21 : ∀ s : (Int32 × Int32 × zM), rc21 s = some res → Z G X (zQi res) 21 [some (.ref 98), some (.int x1), some (.int s.1), some (.int s.2.1), none, none] [] s.2.2) (h : gX10_cover_J51 x1 x2 x3 y0 rc21 M = some res) : Z G X (zQi res) 51 [some (.ref 98), some (.int x1), some (.int x2), some (.int x3), none, none] [.int y0] M := by
  unfold gX10_cover_J51 at h
  refine z_istore hX dX10_cover_51 (by decide) 53 rfl ?_
  refine z_iload hX dX10_cover_53 rfl 55 rfl ?_
  refine z_if_ge hX dX10_cover_55 61 58 (by decide) rfl (fun hc => ?_) (fun hc => ?_)
  · rw [if_pos hc] at h
    refine z_iload_n hX dX10_cover_61 rfl 62 rfl ?_
    refine z_istore hX dX10_cover_62 (by decide) 64 rfl ?_
    refine z_mask [true, true, true, true, true, true] ?_
    have hz := aX10_cover_L64 hX hrc21 _ _ h
    exact hz
  · rw [if_neg hc] at h
    refine z_goto hX dX10_cover_58 117 (by decide) ?_
    refine z_iinc (v := (x3 + 1)) hX dX10_cover_117 rfl (by rfl) (by decide) 120 rfl ?_
    refine z_goto hX dX10_cover_120 21 (by decide) ?_
    refine z_mask [true, true, true, true, false, false] ?_
    have hz := hrc21 _ h
    exact hz
def gX10_cover_L21 (x1 : Int32) (rc21 : (Int32 × Int32 × zM) → Option (Int32 × zM)) (s : (Int32 × Int32 × zM)) : Option (Int32 × zM) :=
  (if (s.2.2.1 100 (0 : Int32).toNatClampNeg) ≤ s.2.1 then zfix zFu (gX10_cover_L128 x1 s.1 s.2.2) (0, 0)
  else zg (zok s.2.1 138) ((if (s.2.2.1 128 (s.2.1 : Int32).toNatClampNeg) = 1 then gX10_cover_J51 x1 s.1 s.2.1 (-2) rc21 s.2.2
  else zcIM (gX10_premiumOf s.2.1 s.2.2) (fun v7_ M8_ => gX10_cover_J51 x1 s.1 s.2.1 v7_ rc21 M8_))))
set_option maxRecDepth 100000 in
set_option maxHeartbeats 2000000 in
theorem aX10_cover_L21 {G : zG} {X : zX} {x1 : Int32} (hX : zC G X cX10_cover 6 RX10 (some .int) 6)    {res : (Int32 × zM)}  : ∀ (N : Nat) (s : (Int32 × Int32 × zM)), zfix N (gX10_cover_L21 x1) s = some res → Z G X (zQi res) 21 [some (.ref 98), some (.int x1), some (.int s.1), some (.int s.2.1), none, none] [] s.2.2 := by
  intro N
  induction N with
  | zero => intro s h; cases h
  | succ N hrc21 =>
    intro s h
    replace h : gX10_cover_L21 x1 (zfix N (gX10_cover_L21 x1)) s = some res := h
    unfold gX10_cover_L21 at h
    refine z_iload_n hX dX10_cover_21 rfl 22 rfl ?_
    refine z_aload_n hX dX10_cover_22 rfl 23 rfl ?_
    refine z_getF hX fX10_13 dX10_cover_23 zs_98 (by decide) rfl 26 rfl ?_
    refine z_iconst hX dX10_cover_26 qi_0 27 rfl ?_
    refine z_iald hX dX10_cover_27 zs_100 (zok_in (by decide)) 28 rfl ?_
    refine z_icmp_ge hX dX10_cover_28 123 31 (by decide) rfl (fun hc => ?_) (fun hc => ?_)
    · rw [if_pos hc] at h
      refine z_iconst hX dX10_cover_123 qi_0 124 rfl ?_
      refine z_istore_n hX dX10_cover_124 (by decide) 125 rfl ?_
      refine z_iconst hX dX10_cover_125 qi_0 126 rfl ?_
      refine z_istore hX dX10_cover_126 (by decide) 128 rfl ?_
      refine z_mask [true, true, true, true, true, false] ?_
      have hz := aX10_cover_L128 hX _ _ h
      exact hz
    · rw [if_neg hc] at h
      refine z_aload_n hX dX10_cover_31 rfl 32 rfl ?_
      refine z_getF hX fX10_102 dX10_cover_32 zs_98 (by decide) rfl 35 rfl ?_
      refine z_iload_n hX dX10_cover_35 rfl 36 rfl ?_
      obtain ⟨hb, h6_⟩ := zgd h
      refine z_iald hX dX10_cover_36 zs_128 (zok_in hb) 37 rfl ?_
      refine z_iconst hX dX10_cover_37 qi_1 38 rfl ?_
      refine z_icmp_ne hX dX10_cover_38 46 41 (by decide) rfl (fun hc => ?_) (fun hc => ?_)
      · rw [if_neg hc] at h6_
        refine z_aload_n hX dX10_cover_46 rfl 47 rfl ?_
        refine z_iload_n hX dX10_cover_47 rfl 48 rfl ?_
        obtain ⟨v7_, M8_, hq, h9_⟩ := zcIM_of h6_
        refine z_callV hX vX10_premiumOf lX10_441 dX10_cover_48 zs_98 rfl (mX10_premiumOf  hq) (by decide) rfl rfl (Nat.le_of_ble_eq_true rfl) 51 rfl (Qi.to (fun v' M' hv => ?_))
        cases hv
        refine z_mask [true, true, true, true, false, false] ?_
        have hz := aX10_cover_J51 hX hrc21 h9_
        exact hz
      · rw [if_pos hc] at h6_
        refine z_bipush hX dX10_cover_41 qb_m2 43 rfl ?_
        refine z_goto hX dX10_cover_43 51 (by decide) ?_
        refine z_mask [true, true, true, true, false, false] ?_
        have hz := aX10_cover_J51 hX hrc21 h6_
        exact hz
def gX10_cover (x1 : Int32) (M : zM) : Option (Int32 × zM) :=
  zlet (zI M 98 0 0) (fun M1_ => (if x1 < 0 then some ((-1), M1_)
  else (if x1 ≤ 6 then zfix zFu (gX10_cover_L21 x1) (0, 0, M1_)
  else some ((-1), M1_))))
set_option maxRecDepth 100000 in
set_option maxHeartbeats 2000000 in
theorem mX10_cover {G : zG} {x1 : Int32} {M : zM}  {res : (Int32 × zM)} (h : gX10_cover x1 M = some res) : Ct G 6 tX10_cover [.ref 98, .int x1] M (zQi res) := by
  unfold gX10_cover at h
  refine Ct.of (y := yX10_cover) rfl plX10 (Nat.le_of_ble_eq_true rfl) (fun X hX => ?_)
  replace hX : zC G X cX10_cover 6 RX10 (some .int) 6 := hX
  show Z G X _ 0 [some (.ref 98), some (.int x1), none, none, none, none] [] M
  refine z_aload_n hX dX10_cover_0 rfl 1 rfl ?_
  refine z_iconst hX dX10_cover_1 qi_0 2 rfl ?_
  refine z_putI hX pX10_154 dX10_cover_2 zs_98 (by decide) rfl 5 rfl ?_
  refine z_mem h (fun M1_ h2_ => ?_)
  refine z_iload_n hX dX10_cover_5 rfl 6 rfl ?_
  refine z_if_lt hX dX10_cover_6 15 9 (by decide) rfl (fun hc => ?_) (fun hc => ?_)
  · rw [if_pos hc] at h2_
    refine z_iconst hX dX10_cover_15 qi_m1 16 rfl ?_
    exact z_ireturn hX dX10_cover_16 (zend_i h2_)
  · rw [if_neg hc] at h2_
    refine z_iload_n hX dX10_cover_9 rfl 10 rfl ?_
    refine z_bipush hX dX10_cover_10 qb_6 12 rfl ?_
    refine z_icmp_le hX dX10_cover_12 17 15 (by decide) rfl (fun hc => ?_) (fun hc => ?_)
    · rw [if_pos hc] at h2_
      refine z_iconst hX dX10_cover_17 qi_0 18 rfl ?_
      refine z_istore_n hX dX10_cover_18 (by decide) 19 rfl ?_
      refine z_iconst hX dX10_cover_19 qi_0 20 rfl ?_
      refine z_istore_n hX dX10_cover_20 (by decide) 21 rfl ?_
      refine z_mask [true, true, true, true, false, false] ?_
      have hz := aX10_cover_L21 hX _ _ h2_
      exact hz
    · rw [if_neg hc] at h2_
      refine z_iconst hX dX10_cover_15 qi_m1 16 rfl ?_
      exact z_ireturn hX dX10_cover_16 (zend_i h2_)
def gX10_matches_L74 (F : Int32 → Int32 → Int32 → zM → Option zM) (x1 : Int32) (x2 : Int32) (x3 : Int32) (rc74 : (Int32 × zM) → Option zM) (s : (Int32 × zM)) : Option zM :=
  (if (s.2.1 100 (1 : Int32).toNatClampNeg) ≤ s.1 then some s.2
  else zg (zok x1 138) ((if (s.2.1 125 (x1 : Int32).toNatClampNeg) = 2 then some s.2
  else (if (((x2 : Int32) >>> ((s.1 : Int32) &&& 31)) &&& 1) = 1 then rc74 ((s.1 + 1), s.2)
  else zg (zok s.1 184) ((if (s.2.1 130 (s.1 : Int32).toNatClampNeg) = 0 then zg (zok s.1 16) (zg (zok x1 12) ((if (s.2.1 107 (s.1 : Int32).toNatClampNeg) ≤ (s.2.1 104 (x1 : Int32).toNatClampNeg) then zg (zok x1 6) (zlet (zI s.2 133 (x1 : Int32).toNatClampNeg s.1) (fun M11_ => zg (zok s.1 16) (zcV (F (x1 + 1) (x2 ||| ((1 : Int32) <<< ((s.1 : Int32) &&& 31))) (x3 + (M11_.1 106 (s.1 : Int32).toNatClampNeg)) M11_) (fun M14_ => rc74 ((s.1 + 1), M14_)))))
  else rc74 ((s.1 + 1), s.2))))
  else rc74 ((s.1 + 1), s.2)))))))
set_option maxRecDepth 100000 in
set_option maxHeartbeats 2000000 in
theorem aX10_matches_L74 {G : zG} {X : zX} {k : Nat} {F : Int32 → Int32 → Int32 → zM → Option zM} {x1 : Int32} {x2 : Int32} {x3 : Int32} (hX : zC G X cX10_matches 5 RX10 none (1 + (k + 1))) (hF0 : ∀ (x1 : Int32) (x2 : Int32) (x3 : Int32) (M res : zM), F x1 x2 x3 M = some res → Ct G (1 + k) tX10_matches [.ref 98, .int x1, .int x2, .int x3] M (zQv res))   {res : zM}  : ∀ (N : Nat) (s : (Int32 × zM)), zfix N (gX10_matches_L74 F x1 x2 x3) s = some res → Z G X (zQv res) 74 [some (.ref 98), some (.int x1), some (.int x2), some (.int x3), some (.int s.1)] [] s.2 := by
  intro N
  induction N with
  | zero => intro s h; cases h
  | succ N hrc74 =>
    intro s h
    replace h : gX10_matches_L74 F x1 x2 x3 (zfix N (gX10_matches_L74 F x1 x2 x3)) s = some res := h
    unfold gX10_matches_L74 at h
    refine z_iload hX dX10_matches_74 rfl 76 rfl ?_
    refine z_aload_n hX dX10_matches_76 rfl 77 rfl ?_
    refine z_getF hX fX10_13 dX10_matches_77 zs_98 (by decide) rfl 80 rfl ?_
    refine z_iconst hX dX10_matches_80 qi_1 81 rfl ?_
    refine z_iald hX dX10_matches_81 zs_100 (zok_in (by decide)) 82 rfl ?_
    refine z_icmp_ge hX dX10_matches_82 170 85 (by decide) rfl (fun hc => ?_) (fun hc => ?_)
    · rw [if_pos hc] at h
      exact z_return hX dX10_matches_170 (zend_v h)
    · rw [if_neg hc] at h
      refine z_aload_n hX dX10_matches_85 rfl 86 rfl ?_
      refine z_getF hX fX10_93 dX10_matches_86 zs_98 (by decide) rfl 89 rfl ?_
      refine z_iload_n hX dX10_matches_89 rfl 90 rfl ?_
      obtain ⟨hb, h6_⟩ := zgd h
      refine z_iald hX dX10_matches_90 zs_125 (zok_in hb) 91 rfl ?_
      refine z_iconst hX dX10_matches_91 qi_2 92 rfl ?_
      refine z_icmp_eq hX dX10_matches_92 170 95 (by decide) rfl (fun hc => ?_) (fun hc => ?_)
      · rw [if_pos hc] at h6_
        exact z_return hX dX10_matches_170 (zend_v h6_)
      · rw [if_neg hc] at h6_
        refine z_iload_n hX dX10_matches_95 rfl 96 rfl ?_
        refine z_iload hX dX10_matches_96 rfl 98 rfl ?_
        refine z_ishr hX dX10_matches_98 99 rfl ?_
        refine z_iconst hX dX10_matches_99 qi_1 100 rfl ?_
        refine z_iand hX dX10_matches_100 101 rfl ?_
        refine z_iconst hX dX10_matches_101 qi_1 102 rfl ?_
        refine z_icmp_eq hX dX10_matches_102 164 105 (by decide) rfl (fun hc => ?_) (fun hc => ?_)
        · rw [if_pos hc] at h6_
          refine z_iinc (v := (s.1 + 1)) hX dX10_matches_164 rfl (by rfl) (by decide) 167 rfl ?_
          refine z_goto hX dX10_matches_167 74 (by decide) ?_
          refine z_mask [true, true, true, true, true] ?_
          have hz := hrc74 _ h6_
          exact hz
        · rw [if_neg hc] at h6_
          refine z_aload_n hX dX10_matches_105 rfl 106 rfl ?_
          refine z_getF hX fX10_108 dX10_matches_106 zs_98 (by decide) rfl 109 rfl ?_
          refine z_iload hX dX10_matches_109 rfl 111 rfl ?_
          obtain ⟨hb, h7_⟩ := zgd h6_
          refine z_iald hX dX10_matches_111 zs_130 (zok_in hb) 112 rfl ?_
          refine z_if_ne hX dX10_matches_112 164 115 (by decide) rfl (fun hc => ?_) (fun hc => ?_)
          · rw [if_neg hc] at h7_
            refine z_iinc (v := (s.1 + 1)) hX dX10_matches_164 rfl (by rfl) (by decide) 167 rfl ?_
            refine z_goto hX dX10_matches_167 74 (by decide) ?_
            refine z_mask [true, true, true, true, true] ?_
            have hz := hrc74 _ h7_
            exact hz
          · rw [if_pos hc] at h7_
            refine z_aload_n hX dX10_matches_115 rfl 116 rfl ?_
            refine z_getF hX fX10_34 dX10_matches_116 zs_98 (by decide) rfl 119 rfl ?_
            refine z_iload hX dX10_matches_119 rfl 121 rfl ?_
            obtain ⟨hb, h8_⟩ := zgd h7_
            refine z_iald hX dX10_matches_121 zs_107 (zok_in hb) 122 rfl ?_
            refine z_aload_n hX dX10_matches_122 rfl 123 rfl ?_
            refine z_getF hX fX10_25 dX10_matches_123 zs_98 (by decide) rfl 126 rfl ?_
            refine z_iload_n hX dX10_matches_126 rfl 127 rfl ?_
            obtain ⟨hb, h9_⟩ := zgd h8_
            refine z_iald hX dX10_matches_127 zs_104 (zok_in hb) 128 rfl ?_
            refine z_icmp_le hX dX10_matches_128 134 131 (by decide) rfl (fun hc => ?_) (fun hc => ?_)
            · rw [if_pos hc] at h9_
              refine z_aload_n hX dX10_matches_134 rfl 135 rfl ?_
              refine z_getF hX fX10_120 dX10_matches_135 zs_98 (by decide) rfl 138 rfl ?_
              refine z_iload_n hX dX10_matches_138 rfl 139 rfl ?_
              refine z_iload hX dX10_matches_139 rfl 141 rfl ?_
              obtain ⟨hb, h10_⟩ := zgd h9_
              refine z_iast hX dX10_matches_141 zs_133 (zok_in hb) 142 rfl ?_
              refine z_mem h10_ (fun M11_ h12_ => ?_)
              refine z_aload_n hX dX10_matches_142 rfl 143 rfl ?_
              refine z_iload_n hX dX10_matches_143 rfl 144 rfl ?_
              refine z_iconst hX dX10_matches_144 qi_1 145 rfl ?_
              refine z_iadd hX dX10_matches_145 146 rfl ?_
              refine z_iload_n hX dX10_matches_146 rfl 147 rfl ?_
              refine z_iconst hX dX10_matches_147 qi_1 148 rfl ?_
              refine z_iload hX dX10_matches_148 rfl 150 rfl ?_
              refine z_ishl hX dX10_matches_150 151 rfl ?_
              refine z_ior hX dX10_matches_151 152 rfl ?_
              refine z_iload_n hX dX10_matches_152 rfl 153 rfl ?_
              refine z_aload_n hX dX10_matches_153 rfl 154 rfl ?_
              refine z_getF hX fX10_31 dX10_matches_154 zs_98 (by decide) rfl 157 rfl ?_
              refine z_iload hX dX10_matches_157 rfl 159 rfl ?_
              obtain ⟨hb, h13_⟩ := zgd h12_
              refine z_iald hX dX10_matches_159 zs_106 (zok_in hb) 160 rfl ?_
              refine z_iadd hX dX10_matches_160 161 rfl ?_
              obtain ⟨M14_, hq, h15_⟩ := zcV_of h13_
              refine z_callV hX vX10_matches lX10_447 dX10_matches_161 zs_98 rfl (hF0 _ _ _ _ _ hq) (by omega) rfl rfl (Nat.le_of_ble_eq_true rfl) 164 rfl (Qv.to (fun M' hv => ?_))
              subst hv
              refine z_iinc (v := (s.1 + 1)) hX dX10_matches_164 rfl (by rfl) (by decide) 167 rfl ?_
              refine z_goto hX dX10_matches_167 74 (by decide) ?_
              refine z_mask [true, true, true, true, true] ?_
              have hz := hrc74 _ h15_
              exact hz
            · rw [if_neg hc] at h9_
              refine z_goto hX dX10_matches_131 164 (by decide) ?_
              refine z_iinc (v := (s.1 + 1)) hX dX10_matches_164 rfl (by rfl) (by decide) 167 rfl ?_
              refine z_goto hX dX10_matches_167 74 (by decide) ?_
              refine z_mask [true, true, true, true, true] ?_
              have hz := hrc74 _ h9_
              exact hz
def gX10_matches_L27 (F : Int32 → Int32 → Int32 → zM → Option zM) (x1 : Int32) (rc27 : (Int32 × zM) → Option zM) (s : (Int32 × zM)) : Option zM :=
  (if x1 ≤ s.1 then some s.2
  else zg (zok s.1 6) (zg (zok s.1 6) (zlet (zI s.2 134 (s.1 : Int32).toNatClampNeg (s.2.1 133 (s.1 : Int32).toNatClampNeg)) (fun M20_ => rc27 ((s.1 + 1), M20_)))))
set_option maxRecDepth 100000 in
set_option maxHeartbeats 2000000 in
theorem aX10_matches_L27 {G : zG} {X : zX} {k : Nat} {F : Int32 → Int32 → Int32 → zM → Option zM} {x1 : Int32} (hX : zC G X cX10_matches 5 RX10 none (1 + (k + 1))) (hF0 : ∀ (x1 : Int32) (x2 : Int32) (x3 : Int32) (M res : zM), F x1 x2 x3 M = some res → Ct G (1 + k) tX10_matches [.ref 98, .int x1, .int x2, .int x3] M (zQv res))   {res : zM}  : ∀ (N : Nat) (s : (Int32 × zM)), zfix N (gX10_matches_L27 F x1) s = some res → Z G X (zQv res) 27 [some (.ref 98), some (.int x1), none, none, some (.int s.1)] [] s.2 := by
  intro N
  induction N with
  | zero => intro s h; cases h
  | succ N hrc27 =>
    intro s h
    replace h : gX10_matches_L27 F x1 (zfix N (gX10_matches_L27 F x1)) s = some res := h
    unfold gX10_matches_L27 at h
    refine z_iload hX dX10_matches_27 rfl 29 rfl ?_
    refine z_iload_n hX dX10_matches_29 rfl 30 rfl ?_
    refine z_icmp_ge hX dX10_matches_30 53 33 (by decide) rfl (fun hc => ?_) (fun hc => ?_)
    · rw [if_pos hc] at h
      exact z_return hX dX10_matches_53 (zend_v h)
    · rw [if_neg hc] at h
      refine z_aload_n hX dX10_matches_33 rfl 34 rfl ?_
      refine z_getF hX fX10_123 dX10_matches_34 zs_98 (by decide) rfl 37 rfl ?_
      refine z_iload hX dX10_matches_37 rfl 39 rfl ?_
      refine z_aload_n hX dX10_matches_39 rfl 40 rfl ?_
      refine z_getF hX fX10_120 dX10_matches_40 zs_98 (by decide) rfl 43 rfl ?_
      refine z_iload hX dX10_matches_43 rfl 45 rfl ?_
      obtain ⟨hb, h18_⟩ := zgd h
      refine z_iald hX dX10_matches_45 zs_133 (zok_in hb) 46 rfl ?_
      obtain ⟨hb, h19_⟩ := zgd h18_
      refine z_iast hX dX10_matches_46 zs_134 (zok_in hb) 47 rfl ?_
      refine z_mem h19_ (fun M20_ h21_ => ?_)
      refine z_iinc (v := (s.1 + 1)) hX dX10_matches_47 rfl (by rfl) (by decide) 50 rfl ?_
      refine z_goto hX dX10_matches_50 27 (by decide) ?_
      refine z_mask [true, true, false, false, true] ?_
      have hz := hrc27 _ h21_
      exact hz
def bX10_matches (F : Int32 → Int32 → Int32 → zM → Option zM) (x1 : Int32) (x2 : Int32) (x3 : Int32) (M : zM) : Option zM :=
  (if x1 = (M.1 100 (0 : Int32).toNatClampNeg) then (if (M.1 98 57) < x3 then zlet (zI M 98 57 x3) (fun M16_ => zfix zFu (gX10_matches_L27 F x1) (0, M16_))
  else some M)
  else zg (zok x1 6) (zlet (zI M 133 (x1 : Int32).toNatClampNeg (-2)) (fun M2_ => zcV (F (x1 + 1) x2 x3 M2_) (fun M4_ => zfix zFu (gX10_matches_L74 F x1 x2 x3) (0, M4_)))))
set_option maxRecDepth 100000 in
set_option maxHeartbeats 2000000 in
theorem nX10_matches {G : zG} {k : Nat} {F : Int32 → Int32 → Int32 → zM → Option zM} {x1 : Int32} {x2 : Int32} {x3 : Int32} {M : zM} (hF0 : ∀ (x1 : Int32) (x2 : Int32) (x3 : Int32) (M res : zM), F x1 x2 x3 M = some res → Ct G (1 + k) tX10_matches [.ref 98, .int x1, .int x2, .int x3] M (zQv res)) {res : zM} (h : bX10_matches F x1 x2 x3 M = some res) : Ct G (1 + (k + 1)) tX10_matches [.ref 98, .int x1, .int x2, .int x3] M (zQv res) := by
  unfold bX10_matches at h
  refine Ct.of (y := yX10_matches) rfl plX10 (Nat.le_of_ble_eq_true rfl) (fun X hX => ?_)
  replace hX : zC G X cX10_matches 5 RX10 none (1 + (k + 1)) := hX
  show Z G X _ 0 [some (.ref 98), some (.int x1), some (.int x2), some (.int x3), none] [] M
  refine z_iload_n hX dX10_matches_0 rfl 1 rfl ?_
  refine z_aload_n hX dX10_matches_1 rfl 2 rfl ?_
  refine z_getF hX fX10_13 dX10_matches_2 zs_98 (by decide) rfl 5 rfl ?_
  refine z_iconst hX dX10_matches_5 qi_0 6 rfl ?_
  refine z_iald hX dX10_matches_6 zs_100 (zok_in (by decide)) 7 rfl ?_
  refine z_icmp_ne hX dX10_matches_7 54 10 (by decide) rfl (fun hc => ?_) (fun hc => ?_)
  · rw [if_neg hc] at h
    refine z_aload_n hX dX10_matches_54 rfl 55 rfl ?_
    refine z_getF hX fX10_120 dX10_matches_55 zs_98 (by decide) rfl 58 rfl ?_
    refine z_iload_n hX dX10_matches_58 rfl 59 rfl ?_
    refine z_bipush hX dX10_matches_59 qb_m2 61 rfl ?_
    obtain ⟨hb, h1_⟩ := zgd h
    refine z_iast hX dX10_matches_61 zs_133 (zok_in hb) 62 rfl ?_
    refine z_mem h1_ (fun M2_ h3_ => ?_)
    refine z_aload_n hX dX10_matches_62 rfl 63 rfl ?_
    refine z_iload_n hX dX10_matches_63 rfl 64 rfl ?_
    refine z_iconst hX dX10_matches_64 qi_1 65 rfl ?_
    refine z_iadd hX dX10_matches_65 66 rfl ?_
    refine z_iload_n hX dX10_matches_66 rfl 67 rfl ?_
    refine z_iload_n hX dX10_matches_67 rfl 68 rfl ?_
    obtain ⟨M4_, hq, h5_⟩ := zcV_of h3_
    refine z_callV hX vX10_matches lX10_447 dX10_matches_68 zs_98 rfl (hF0 _ _ _ _ _ hq) (by omega) rfl rfl (Nat.le_of_ble_eq_true rfl) 71 rfl (Qv.to (fun M' hv => ?_))
    subst hv
    refine z_iconst hX dX10_matches_71 qi_0 72 rfl ?_
    refine z_istore hX dX10_matches_72 (by decide) 74 rfl ?_
    refine z_mask [true, true, true, true, true] ?_
    have hz := aX10_matches_L74 hX hF0 _ _ h5_
    exact hz
  · rw [if_pos hc] at h
    refine z_iload_n hX dX10_matches_10 rfl 11 rfl ?_
    refine z_aload_n hX dX10_matches_11 rfl 12 rfl ?_
    refine z_getI hX fX10_444 dX10_matches_12 zs_98 (by decide) rfl 15 rfl ?_
    refine z_icmp_gt hX dX10_matches_15 19 18 (by decide) rfl (fun hc => ?_) (fun hc => ?_)
    · rw [if_pos hc] at h
      refine z_aload_n hX dX10_matches_19 rfl 20 rfl ?_
      refine z_iload_n hX dX10_matches_20 rfl 21 rfl ?_
      refine z_putI hX pX10_444 dX10_matches_21 zs_98 (by decide) rfl 24 rfl ?_
      refine z_mem h (fun M16_ h17_ => ?_)
      refine z_iconst hX dX10_matches_24 qi_0 25 rfl ?_
      refine z_istore hX dX10_matches_25 (by decide) 27 rfl ?_
      refine z_mask [true, true, false, false, true] ?_
      have hz := aX10_matches_L27 hX hF0 _ _ h17_
      exact hz
    · rw [if_neg hc] at h
      exact z_return hX dX10_matches_18 (zend_v h)
def gGA : Nat → Int32 → Int32 → Int32 → zM → Option zM
  | 0, _, _, _, _ => none
  | k + 1, x1, x2, x3, M => bX10_matches (gGA k) x1 x2 x3 M
set_option maxRecDepth 100000 in
set_option maxHeartbeats 2000000 in
theorem mGA {G : zG} : ∀ k : Nat, (∀ (x1 : Int32) (x2 : Int32) (x3 : Int32) (M res : zM), gGA k x1 x2 x3 M = some res → Ct G (1 + k) tX10_matches [.ref 98, .int x1, .int x2, .int x3] M (zQv res)) := by
  intro k
  induction k with
  | zero =>
    exact fun _ _ _ _ _ h => (by cases h)
  | succ k ih =>
    exact fun _ _ _ _ _ h => nX10_matches ih h
theorem mX10_matches {G : zG} (k : Nat) : ∀ (x1 : Int32) (x2 : Int32) (x3 : Int32) (M res : zM), gGA k x1 x2 x3 M = some res → Ct G (1 + k) tX10_matches [.ref 98, .int x1, .int x2, .int x3] M (zQv res) := (mGA k)
def gX10_match (x1 : Int32) (M : zM) : Option (Int32 × zM) :=
  zlet (zI M 98 0 0) (fun M1_ => (if x1 < 0 then some ((-1), M1_)
  else (if x1 ≤ 6 then zlet (zI M1_ 98 57 (-1)) (fun M3_ => zcV (gGA 8 0 0 0 M3_) (fun M5_ => (if x1 = 6 then some ((M5_.1 98 57), M5_)
  else (if (M5_.1 100 (0 : Int32).toNatClampNeg) ≤ x1 then some ((-2), M5_)
  else zg (zok x1 6) (some ((M5_.1 134 (x1 : Int32).toNatClampNeg), M5_))))))
  else some ((-1), M1_))))
set_option maxRecDepth 100000 in
set_option maxHeartbeats 2000000 in
theorem mX10_match {G : zG} {x1 : Int32} {M : zM}  {res : (Int32 × zM)} (h : gX10_match x1 M = some res) : Ct G 10 tX10_match [.ref 98, .int x1] M (zQi res) := by
  unfold gX10_match at h
  refine Ct.of (y := yX10_match) rfl plX10 (Nat.le_of_ble_eq_true rfl) (fun X hX => ?_)
  replace hX : zC G X cX10_match 2 RX10 (some .int) 10 := hX
  show Z G X _ 0 [some (.ref 98), some (.int x1)] [] M
  refine z_aload_n hX dX10_match_0 rfl 1 rfl ?_
  refine z_iconst hX dX10_match_1 qi_0 2 rfl ?_
  refine z_putI hX pX10_154 dX10_match_2 zs_98 (by decide) rfl 5 rfl ?_
  refine z_mem h (fun M1_ h2_ => ?_)
  refine z_iload_n hX dX10_match_5 rfl 6 rfl ?_
  refine z_if_lt hX dX10_match_6 15 9 (by decide) rfl (fun hc => ?_) (fun hc => ?_)
  · rw [if_pos hc] at h2_
    refine z_iconst hX dX10_match_15 qi_m1 16 rfl ?_
    exact z_ireturn hX dX10_match_16 (zend_i h2_)
  · rw [if_neg hc] at h2_
    refine z_iload_n hX dX10_match_9 rfl 10 rfl ?_
    refine z_bipush hX dX10_match_10 qb_6 12 rfl ?_
    refine z_icmp_le hX dX10_match_12 17 15 (by decide) rfl (fun hc => ?_) (fun hc => ?_)
    · rw [if_pos hc] at h2_
      refine z_aload_n hX dX10_match_17 rfl 18 rfl ?_
      refine z_iconst hX dX10_match_18 qi_m1 19 rfl ?_
      refine z_putI hX pX10_444 dX10_match_19 zs_98 (by decide) rfl 22 rfl ?_
      refine z_mem h2_ (fun M3_ h4_ => ?_)
      refine z_aload_n hX dX10_match_22 rfl 23 rfl ?_
      refine z_iconst hX dX10_match_23 qi_0 24 rfl ?_
      refine z_iconst hX dX10_match_24 qi_0 25 rfl ?_
      refine z_iconst hX dX10_match_25 qi_0 26 rfl ?_
      obtain ⟨M5_, hq, h6_⟩ := zcV_of h4_
      refine z_callV hX vX10_matches lX10_447 dX10_match_26 zs_98 rfl (mX10_matches 8 _ _ _ _ _ hq) (by decide) rfl rfl (Nat.le_of_ble_eq_true rfl) 29 rfl (Qv.to (fun M' hv => ?_))
      subst hv
      refine z_iload_n hX dX10_match_29 rfl 30 rfl ?_
      refine z_bipush hX dX10_match_30 qb_6 32 rfl ?_
      refine z_icmp_ne hX dX10_match_32 42 35 (by decide) rfl (fun hc => ?_) (fun hc => ?_)
      · rw [if_neg hc] at h6_
        refine z_iload_n hX dX10_match_42 rfl 43 rfl ?_
        refine z_aload_n hX dX10_match_43 rfl 44 rfl ?_
        refine z_getF hX fX10_13 dX10_match_44 zs_98 (by decide) rfl 47 rfl ?_
        refine z_iconst hX dX10_match_47 qi_0 48 rfl ?_
        refine z_iald hX dX10_match_48 zs_100 (zok_in (by decide)) 49 rfl ?_
        refine z_icmp_ge hX dX10_match_49 61 52 (by decide) rfl (fun hc => ?_) (fun hc => ?_)
        · rw [if_pos hc] at h6_
          refine z_bipush hX dX10_match_61 qb_m2 63 rfl ?_
          exact z_ireturn hX dX10_match_63 (zend_i h6_)
        · rw [if_neg hc] at h6_
          refine z_aload_n hX dX10_match_52 rfl 53 rfl ?_
          refine z_getF hX fX10_123 dX10_match_53 zs_98 (by decide) rfl 56 rfl ?_
          refine z_iload_n hX dX10_match_56 rfl 57 rfl ?_
          obtain ⟨hb, h7_⟩ := zgd h6_
          refine z_iald hX dX10_match_57 zs_134 (zok_in hb) 58 rfl ?_
          refine z_goto hX dX10_match_58 63 (by decide) ?_
          exact z_ireturn hX dX10_match_63 (zend_i h7_)
      · rw [if_pos hc] at h6_
        refine z_aload_n hX dX10_match_35 rfl 36 rfl ?_
        refine z_getI hX fX10_444 dX10_match_36 zs_98 (by decide) rfl 39 rfl ?_
        refine z_goto hX dX10_match_39 63 (by decide) ?_
        exact z_ireturn hX dX10_match_63 (zend_i h6_)
    · rw [if_neg hc] at h2_
      refine z_iconst hX dX10_match_15 qi_m1 16 rfl ?_
      exact z_ireturn hX dX10_match_16 (zend_i h2_)
def gX10_savedWorth_L4 (x1 : Int32) (M : zM) (rc4 : (Int32 × Int32) → Option Int32) (s : (Int32 × Int32)) : Option Int32 :=
  (if (M.1 100 (1 : Int32).toNatClampNeg) ≤ s.2 then some s.1
  else zg (zok ((8 * x1) + s.2) 184) ((if (M.1 130 (((8 * x1) + s.2) : Int32).toNatClampNeg) = 2 then zg (zok s.2 16) (zlet ((s.1 + (M.1 106 (s.2 : Int32).toNatClampNeg))) (fun x3_ => rc4 (x3_, (s.2 + 1))))
  else rc4 ((s.1 + 0), (s.2 + 1)))))
set_option maxRecDepth 100000 in
set_option maxHeartbeats 2000000 in
theorem aX10_savedWorth_L4 {G : zG} {X : zX} {x1 : Int32} (hX : zC G X cX10_savedWorth 4 RX10 (some .int) 1)   {M : zM} {res : Int32}  : ∀ (N : Nat) (s : (Int32 × Int32)), zfix N (gX10_savedWorth_L4 x1 M) s = some res → Z G X (zQip M res) 4 [some (.ref 98), some (.int x1), some (.int s.1), some (.int s.2)] [] M := by
  intro N
  induction N with
  | zero => intro s h; cases h
  | succ N hrc4 =>
    intro s h
    replace h : gX10_savedWorth_L4 x1 M (zfix N (gX10_savedWorth_L4 x1 M)) s = some res := h
    unfold gX10_savedWorth_L4 at h
    refine z_iload_n hX dX10_savedWorth_4 rfl 5 rfl ?_
    refine z_aload_n hX dX10_savedWorth_5 rfl 6 rfl ?_
    refine z_getF hX fX10_13 dX10_savedWorth_6 zs_98 (by decide) rfl 9 rfl ?_
    refine z_iconst hX dX10_savedWorth_9 qi_1 10 rfl ?_
    refine z_iald hX dX10_savedWorth_10 zs_100 (zok_in (by decide)) 11 rfl ?_
    refine z_icmp_ge hX dX10_savedWorth_11 48 14 (by decide) rfl (fun hc => ?_) (fun hc => ?_)
    · rw [if_pos hc] at h
      refine z_iload_n hX dX10_savedWorth_48 rfl 49 rfl ?_
      exact z_ireturn hX dX10_savedWorth_49 (zend_ip h)
    · rw [if_neg hc] at h
      refine z_iload_n hX dX10_savedWorth_14 rfl 15 rfl ?_
      refine z_aload_n hX dX10_savedWorth_15 rfl 16 rfl ?_
      refine z_getF hX fX10_108 dX10_savedWorth_16 zs_98 (by decide) rfl 19 rfl ?_
      refine z_bipush hX dX10_savedWorth_19 qb_8 21 rfl ?_
      refine z_iload_n hX dX10_savedWorth_21 rfl 22 rfl ?_
      refine z_imul hX dX10_savedWorth_22 23 rfl ?_
      refine z_iload_n hX dX10_savedWorth_23 rfl 24 rfl ?_
      refine z_iadd hX dX10_savedWorth_24 25 rfl ?_
      obtain ⟨hb, h1_⟩ := zgd h
      refine z_iald hX dX10_savedWorth_25 zs_130 (zok_in hb) 26 rfl ?_
      refine z_iconst hX dX10_savedWorth_26 qi_2 27 rfl ?_
      refine z_icmp_ne hX dX10_savedWorth_27 39 30 (by decide) rfl (fun hc => ?_) (fun hc => ?_)
      · rw [if_neg hc] at h1_
        refine z_iconst hX dX10_savedWorth_39 qi_0 40 rfl ?_
        refine z_iadd hX dX10_savedWorth_40 41 rfl ?_
        refine z_istore_n hX dX10_savedWorth_41 (by decide) 42 rfl ?_
        refine z_iinc (v := (s.2 + 1)) hX dX10_savedWorth_42 rfl (by rfl) (by decide) 45 rfl ?_
        refine z_goto hX dX10_savedWorth_45 4 (by decide) ?_
        refine z_mask [true, true, true, true] ?_
        have hz := hrc4 _ h1_
        exact hz
      · rw [if_pos hc] at h1_
        refine z_aload_n hX dX10_savedWorth_30 rfl 31 rfl ?_
        refine z_getF hX fX10_31 dX10_savedWorth_31 zs_98 (by decide) rfl 34 rfl ?_
        refine z_iload_n hX dX10_savedWorth_34 rfl 35 rfl ?_
        obtain ⟨hb, h2_⟩ := zgd h1_
        refine z_iald hX dX10_savedWorth_35 zs_106 (zok_in hb) 36 rfl ?_
        refine z_goto hX dX10_savedWorth_36 40 (by decide) ?_
        refine z_iadd hX dX10_savedWorth_40 41 rfl ?_
        refine z_topi h2_ (fun x3_ h4_ => ?_)
        refine z_istore_n hX dX10_savedWorth_41 (by decide) 42 rfl ?_
        refine z_iinc (v := (s.2 + 1)) hX dX10_savedWorth_42 rfl (by rfl) (by decide) 45 rfl ?_
        refine z_goto hX dX10_savedWorth_45 4 (by decide) ?_
        refine z_mask [true, true, true, true] ?_
        have hz := hrc4 _ h4_
        exact hz
def gX10_savedWorth (x1 : Int32) (M : zM) : Option Int32 :=
  zfix zFu (gX10_savedWorth_L4 x1 M) (0, 0)
set_option maxRecDepth 100000 in
set_option maxHeartbeats 2000000 in
theorem mX10_savedWorth {G : zG} {x1 : Int32} {M : zM}  {res : Int32} (h : gX10_savedWorth x1 M = some res) : Ct G 1 tX10_savedWorth [.ref 98, .int x1] M (zQip M res) := by
  unfold gX10_savedWorth at h
  refine Ct.of (y := yX10_savedWorth) rfl plX10 (Nat.le_of_ble_eq_true rfl) (fun X hX => ?_)
  replace hX : zC G X cX10_savedWorth 4 RX10 (some .int) 1 := hX
  show Z G X _ 0 [some (.ref 98), some (.int x1), none, none] [] M
  refine z_iconst hX dX10_savedWorth_0 qi_0 1 rfl ?_
  refine z_istore_n hX dX10_savedWorth_1 (by decide) 2 rfl ?_
  refine z_iconst hX dX10_savedWorth_2 qi_0 3 rfl ?_
  refine z_istore_n hX dX10_savedWorth_3 (by decide) 4 rfl ?_
  refine z_mask [true, true, true, true] ?_
  have hz := aX10_savedWorth_L4 hX _ _ h
  exact hz
def gX10_rows_L124 (F : Int32 → Int32 → zM → Option zM) (x1 : Int32) (rc124 : (Int32 × zM) → Option zM) (s : (Int32 × zM)) : Option zM :=
  (if x1 ≤ s.1 then some s.2
  else zg (zok s.1 4) (zg (zok s.1 4) (zlet (zI s.2 136 (s.1 : Int32).toNatClampNeg (s.2.1 135 (s.1 : Int32).toNatClampNeg)) (fun M13_ => rc124 ((s.1 + 1), M13_)))))
set_option maxRecDepth 100000 in
set_option maxHeartbeats 2000000 in
theorem aX10_rows_L124 {G : zG} {X : zX} {k : Nat} {F : Int32 → Int32 → zM → Option zM} {x1 : Int32} (hX : zC G X cX10_rows 5 RX10 none (9 + (k + 1))) (hF0 : ∀ (x1 : Int32) (x2 : Int32) (M res : zM), F x1 x2 M = some res → Ct G (9 + k) tX10_rows [.ref 98, .int x1, .int x2] M (zQv res))   {res : zM}  : ∀ (N : Nat) (s : (Int32 × zM)), zfix N (gX10_rows_L124 F x1) s = some res → Z G X (zQv res) 124 [some (.ref 98), some (.int x1), none, none, some (.int s.1)] [] s.2 := by
  intro N
  induction N with
  | zero => intro s h; cases h
  | succ N hrc124 =>
    intro s h
    replace h : gX10_rows_L124 F x1 (zfix N (gX10_rows_L124 F x1)) s = some res := h
    unfold gX10_rows_L124 at h
    refine z_iload hX dX10_rows_124 rfl 126 rfl ?_
    refine z_iload_n hX dX10_rows_126 rfl 127 rfl ?_
    refine z_icmp_ge hX dX10_rows_127 150 130 (by decide) rfl (fun hc => ?_) (fun hc => ?_)
    · rw [if_pos hc] at h
      exact z_return hX dX10_rows_150 (zend_v h)
    · rw [if_neg hc] at h
      refine z_aload_n hX dX10_rows_130 rfl 131 rfl ?_
      refine z_getF hX fX10_129 dX10_rows_131 zs_98 (by decide) rfl 134 rfl ?_
      refine z_iload hX dX10_rows_134 rfl 136 rfl ?_
      refine z_aload_n hX dX10_rows_136 rfl 137 rfl ?_
      refine z_getF hX fX10_126 dX10_rows_137 zs_98 (by decide) rfl 140 rfl ?_
      refine z_iload hX dX10_rows_140 rfl 142 rfl ?_
      obtain ⟨hb, h11_⟩ := zgd h
      refine z_iald hX dX10_rows_142 zs_135 (zok_in hb) 143 rfl ?_
      obtain ⟨hb, h12_⟩ := zgd h11_
      refine z_iast hX dX10_rows_143 zs_136 (zok_in hb) 144 rfl ?_
      refine z_mem h12_ (fun M13_ h14_ => ?_)
      refine z_iinc (v := (s.1 + 1)) hX dX10_rows_144 rfl (by rfl) (by decide) 147 rfl ?_
      refine z_goto hX dX10_rows_147 124 (by decide) ?_
      refine z_mask [true, true, false, false, true] ?_
      have hz := hrc124 _ h14_
      exact hz
def gX10_rows_L63 (F : Int32 → Int32 → zM → Option zM) (x1 : Int32) (rc63 : (Int32 × zM) → Option zM) (s : (Int32 × zM)) : Option zM :=
  (if x1 ≤ s.1 then zcV (gX10_goesOn 30 s.2) (fun M3_ => zcI (gX10_savedWorth 1 M3_) (fun v5_ => zcI (gX10_savedWorth 0 M3_) (fun v7_ => (if (M3_.1 98 60) < (v5_ - v7_) then zlet (zI M3_ 98 60 (v5_ - v7_)) (fun M9_ => zfix zFu (gX10_rows_L124 F x1) (0, M9_))
  else some M3_))))
  else zg (zok s.1 4) (zg (zok (6 + s.1) 138) (zlet (zI s.2 129 ((6 + s.1) : Int32).toNatClampNeg (s.2.1 135 (s.1 : Int32).toNatClampNeg)) (fun M17_ => rc63 ((s.1 + 1), M17_)))))
set_option maxRecDepth 100000 in
set_option maxHeartbeats 2000000 in
theorem aX10_rows_L63 {G : zG} {X : zX} {k : Nat} {F : Int32 → Int32 → zM → Option zM} {x1 : Int32} (hX : zC G X cX10_rows 5 RX10 none (9 + (k + 1))) (hF0 : ∀ (x1 : Int32) (x2 : Int32) (M res : zM), F x1 x2 M = some res → Ct G (9 + k) tX10_rows [.ref 98, .int x1, .int x2] M (zQv res))   {res : zM}  : ∀ (N : Nat) (s : (Int32 × zM)), zfix N (gX10_rows_L63 F x1) s = some res → Z G X (zQv res) 63 [some (.ref 98), some (.int x1), none, some (.int s.1), none] [] s.2 := by
  intro N
  induction N with
  | zero => intro s h; cases h
  | succ N hrc63 =>
    intro s h
    replace h : gX10_rows_L63 F x1 (zfix N (gX10_rows_L63 F x1)) s = some res := h
    unfold gX10_rows_L63 at h
    refine z_iload_n hX dX10_rows_63 rfl 64 rfl ?_
    refine z_iload_n hX dX10_rows_64 rfl 65 rfl ?_
    refine z_icmp_ge hX dX10_rows_65 89 68 (by decide) rfl (fun hc => ?_) (fun hc => ?_)
    · rw [if_pos hc] at h
      refine z_aload_n hX dX10_rows_89 rfl 90 rfl ?_
      refine z_bipush hX dX10_rows_90 qb_30 92 rfl ?_
      obtain ⟨M3_, hq, h4_⟩ := zcV_of h
      refine z_callV hX vX10_goesOn lX10_410 dX10_rows_92 zs_98 rfl (mX10_goesOn  hq) (by omega) rfl rfl (Nat.le_of_ble_eq_true rfl) 95 rfl (Qv.to (fun M' hv => ?_))
      subst hv
      refine z_aload_n hX dX10_rows_95 rfl 96 rfl ?_
      refine z_iconst hX dX10_rows_96 qi_1 97 rfl ?_
      obtain ⟨v5_, hq, h6_⟩ := zcI_of h4_
      refine z_callV hX vX10_savedWorth lX10_453 dX10_rows_97 zs_98 rfl (mX10_savedWorth  hq) (by omega) rfl rfl (Nat.le_of_ble_eq_true rfl) 100 rfl (Qi.to (fun v' M' hv => ?_))
      obtain ⟨rfl, rfl⟩ := hv
      refine z_aload_n hX dX10_rows_100 rfl 101 rfl ?_
      refine z_iconst hX dX10_rows_101 qi_0 102 rfl ?_
      obtain ⟨v7_, hq, h8_⟩ := zcI_of h6_
      refine z_callV hX vX10_savedWorth lX10_453 dX10_rows_102 zs_98 rfl (mX10_savedWorth  hq) (by omega) rfl rfl (Nat.le_of_ble_eq_true rfl) 105 rfl (Qi.to (fun v' M' hv => ?_))
      obtain ⟨rfl, rfl⟩ := hv
      refine z_isub hX dX10_rows_105 106 rfl ?_
      refine z_istore_n hX dX10_rows_106 (by decide) 107 rfl ?_
      refine z_iload_n hX dX10_rows_107 rfl 108 rfl ?_
      refine z_aload_n hX dX10_rows_108 rfl 109 rfl ?_
      refine z_getI hX fX10_456 dX10_rows_109 zs_98 (by decide) rfl 112 rfl ?_
      refine z_icmp_gt hX dX10_rows_112 116 115 (by decide) rfl (fun hc => ?_) (fun hc => ?_)
      · rw [if_pos hc] at h8_
        refine z_aload_n hX dX10_rows_116 rfl 117 rfl ?_
        refine z_iload_n hX dX10_rows_117 rfl 118 rfl ?_
        refine z_putI hX pX10_456 dX10_rows_118 zs_98 (by decide) rfl 121 rfl ?_
        refine z_mem h8_ (fun M9_ h10_ => ?_)
        refine z_iconst hX dX10_rows_121 qi_0 122 rfl ?_
        refine z_istore hX dX10_rows_122 (by decide) 124 rfl ?_
        refine z_mask [true, true, false, false, true] ?_
        have hz := aX10_rows_L124 hX hF0 _ _ h10_
        exact hz
      · rw [if_neg hc] at h8_
        exact z_return hX dX10_rows_115 (zend_v h8_)
    · rw [if_neg hc] at h
      refine z_aload_n hX dX10_rows_68 rfl 69 rfl ?_
      refine z_getF hX fX10_105 dX10_rows_69 zs_98 (by decide) rfl 72 rfl ?_
      refine z_bipush hX dX10_rows_72 qb_6 74 rfl ?_
      refine z_iload_n hX dX10_rows_74 rfl 75 rfl ?_
      refine z_iadd hX dX10_rows_75 76 rfl ?_
      refine z_aload_n hX dX10_rows_76 rfl 77 rfl ?_
      refine z_getF hX fX10_126 dX10_rows_77 zs_98 (by decide) rfl 80 rfl ?_
      refine z_iload_n hX dX10_rows_80 rfl 81 rfl ?_
      obtain ⟨hb, h15_⟩ := zgd h
      refine z_iald hX dX10_rows_81 zs_135 (zok_in hb) 82 rfl ?_
      obtain ⟨hb, h16_⟩ := zgd h15_
      refine z_iast hX dX10_rows_82 zs_129 (zok_in hb) 83 rfl ?_
      refine z_mem h16_ (fun M17_ h18_ => ?_)
      refine z_iinc (v := (s.1 + 1)) hX dX10_rows_83 rfl (by rfl) (by decide) 86 rfl ?_
      refine z_goto hX dX10_rows_86 63 (by decide) ?_
      refine z_mask [true, true, false, true, false] ?_
      have hz := hrc63 _ h18_
      exact hz
def gX10_rows_L6 (F : Int32 → Int32 → zM → Option zM) (x1 : Int32) (x2 : Int32) (rc6 : (Int32 × zM) → Option zM) (s : (Int32 × zM)) : Option zM :=
  (if (s.2.1 100 (0 : Int32).toNatClampNeg) ≤ s.1 then some s.2
  else (if (((x2 : Int32) >>> ((s.1 : Int32) &&& 31)) &&& 1) = 0 then rc6 ((s.1 + 1), s.2)
  else zg (zok x1 4) (zlet (zI s.2 135 (x1 : Int32).toNatClampNeg s.1) (fun M20_ => zcV (F (x1 + 1) (x2 &&& (((1 : Int32) <<< ((s.1 : Int32) &&& 31)) ^^^ (-1))) M20_) (fun M22_ => rc6 ((s.1 + 1), M22_))))))
set_option maxRecDepth 100000 in
set_option maxHeartbeats 2000000 in
theorem aX10_rows_L6 {G : zG} {X : zX} {k : Nat} {F : Int32 → Int32 → zM → Option zM} {x1 : Int32} {x2 : Int32} (hX : zC G X cX10_rows 5 RX10 none (9 + (k + 1))) (hF0 : ∀ (x1 : Int32) (x2 : Int32) (M res : zM), F x1 x2 M = some res → Ct G (9 + k) tX10_rows [.ref 98, .int x1, .int x2] M (zQv res))   {res : zM}  : ∀ (N : Nat) (s : (Int32 × zM)), zfix N (gX10_rows_L6 F x1 x2) s = some res → Z G X (zQv res) 6 [some (.ref 98), some (.int x1), some (.int x2), some (.int s.1), none] [] s.2 := by
  intro N
  induction N with
  | zero => intro s h; cases h
  | succ N hrc6 =>
    intro s h
    replace h : gX10_rows_L6 F x1 x2 (zfix N (gX10_rows_L6 F x1 x2)) s = some res := h
    unfold gX10_rows_L6 at h
    refine z_iload_n hX dX10_rows_6 rfl 7 rfl ?_
    refine z_aload_n hX dX10_rows_7 rfl 8 rfl ?_
    refine z_getF hX fX10_13 dX10_rows_8 zs_98 (by decide) rfl 11 rfl ?_
    refine z_iconst hX dX10_rows_11 qi_0 12 rfl ?_
    refine z_iald hX dX10_rows_12 zs_100 (zok_in (by decide)) 13 rfl ?_
    refine z_icmp_ge hX dX10_rows_13 54 16 (by decide) rfl (fun hc => ?_) (fun hc => ?_)
    · rw [if_pos hc] at h
      exact z_return hX dX10_rows_54 (zend_v h)
    · rw [if_neg hc] at h
      refine z_iload_n hX dX10_rows_16 rfl 17 rfl ?_
      refine z_iload_n hX dX10_rows_17 rfl 18 rfl ?_
      refine z_ishr hX dX10_rows_18 19 rfl ?_
      refine z_iconst hX dX10_rows_19 qi_1 20 rfl ?_
      refine z_iand hX dX10_rows_20 21 rfl ?_
      refine z_if_ne hX dX10_rows_21 27 24 (by decide) rfl (fun hc => ?_) (fun hc => ?_)
      · rw [if_neg hc] at h
        refine z_aload_n hX dX10_rows_27 rfl 28 rfl ?_
        refine z_getF hX fX10_126 dX10_rows_28 zs_98 (by decide) rfl 31 rfl ?_
        refine z_iload_n hX dX10_rows_31 rfl 32 rfl ?_
        refine z_iload_n hX dX10_rows_32 rfl 33 rfl ?_
        obtain ⟨hb, h19_⟩ := zgd h
        refine z_iast hX dX10_rows_33 zs_135 (zok_in hb) 34 rfl ?_
        refine z_mem h19_ (fun M20_ h21_ => ?_)
        refine z_aload_n hX dX10_rows_34 rfl 35 rfl ?_
        refine z_iload_n hX dX10_rows_35 rfl 36 rfl ?_
        refine z_iconst hX dX10_rows_36 qi_1 37 rfl ?_
        refine z_iadd hX dX10_rows_37 38 rfl ?_
        refine z_iload_n hX dX10_rows_38 rfl 39 rfl ?_
        refine z_iconst hX dX10_rows_39 qi_1 40 rfl ?_
        refine z_iload_n hX dX10_rows_40 rfl 41 rfl ?_
        refine z_ishl hX dX10_rows_41 42 rfl ?_
        refine z_iconst hX dX10_rows_42 qi_m1 43 rfl ?_
        refine z_ixor hX dX10_rows_43 44 rfl ?_
        refine z_iand hX dX10_rows_44 45 rfl ?_
        obtain ⟨M22_, hq, h23_⟩ := zcV_of h21_
        refine z_callV hX vX10_rows lX10_450 dX10_rows_45 zs_98 rfl (hF0 _ _ _ _ hq) (by omega) rfl rfl (Nat.le_of_ble_eq_true rfl) 48 rfl (Qv.to (fun M' hv => ?_))
        subst hv
        refine z_iinc (v := (s.1 + 1)) hX dX10_rows_48 rfl (by rfl) (by decide) 51 rfl ?_
        refine z_goto hX dX10_rows_51 6 (by decide) ?_
        refine z_mask [true, true, true, true, false] ?_
        have hz := hrc6 _ h23_
        exact hz
      · rw [if_pos hc] at h
        refine z_goto hX dX10_rows_24 48 (by decide) ?_
        refine z_iinc (v := (s.1 + 1)) hX dX10_rows_48 rfl (by rfl) (by decide) 51 rfl ?_
        refine z_goto hX dX10_rows_51 6 (by decide) ?_
        refine z_mask [true, true, true, true, false] ?_
        have hz := hrc6 _ h
        exact hz
def bX10_rows (F : Int32 → Int32 → zM → Option zM) (x1 : Int32) (x2 : Int32) (M : zM) : Option zM :=
  (if x2 = 0 then zcV (gX10_copies 1 0 M) (fun M1_ => zfix zFu (gX10_rows_L63 F x1) (0, M1_))
  else zfix zFu (gX10_rows_L6 F x1 x2) (0, M))
set_option maxRecDepth 100000 in
set_option maxHeartbeats 2000000 in
theorem nX10_rows {G : zG} {k : Nat} {F : Int32 → Int32 → zM → Option zM} {x1 : Int32} {x2 : Int32} {M : zM} (hF0 : ∀ (x1 : Int32) (x2 : Int32) (M res : zM), F x1 x2 M = some res → Ct G (9 + k) tX10_rows [.ref 98, .int x1, .int x2] M (zQv res)) {res : zM} (h : bX10_rows F x1 x2 M = some res) : Ct G (9 + (k + 1)) tX10_rows [.ref 98, .int x1, .int x2] M (zQv res) := by
  unfold bX10_rows at h
  refine Ct.of (y := yX10_rows) rfl plX10 (Nat.le_of_ble_eq_true rfl) (fun X hX => ?_)
  replace hX : zC G X cX10_rows 5 RX10 none (9 + (k + 1)) := hX
  show Z G X _ 0 [some (.ref 98), some (.int x1), some (.int x2), none, none] [] M
  refine z_iload_n hX dX10_rows_0 rfl 1 rfl ?_
  refine z_if_eq hX dX10_rows_1 55 4 (by decide) rfl (fun hc => ?_) (fun hc => ?_)
  · rw [if_pos hc] at h
    refine z_aload_n hX dX10_rows_55 rfl 56 rfl ?_
    refine z_iconst hX dX10_rows_56 qi_1 57 rfl ?_
    refine z_iconst hX dX10_rows_57 qi_0 58 rfl ?_
    obtain ⟨M1_, hq, h2_⟩ := zcV_of h
    refine z_callV hX vX10_copies lX10_407 dX10_rows_58 zs_98 rfl (mX10_copies  hq) (by omega) rfl rfl (Nat.le_of_ble_eq_true rfl) 61 rfl (Qv.to (fun M' hv => ?_))
    subst hv
    refine z_iconst hX dX10_rows_61 qi_0 62 rfl ?_
    refine z_istore_n hX dX10_rows_62 (by decide) 63 rfl ?_
    refine z_mask [true, true, false, true, false] ?_
    have hz := aX10_rows_L63 hX hF0 _ _ h2_
    exact hz
  · rw [if_neg hc] at h
    refine z_iconst hX dX10_rows_4 qi_0 5 rfl ?_
    refine z_istore_n hX dX10_rows_5 (by decide) 6 rfl ?_
    refine z_mask [true, true, true, true, false] ?_
    have hz := aX10_rows_L6 hX hF0 _ _ h
    exact hz
def gGO : Nat → Int32 → Int32 → zM → Option zM
  | 0, _, _, _ => none
  | k + 1, x1, x2, M => bX10_rows (gGO k) x1 x2 M
set_option maxRecDepth 100000 in
set_option maxHeartbeats 2000000 in
theorem mGO {G : zG} : ∀ k : Nat, (∀ (x1 : Int32) (x2 : Int32) (M res : zM), gGO k x1 x2 M = some res → Ct G (9 + k) tX10_rows [.ref 98, .int x1, .int x2] M (zQv res)) := by
  intro k
  induction k with
  | zero =>
    exact fun _ _ _ _ h => (by cases h)
  | succ k ih =>
    exact fun _ _ _ _ h => nX10_rows ih h
theorem mX10_rows {G : zG} (k : Nat) : ∀ (x1 : Int32) (x2 : Int32) (M res : zM), gGO k x1 x2 M = some res → Ct G (9 + k) tX10_rows [.ref 98, .int x1, .int x2] M (zQv res) := (mGO k)
def gX10_order_L32 (x1 : Int32) (x2 : Int32) (M : zM) (rc32 : (Int32 × Int32) → Option (Int32 × zM)) (s : (Int32 × Int32)) : Option (Int32 × zM) :=
  (if x2 ≤ s.2 then zlet (zI M 98 60 (-1)) (fun M5_ => zcV (gGO 8 0 s.1 M5_) (fun M7_ => (if x1 = 4 then some ((M7_.1 98 60), M7_)
  else (if x2 ≤ x1 then some ((-2), M7_)
  else zg (zok x1 4) (some ((M7_.1 136 (x1 : Int32).toNatClampNeg), M7_))))))
  else zg (zok s.2 138) (zlet ((s.1 ||| ((1 : Int32) <<< (((M.1 129 (s.2 : Int32).toNatClampNeg) : Int32) &&& 31)))) (fun x11_ => rc32 (x11_, (s.2 + 1)))))
set_option maxRecDepth 100000 in
set_option maxHeartbeats 2000000 in
theorem aX10_order_L32 {G : zG} {X : zX} {x1 : Int32} {x2 : Int32} (hX : zC G X cX10_order 5 RX10 (some .int) 18)   {M : zM} {res : (Int32 × zM)}  : ∀ (N : Nat) (s : (Int32 × Int32)), zfix N (gX10_order_L32 x1 x2 M) s = some res → Z G X (zQi res) 32 [some (.ref 98), some (.int x1), some (.int x2), some (.int s.1), some (.int s.2)] [] M := by
  intro N
  induction N with
  | zero => intro s h; cases h
  | succ N hrc32 =>
    intro s h
    replace h : gX10_order_L32 x1 x2 M (zfix N (gX10_order_L32 x1 x2 M)) s = some res := h
    unfold gX10_order_L32 at h
    refine z_iload hX dX10_order_32 rfl 34 rfl ?_
    refine z_iload_n hX dX10_order_34 rfl 35 rfl ?_
    refine z_icmp_ge hX dX10_order_35 56 38 (by decide) rfl (fun hc => ?_) (fun hc => ?_)
    · rw [if_pos hc] at h
      refine z_aload_n hX dX10_order_56 rfl 57 rfl ?_
      refine z_iconst hX dX10_order_57 qi_m1 58 rfl ?_
      refine z_putI hX pX10_456 dX10_order_58 zs_98 (by decide) rfl 61 rfl ?_
      refine z_mem h (fun M5_ h6_ => ?_)
      refine z_aload_n hX dX10_order_61 rfl 62 rfl ?_
      refine z_iconst hX dX10_order_62 qi_0 63 rfl ?_
      refine z_iload_n hX dX10_order_63 rfl 64 rfl ?_
      obtain ⟨M7_, hq, h8_⟩ := zcV_of h6_
      refine z_callV hX vX10_rows lX10_450 dX10_order_64 zs_98 rfl (mX10_rows 8 _ _ _ _ hq) (by decide) rfl rfl (Nat.le_of_ble_eq_true rfl) 67 rfl (Qv.to (fun M' hv => ?_))
      subst hv
      refine z_iload_n hX dX10_order_67 rfl 68 rfl ?_
      refine z_iconst hX dX10_order_68 qi_4 69 rfl ?_
      refine z_icmp_ne hX dX10_order_69 79 72 (by decide) rfl (fun hc => ?_) (fun hc => ?_)
      · rw [if_neg hc] at h8_
        refine z_iload_n hX dX10_order_79 rfl 80 rfl ?_
        refine z_iload_n hX dX10_order_80 rfl 81 rfl ?_
        refine z_icmp_ge hX dX10_order_81 93 84 (by decide) rfl (fun hc => ?_) (fun hc => ?_)
        · rw [if_pos hc] at h8_
          refine z_bipush hX dX10_order_93 qb_m2 95 rfl ?_
          exact z_ireturn hX dX10_order_95 (zend_i h8_)
        · rw [if_neg hc] at h8_
          refine z_aload_n hX dX10_order_84 rfl 85 rfl ?_
          refine z_getF hX fX10_129 dX10_order_85 zs_98 (by decide) rfl 88 rfl ?_
          refine z_iload_n hX dX10_order_88 rfl 89 rfl ?_
          obtain ⟨hb, h9_⟩ := zgd h8_
          refine z_iald hX dX10_order_89 zs_136 (zok_in hb) 90 rfl ?_
          refine z_goto hX dX10_order_90 95 (by decide) ?_
          exact z_ireturn hX dX10_order_95 (zend_i h9_)
      · rw [if_pos hc] at h8_
        refine z_aload_n hX dX10_order_72 rfl 73 rfl ?_
        refine z_getI hX fX10_456 dX10_order_73 zs_98 (by decide) rfl 76 rfl ?_
        refine z_goto hX dX10_order_76 95 (by decide) ?_
        exact z_ireturn hX dX10_order_95 (zend_i h8_)
    · rw [if_neg hc] at h
      refine z_iload_n hX dX10_order_38 rfl 39 rfl ?_
      refine z_iconst hX dX10_order_39 qi_1 40 rfl ?_
      refine z_aload_n hX dX10_order_40 rfl 41 rfl ?_
      refine z_getF hX fX10_105 dX10_order_41 zs_98 (by decide) rfl 44 rfl ?_
      refine z_iload hX dX10_order_44 rfl 46 rfl ?_
      obtain ⟨hb, h10_⟩ := zgd h
      refine z_iald hX dX10_order_46 zs_129 (zok_in hb) 47 rfl ?_
      refine z_ishl hX dX10_order_47 48 rfl ?_
      refine z_ior hX dX10_order_48 49 rfl ?_
      refine z_topi h10_ (fun x11_ h12_ => ?_)
      refine z_istore_n hX dX10_order_49 (by decide) 50 rfl ?_
      refine z_iinc (v := (s.2 + 1)) hX dX10_order_50 rfl (by rfl) (by decide) 53 rfl ?_
      refine z_goto hX dX10_order_53 32 (by decide) ?_
      refine z_mask [true, true, true, true, true] ?_
      have hz := hrc32 _ h12_
      exact hz
def gX10_order (x1 : Int32) (M : zM) : Option (Int32 × zM) :=
  zlet (zI M 98 0 0) (fun M1_ => (if x1 < 0 then some ((-1), M1_)
  else (if x1 ≤ 4 then zlet ((if (M1_.1 100 (0 : Int32).toNatClampNeg) < 4 then (M1_.1 100 (0 : Int32).toNatClampNeg) else 4)) (fun x3_ => zfix zFu (gX10_order_L32 x1 x3_ M1_) (0, 0))
  else some ((-1), M1_))))
set_option maxRecDepth 100000 in
set_option maxHeartbeats 2000000 in
theorem mX10_order {G : zG} {x1 : Int32} {M : zM}  {res : (Int32 × zM)} (h : gX10_order x1 M = some res) : Ct G 18 tX10_order [.ref 98, .int x1] M (zQi res) := by
  unfold gX10_order at h
  refine Ct.of (y := yX10_order) rfl plX10 (Nat.le_of_ble_eq_true rfl) (fun X hX => ?_)
  replace hX : zC G X cX10_order 5 RX10 (some .int) 18 := hX
  show Z G X _ 0 [some (.ref 98), some (.int x1), none, none, none] [] M
  refine z_aload_n hX dX10_order_0 rfl 1 rfl ?_
  refine z_iconst hX dX10_order_1 qi_0 2 rfl ?_
  refine z_putI hX pX10_154 dX10_order_2 zs_98 (by decide) rfl 5 rfl ?_
  refine z_mem h (fun M1_ h2_ => ?_)
  refine z_iload_n hX dX10_order_5 rfl 6 rfl ?_
  refine z_if_lt hX dX10_order_6 14 9 (by decide) rfl (fun hc => ?_) (fun hc => ?_)
  · rw [if_pos hc] at h2_
    refine z_iconst hX dX10_order_14 qi_m1 15 rfl ?_
    exact z_ireturn hX dX10_order_15 (zend_i h2_)
  · rw [if_neg hc] at h2_
    refine z_iload_n hX dX10_order_9 rfl 10 rfl ?_
    refine z_iconst hX dX10_order_10 qi_4 11 rfl ?_
    refine z_icmp_le hX dX10_order_11 16 14 (by decide) rfl (fun hc => ?_) (fun hc => ?_)
    · rw [if_pos hc] at h2_
      refine z_iconst hX dX10_order_16 qi_4 17 rfl ?_
      refine z_aload_n hX dX10_order_17 rfl 18 rfl ?_
      refine z_getF hX fX10_13 dX10_order_18 zs_98 (by decide) rfl 21 rfl ?_
      refine z_iconst hX dX10_order_21 qi_0 22 rfl ?_
      refine z_iald hX dX10_order_22 zs_100 (zok_in (by decide)) 23 rfl ?_
      refine z_min hX dX10_order_23 lX10_389 (by decide) (Nat.le_of_ble_eq_true rfl) 26 rfl ?_
      refine z_topi h2_ (fun x3_ h4_ => ?_)
      refine z_istore_n hX dX10_order_26 (by decide) 27 rfl ?_
      refine z_iconst hX dX10_order_27 qi_0 28 rfl ?_
      refine z_istore_n hX dX10_order_28 (by decide) 29 rfl ?_
      refine z_iconst hX dX10_order_29 qi_0 30 rfl ?_
      refine z_istore hX dX10_order_30 (by decide) 32 rfl ?_
      refine z_mask [true, true, true, true, true] ?_
      have hz := aX10_order_L32 hX _ _ h4_
      exact hz
    · rw [if_neg hc] at h2_
      refine z_iconst hX dX10_order_14 qi_m1 15 rfl ?_
      exact z_ireturn hX dX10_order_15 (zend_i h2_)
def gX10_areTwo (x1 : Int32) (x2 : Int32) (M : zM) : Option Int32 :=
  zcI (gX10_isMan x1 M) (fun v1_ => (if v1_ = 0 then some 0
  else zcI (gX10_isMan x2 M) (fun v3_ => (if v3_ = 0 then some 0
  else (if x1 = x2 then some 0
  else some 1)))))
set_option maxRecDepth 100000 in
set_option maxHeartbeats 2000000 in
theorem mX10_areTwo {G : zG} {x1 : Int32} {x2 : Int32} {M : zM}  {res : Int32} (h : gX10_areTwo x1 x2 M = some res) : Ct G 2 tX10_areTwo [.ref 98, .int x1, .int x2] M (zQip M res) := by
  unfold gX10_areTwo at h
  refine Ct.of (y := yX10_areTwo) rfl plX10 (Nat.le_of_ble_eq_true rfl) (fun X hX => ?_)
  replace hX : zC G X cX10_areTwo 3 RX10 (some .boolean) 2 := hX
  show Z G X _ 0 [some (.ref 98), some (.int x1), some (.int x2)] [] M
  refine z_aload_n hX dX10_areTwo_0 rfl 1 rfl ?_
  refine z_iload_n hX dX10_areTwo_1 rfl 2 rfl ?_
  obtain ⟨v1_, hq, h2_⟩ := zcI_of h
  refine z_callV hX vX10_isMan lX10_413 dX10_areTwo_2 zs_98 rfl (mX10_isMan  hq) (by decide) rfl rfl (Nat.le_of_ble_eq_true rfl) 5 rfl (Qi.to (fun v' M' hv => ?_))
  obtain ⟨rfl, rfl⟩ := hv
  refine z_if_eq hX dX10_areTwo_5 25 8 (by decide) rfl (fun hc => ?_) (fun hc => ?_)
  · rw [if_pos hc] at h2_
    refine z_iconst hX dX10_areTwo_25 qi_0 26 rfl ?_
    exact z_zreturn hX dX10_areTwo_26 (by decide) (zend_ip h2_)
  · rw [if_neg hc] at h2_
    refine z_aload_n hX dX10_areTwo_8 rfl 9 rfl ?_
    refine z_iload_n hX dX10_areTwo_9 rfl 10 rfl ?_
    obtain ⟨v3_, hq, h4_⟩ := zcI_of h2_
    refine z_callV hX vX10_isMan lX10_413 dX10_areTwo_10 zs_98 rfl (mX10_isMan  hq) (by decide) rfl rfl (Nat.le_of_ble_eq_true rfl) 13 rfl (Qi.to (fun v' M' hv => ?_))
    obtain ⟨rfl, rfl⟩ := hv
    refine z_if_eq hX dX10_areTwo_13 25 16 (by decide) rfl (fun hc => ?_) (fun hc => ?_)
    · rw [if_pos hc] at h4_
      refine z_iconst hX dX10_areTwo_25 qi_0 26 rfl ?_
      exact z_zreturn hX dX10_areTwo_26 (by decide) (zend_ip h4_)
    · rw [if_neg hc] at h4_
      refine z_iload_n hX dX10_areTwo_16 rfl 17 rfl ?_
      refine z_iload_n hX dX10_areTwo_17 rfl 18 rfl ?_
      refine z_icmp_eq hX dX10_areTwo_18 25 21 (by decide) rfl (fun hc => ?_) (fun hc => ?_)
      · rw [if_pos hc] at h4_
        refine z_iconst hX dX10_areTwo_25 qi_0 26 rfl ?_
        exact z_zreturn hX dX10_areTwo_26 (by decide) (zend_ip h4_)
      · rw [if_neg hc] at h4_
        refine z_iconst hX dX10_areTwo_21 qi_1 22 rfl ?_
        refine z_goto hX dX10_areTwo_22 26 (by decide) ?_
        exact z_zreturn hX dX10_areTwo_26 (by decide) (zend_ip h4_)
def gX10_hasOf (x1 : Int32) (x2 : Int32) (x3 : Int32) (M : zM) : Option Int32 :=
  (if x2 = 0 then (if x3 = 0 then zg (zok x1 138) (zg (zok x1 12) (some ((M.1 123 (x1 : Int32).toNatClampNeg) - ((M.1 102 (x1 : Int32).toNatClampNeg) / 4))))
  else zg (zok x1 138) (zg (zok x1 12) (some ((M.1 123 (x1 : Int32).toNatClampNeg) - ((M.1 102 (x1 : Int32).toNatClampNeg) / 2)))))
  else (if x3 = 0 then zg (zok x1 138) (some (-((M.1 123 (x1 : Int32).toNatClampNeg) / 2)))
  else some 0))
set_option maxRecDepth 100000 in
set_option maxHeartbeats 2000000 in
theorem mX10_hasOf {G : zG} {x1 : Int32} {x2 : Int32} {x3 : Int32} {M : zM}  {res : Int32} (h : gX10_hasOf x1 x2 x3 M = some res) : Ct G 1 tX10_hasOf [.ref 98, .int x1, .int x2, .int x3] M (zQip M res) := by
  unfold gX10_hasOf at h
  refine Ct.of (y := yX10_hasOf) rfl plX10 (Nat.le_of_ble_eq_true rfl) (fun X hX => ?_)
  replace hX : zC G X cX10_hasOf 4 RX10 (some .int) 1 := hX
  show Z G X _ 0 [some (.ref 98), some (.int x1), some (.int x2), some (.int x3)] [] M
  refine z_iload_n hX dX10_hasOf_0 rfl 1 rfl ?_
  refine z_if_ne hX dX10_hasOf_1 42 4 (by decide) rfl (fun hc => ?_) (fun hc => ?_)
  · rw [if_neg hc] at h
    refine z_iload_n hX dX10_hasOf_42 rfl 43 rfl ?_
    refine z_if_ne hX dX10_hasOf_43 58 46 (by decide) rfl (fun hc => ?_) (fun hc => ?_)
    · rw [if_neg hc] at h
      refine z_iconst hX dX10_hasOf_58 qi_0 59 rfl ?_
      exact z_ireturn hX dX10_hasOf_59 (zend_ip h)
    · rw [if_pos hc] at h
      refine z_aload_n hX dX10_hasOf_46 rfl 47 rfl ?_
      refine z_getF hX fX10_87 dX10_hasOf_47 zs_98 (by decide) rfl 50 rfl ?_
      refine z_iload_n hX dX10_hasOf_50 rfl 51 rfl ?_
      obtain ⟨hb, h1_⟩ := zgd h
      refine z_iald hX dX10_hasOf_51 zs_123 (zok_in hb) 52 rfl ?_
      refine z_iconst hX dX10_hasOf_52 qi_2 53 rfl ?_
      refine z_idiv hX dX10_hasOf_53 (by decide) 54 rfl ?_
      refine z_ineg hX dX10_hasOf_54 55 rfl ?_
      refine z_goto hX dX10_hasOf_55 59 (by decide) ?_
      exact z_ireturn hX dX10_hasOf_59 (zend_ip h1_)
  · rw [if_pos hc] at h
    refine z_iload_n hX dX10_hasOf_4 rfl 5 rfl ?_
    refine z_if_ne hX dX10_hasOf_5 26 8 (by decide) rfl (fun hc => ?_) (fun hc => ?_)
    · rw [if_neg hc] at h
      refine z_aload_n hX dX10_hasOf_26 rfl 27 rfl ?_
      refine z_getF hX fX10_87 dX10_hasOf_27 zs_98 (by decide) rfl 30 rfl ?_
      refine z_iload_n hX dX10_hasOf_30 rfl 31 rfl ?_
      obtain ⟨hb, h2_⟩ := zgd h
      refine z_iald hX dX10_hasOf_31 zs_123 (zok_in hb) 32 rfl ?_
      refine z_aload_n hX dX10_hasOf_32 rfl 33 rfl ?_
      refine z_getF hX fX10_19 dX10_hasOf_33 zs_98 (by decide) rfl 36 rfl ?_
      refine z_iload_n hX dX10_hasOf_36 rfl 37 rfl ?_
      obtain ⟨hb, h3_⟩ := zgd h2_
      refine z_iald hX dX10_hasOf_37 zs_102 (zok_in hb) 38 rfl ?_
      refine z_iconst hX dX10_hasOf_38 qi_2 39 rfl ?_
      refine z_idiv hX dX10_hasOf_39 (by decide) 40 rfl ?_
      refine z_isub hX dX10_hasOf_40 41 rfl ?_
      exact z_ireturn hX dX10_hasOf_41 (zend_ip h3_)
    · rw [if_pos hc] at h
      refine z_aload_n hX dX10_hasOf_8 rfl 9 rfl ?_
      refine z_getF hX fX10_87 dX10_hasOf_9 zs_98 (by decide) rfl 12 rfl ?_
      refine z_iload_n hX dX10_hasOf_12 rfl 13 rfl ?_
      obtain ⟨hb, h4_⟩ := zgd h
      refine z_iald hX dX10_hasOf_13 zs_123 (zok_in hb) 14 rfl ?_
      refine z_aload_n hX dX10_hasOf_14 rfl 15 rfl ?_
      refine z_getF hX fX10_19 dX10_hasOf_15 zs_98 (by decide) rfl 18 rfl ?_
      refine z_iload_n hX dX10_hasOf_18 rfl 19 rfl ?_
      obtain ⟨hb, h5_⟩ := zgd h4_
      refine z_iald hX dX10_hasOf_19 zs_102 (zok_in hb) 20 rfl ?_
      refine z_iconst hX dX10_hasOf_20 qi_4 21 rfl ?_
      refine z_idiv hX dX10_hasOf_21 (by decide) 22 rfl ?_
      refine z_isub hX dX10_hasOf_22 23 rfl ?_
      refine z_goto hX dX10_hasOf_23 41 (by decide) ?_
      exact z_ireturn hX dX10_hasOf_41 (zend_ip h5_)
def gX10_isRest (x1 : Int32) (x2 : Int32) (x3 : Int32) (M : zM) : Option Int32 :=
  zcI (gX10_hasOf x1 (1 - (x3 / 2)) (x3 - x3 / 2 * 2) M) (fun v1_ => zcI (gX10_hasOf x1 (x3 / 2) (x3 - x3 / 2 * 2) M) (fun v3_ => (if v3_ < v1_ then some 0
  else zcI (gX10_hasOf x2 (1 - (x3 - x3 / 2 * 2)) (x3 / 2) M) (fun v5_ => zcI (gX10_hasOf x2 (x3 - x3 / 2 * 2) (x3 / 2) M) (fun v7_ => (if v7_ < v5_ then some 0
  else some 1))))))
set_option maxRecDepth 100000 in
set_option maxHeartbeats 2000000 in
theorem mX10_isRest {G : zG} {x1 : Int32} {x2 : Int32} {x3 : Int32} {M : zM}  {res : Int32} (h : gX10_isRest x1 x2 x3 M = some res) : Ct G 2 tX10_isRest [.ref 98, .int x1, .int x2, .int x3] M (zQip M res) := by
  unfold gX10_isRest at h
  refine Ct.of (y := yX10_isRest) rfl plX10 (Nat.le_of_ble_eq_true rfl) (fun X hX => ?_)
  replace hX : zC G X cX10_isRest 6 RX10 (some .boolean) 2 := hX
  show Z G X _ 0 [some (.ref 98), some (.int x1), some (.int x2), some (.int x3), none, none] [] M
  refine z_iload_n hX dX10_isRest_0 rfl 1 rfl ?_
  refine z_iconst hX dX10_isRest_1 qi_2 2 rfl ?_
  refine z_idiv hX dX10_isRest_2 (by decide) 3 rfl ?_
  refine z_istore hX dX10_isRest_3 (by decide) 5 rfl ?_
  refine z_iload_n hX dX10_isRest_5 rfl 6 rfl ?_
  refine z_iconst hX dX10_isRest_6 qi_2 7 rfl ?_
  refine z_irem hX dX10_isRest_7 (by decide) 8 rfl ?_
  refine z_istore hX dX10_isRest_8 (by decide) 10 rfl ?_
  refine z_aload_n hX dX10_isRest_10 rfl 11 rfl ?_
  refine z_iload_n hX dX10_isRest_11 rfl 12 rfl ?_
  refine z_iconst hX dX10_isRest_12 qi_1 13 rfl ?_
  refine z_iload hX dX10_isRest_13 rfl 15 rfl ?_
  refine z_isub hX dX10_isRest_15 16 rfl ?_
  refine z_iload hX dX10_isRest_16 rfl 18 rfl ?_
  obtain ⟨v1_, hq, h2_⟩ := zcI_of h
  refine z_callV hX vX10_hasOf lX10_459 dX10_isRest_18 zs_98 rfl (mX10_hasOf  hq) (by decide) rfl rfl (Nat.le_of_ble_eq_true rfl) 21 rfl (Qi.to (fun v' M' hv => ?_))
  obtain ⟨rfl, rfl⟩ := hv
  refine z_aload_n hX dX10_isRest_21 rfl 22 rfl ?_
  refine z_iload_n hX dX10_isRest_22 rfl 23 rfl ?_
  refine z_iload hX dX10_isRest_23 rfl 25 rfl ?_
  refine z_iload hX dX10_isRest_25 rfl 27 rfl ?_
  obtain ⟨v3_, hq, h4_⟩ := zcI_of h2_
  refine z_callV hX vX10_hasOf lX10_459 dX10_isRest_27 zs_98 rfl (mX10_hasOf  hq) (by decide) rfl rfl (Nat.le_of_ble_eq_true rfl) 30 rfl (Qi.to (fun v' M' hv => ?_))
  obtain ⟨rfl, rfl⟩ := hv
  refine z_icmp_gt hX dX10_isRest_30 60 33 (by decide) rfl (fun hc => ?_) (fun hc => ?_)
  · rw [if_pos hc] at h4_
    refine z_iconst hX dX10_isRest_60 qi_0 61 rfl ?_
    exact z_zreturn hX dX10_isRest_61 (by decide) (zend_ip h4_)
  · rw [if_neg hc] at h4_
    refine z_aload_n hX dX10_isRest_33 rfl 34 rfl ?_
    refine z_iload_n hX dX10_isRest_34 rfl 35 rfl ?_
    refine z_iconst hX dX10_isRest_35 qi_1 36 rfl ?_
    refine z_iload hX dX10_isRest_36 rfl 38 rfl ?_
    refine z_isub hX dX10_isRest_38 39 rfl ?_
    refine z_iload hX dX10_isRest_39 rfl 41 rfl ?_
    obtain ⟨v5_, hq, h6_⟩ := zcI_of h4_
    refine z_callV hX vX10_hasOf lX10_459 dX10_isRest_41 zs_98 rfl (mX10_hasOf  hq) (by decide) rfl rfl (Nat.le_of_ble_eq_true rfl) 44 rfl (Qi.to (fun v' M' hv => ?_))
    obtain ⟨rfl, rfl⟩ := hv
    refine z_aload_n hX dX10_isRest_44 rfl 45 rfl ?_
    refine z_iload_n hX dX10_isRest_45 rfl 46 rfl ?_
    refine z_iload hX dX10_isRest_46 rfl 48 rfl ?_
    refine z_iload hX dX10_isRest_48 rfl 50 rfl ?_
    obtain ⟨v7_, hq, h8_⟩ := zcI_of h6_
    refine z_callV hX vX10_hasOf lX10_459 dX10_isRest_50 zs_98 rfl (mX10_hasOf  hq) (by decide) rfl rfl (Nat.le_of_ble_eq_true rfl) 53 rfl (Qi.to (fun v' M' hv => ?_))
    obtain ⟨rfl, rfl⟩ := hv
    refine z_icmp_gt hX dX10_isRest_53 60 56 (by decide) rfl (fun hc => ?_) (fun hc => ?_)
    · rw [if_pos hc] at h8_
      refine z_iconst hX dX10_isRest_60 qi_0 61 rfl ?_
      exact z_zreturn hX dX10_isRest_61 (by decide) (zend_ip h8_)
    · rw [if_neg hc] at h8_
      refine z_iconst hX dX10_isRest_56 qi_1 57 rfl ?_
      refine z_goto hX dX10_isRest_57 61 (by decide) ?_
      exact z_zreturn hX dX10_isRest_61 (by decide) (zend_ip h8_)
def gX10_restOf_L6 (x1 : Int32) (x2 : Int32) (x3 : Int32) (M : zM) (rc6 : (Int32 × Int32) → Option Int32) (s : (Int32 × Int32)) : Option Int32 :=
  (if 4 ≤ s.2 then (if x3 = (-1) then some s.1
  else some (-2))
  else zcI (gX10_isRest x1 x2 s.2 M) (fun v1_ => (if v1_ = 0 then rc6 (s.1, (s.2 + 1))
  else (if s.1 = x3 then some ((10 * (s.2 / 2)) + (s.2 - s.2 / 2 * 2))
  else rc6 ((s.1 + 1), (s.2 + 1))))))
set_option maxRecDepth 100000 in
set_option maxHeartbeats 2000000 in
theorem aX10_restOf_L6 {G : zG} {X : zX} {x1 : Int32} {x2 : Int32} {x3 : Int32} (hX : zC G X cX10_restOf 6 RX10 (some .int) 3)   {M : zM} {res : Int32}  : ∀ (N : Nat) (s : (Int32 × Int32)), zfix N (gX10_restOf_L6 x1 x2 x3 M) s = some res → Z G X (zQip M res) 6 [some (.ref 98), some (.int x1), some (.int x2), some (.int x3), some (.int s.1), some (.int s.2)] [] M := by
  intro N
  induction N with
  | zero => intro s h; cases h
  | succ N hrc6 =>
    intro s h
    replace h : gX10_restOf_L6 x1 x2 x3 M (zfix N (gX10_restOf_L6 x1 x2 x3 M)) s = some res := h
    unfold gX10_restOf_L6 at h
    refine z_iload hX dX10_restOf_6 rfl 8 rfl ?_
    refine z_iconst hX dX10_restOf_8 qi_4 9 rfl ?_
    refine z_icmp_ge hX dX10_restOf_9 54 12 (by decide) rfl (fun hc => ?_) (fun hc => ?_)
    · rw [if_pos hc] at h
      refine z_iload_n hX dX10_restOf_54 rfl 55 rfl ?_
      refine z_iconst hX dX10_restOf_55 qi_m1 56 rfl ?_
      refine z_icmp_ne hX dX10_restOf_56 64 59 (by decide) rfl (fun hc => ?_) (fun hc => ?_)
      · rw [if_neg hc] at h
        refine z_bipush hX dX10_restOf_64 qb_m2 66 rfl ?_
        exact z_ireturn hX dX10_restOf_66 (zend_ip h)
      · rw [if_pos hc] at h
        refine z_iload hX dX10_restOf_59 rfl 61 rfl ?_
        refine z_goto hX dX10_restOf_61 66 (by decide) ?_
        exact z_ireturn hX dX10_restOf_66 (zend_ip h)
    · rw [if_neg hc] at h
      refine z_aload_n hX dX10_restOf_12 rfl 13 rfl ?_
      refine z_iload_n hX dX10_restOf_13 rfl 14 rfl ?_
      refine z_iload_n hX dX10_restOf_14 rfl 15 rfl ?_
      refine z_iload hX dX10_restOf_15 rfl 17 rfl ?_
      obtain ⟨v1_, hq, h2_⟩ := zcI_of h
      refine z_callV hX vX10_isRest lX10_463 dX10_restOf_17 zs_98 rfl (mX10_isRest  hq) (by decide) rfl rfl (Nat.le_of_ble_eq_true rfl) 20 rfl (Qi.to (fun v' M' hv => ?_))
      obtain ⟨rfl, rfl⟩ := hv
      refine z_if_ne hX dX10_restOf_20 26 23 (by decide) rfl (fun hc => ?_) (fun hc => ?_)
      · rw [if_neg hc] at h2_
        refine z_iload hX dX10_restOf_26 rfl 28 rfl ?_
        refine z_iload_n hX dX10_restOf_28 rfl 29 rfl ?_
        refine z_icmp_ne hX dX10_restOf_29 45 32 (by decide) rfl (fun hc => ?_) (fun hc => ?_)
        · rw [if_neg hc] at h2_
          refine z_iinc (v := (s.1 + 1)) hX dX10_restOf_45 rfl (by rfl) (by decide) 48 rfl ?_
          refine z_iinc (v := (s.2 + 1)) hX dX10_restOf_48 rfl (by rfl) (by decide) 51 rfl ?_
          refine z_goto hX dX10_restOf_51 6 (by decide) ?_
          refine z_mask [true, true, true, true, true, true] ?_
          have hz := hrc6 _ h2_
          exact hz
        · rw [if_pos hc] at h2_
          refine z_bipush hX dX10_restOf_32 qb_10 34 rfl ?_
          refine z_iload hX dX10_restOf_34 rfl 36 rfl ?_
          refine z_iconst hX dX10_restOf_36 qi_2 37 rfl ?_
          refine z_idiv hX dX10_restOf_37 (by decide) 38 rfl ?_
          refine z_imul hX dX10_restOf_38 39 rfl ?_
          refine z_iload hX dX10_restOf_39 rfl 41 rfl ?_
          refine z_iconst hX dX10_restOf_41 qi_2 42 rfl ?_
          refine z_irem hX dX10_restOf_42 (by decide) 43 rfl ?_
          refine z_iadd hX dX10_restOf_43 44 rfl ?_
          exact z_ireturn hX dX10_restOf_44 (zend_ip h2_)
      · rw [if_pos hc] at h2_
        refine z_goto hX dX10_restOf_23 48 (by decide) ?_
        refine z_iinc (v := (s.2 + 1)) hX dX10_restOf_48 rfl (by rfl) (by decide) 51 rfl ?_
        refine z_goto hX dX10_restOf_51 6 (by decide) ?_
        refine z_mask [true, true, true, true, true, true] ?_
        have hz := hrc6 _ h2_
        exact hz
def gX10_restOf (x1 : Int32) (x2 : Int32) (x3 : Int32) (M : zM) : Option Int32 :=
  zfix zFu (gX10_restOf_L6 x1 x2 x3 M) (0, 0)
set_option maxRecDepth 100000 in
set_option maxHeartbeats 2000000 in
theorem mX10_restOf {G : zG} {x1 : Int32} {x2 : Int32} {x3 : Int32} {M : zM}  {res : Int32} (h : gX10_restOf x1 x2 x3 M = some res) : Ct G 3 tX10_restOf [.ref 98, .int x1, .int x2, .int x3] M (zQip M res) := by
  unfold gX10_restOf at h
  refine Ct.of (y := yX10_restOf) rfl plX10 (Nat.le_of_ble_eq_true rfl) (fun X hX => ?_)
  replace hX : zC G X cX10_restOf 6 RX10 (some .int) 3 := hX
  show Z G X _ 0 [some (.ref 98), some (.int x1), some (.int x2), some (.int x3), none, none] [] M
  refine z_iconst hX dX10_restOf_0 qi_0 1 rfl ?_
  refine z_istore hX dX10_restOf_1 (by decide) 3 rfl ?_
  refine z_iconst hX dX10_restOf_3 qi_0 4 rfl ?_
  refine z_istore hX dX10_restOf_4 (by decide) 6 rfl ?_
  refine z_mask [true, true, true, true, true, true] ?_
  have hz := aX10_restOf_L6 hX _ _ h
  exact hz
def gX10_rests (x1 : Int32) (x2 : Int32) (M : zM) : Option (Int32 × zM) :=
  zlet (zI M 98 0 0) (fun M1_ => zcI (gX10_areTwo x1 x2 M1_) (fun v3_ => (if v3_ = 0 then some ((-1), M1_)
  else zcI (gX10_restOf x1 x2 (-1) M1_) (fun v5_ => some (v5_, M1_)))))
set_option maxRecDepth 100000 in
set_option maxHeartbeats 2000000 in
theorem mX10_rests {G : zG} {x1 : Int32} {x2 : Int32} {M : zM}  {res : (Int32 × zM)} (h : gX10_rests x1 x2 M = some res) : Ct G 4 tX10_rests [.ref 98, .int x1, .int x2] M (zQi res) := by
  unfold gX10_rests at h
  refine Ct.of (y := yX10_rests) rfl plX10 (Nat.le_of_ble_eq_true rfl) (fun X hX => ?_)
  replace hX : zC G X cX10_rests 3 RX10 (some .int) 4 := hX
  show Z G X _ 0 [some (.ref 98), some (.int x1), some (.int x2)] [] M
  refine z_aload_n hX dX10_rests_0 rfl 1 rfl ?_
  refine z_iconst hX dX10_rests_1 qi_0 2 rfl ?_
  refine z_putI hX pX10_154 dX10_rests_2 zs_98 (by decide) rfl 5 rfl ?_
  refine z_mem h (fun M1_ h2_ => ?_)
  refine z_aload_n hX dX10_rests_5 rfl 6 rfl ?_
  refine z_iload_n hX dX10_rests_6 rfl 7 rfl ?_
  refine z_iload_n hX dX10_rests_7 rfl 8 rfl ?_
  obtain ⟨v3_, hq, h4_⟩ := zcI_of h2_
  refine z_callV hX vX10_areTwo lX10_467 dX10_rests_8 zs_98 rfl (mX10_areTwo  hq) (by decide) rfl rfl (Nat.le_of_ble_eq_true rfl) 11 rfl (Qi.to (fun v' M' hv => ?_))
  obtain ⟨rfl, rfl⟩ := hv
  refine z_if_eq hX dX10_rests_11 24 14 (by decide) rfl (fun hc => ?_) (fun hc => ?_)
  · rw [if_pos hc] at h4_
    refine z_iconst hX dX10_rests_24 qi_m1 25 rfl ?_
    exact z_ireturn hX dX10_rests_25 (zend_i h4_)
  · rw [if_neg hc] at h4_
    refine z_aload_n hX dX10_rests_14 rfl 15 rfl ?_
    refine z_iload_n hX dX10_rests_15 rfl 16 rfl ?_
    refine z_iload_n hX dX10_rests_16 rfl 17 rfl ?_
    refine z_iconst hX dX10_rests_17 qi_m1 18 rfl ?_
    obtain ⟨v5_, hq, h6_⟩ := zcI_of h4_
    refine z_callV hX vX10_restOf lX10_471 dX10_rests_18 zs_98 rfl (mX10_restOf  hq) (by decide) rfl rfl (Nat.le_of_ble_eq_true rfl) 21 rfl (Qi.to (fun v' M' hv => ?_))
    obtain ⟨rfl, rfl⟩ := hv
    refine z_goto hX dX10_rests_21 25 (by decide) ?_
    exact z_ireturn hX dX10_rests_25 (zend_i h6_)
def gX10_rest (x1 : Int32) (x2 : Int32) (x3 : Int32) (M : zM) : Option (Int32 × zM) :=
  zlet (zI M 98 0 0) (fun M1_ => zcI (gX10_areTwo x1 x2 M1_) (fun v3_ => (if v3_ = 0 then some ((-1), M1_)
  else (if x3 < 0 then some ((-1), M1_)
  else zcI (gX10_restOf x1 x2 x3 M1_) (fun v5_ => some (v5_, M1_))))))
set_option maxRecDepth 100000 in
set_option maxHeartbeats 2000000 in
theorem mX10_rest {G : zG} {x1 : Int32} {x2 : Int32} {x3 : Int32} {M : zM}  {res : (Int32 × zM)} (h : gX10_rest x1 x2 x3 M = some res) : Ct G 4 tX10_rest [.ref 98, .int x1, .int x2, .int x3] M (zQi res) := by
  unfold gX10_rest at h
  refine Ct.of (y := yX10_rest) rfl plX10 (Nat.le_of_ble_eq_true rfl) (fun X hX => ?_)
  replace hX : zC G X cX10_rest 4 RX10 (some .int) 4 := hX
  show Z G X _ 0 [some (.ref 98), some (.int x1), some (.int x2), some (.int x3)] [] M
  refine z_aload_n hX dX10_rest_0 rfl 1 rfl ?_
  refine z_iconst hX dX10_rest_1 qi_0 2 rfl ?_
  refine z_putI hX pX10_154 dX10_rest_2 zs_98 (by decide) rfl 5 rfl ?_
  refine z_mem h (fun M1_ h2_ => ?_)
  refine z_aload_n hX dX10_rest_5 rfl 6 rfl ?_
  refine z_iload_n hX dX10_rest_6 rfl 7 rfl ?_
  refine z_iload_n hX dX10_rest_7 rfl 8 rfl ?_
  obtain ⟨v3_, hq, h4_⟩ := zcI_of h2_
  refine z_callV hX vX10_areTwo lX10_467 dX10_rest_8 zs_98 rfl (mX10_areTwo  hq) (by decide) rfl rfl (Nat.le_of_ble_eq_true rfl) 11 rfl (Qi.to (fun v' M' hv => ?_))
  obtain ⟨rfl, rfl⟩ := hv
  refine z_if_eq hX dX10_rest_11 28 14 (by decide) rfl (fun hc => ?_) (fun hc => ?_)
  · rw [if_pos hc] at h4_
    refine z_iconst hX dX10_rest_28 qi_m1 29 rfl ?_
    exact z_ireturn hX dX10_rest_29 (zend_i h4_)
  · rw [if_neg hc] at h4_
    refine z_iload_n hX dX10_rest_14 rfl 15 rfl ?_
    refine z_if_lt hX dX10_rest_15 28 18 (by decide) rfl (fun hc => ?_) (fun hc => ?_)
    · rw [if_pos hc] at h4_
      refine z_iconst hX dX10_rest_28 qi_m1 29 rfl ?_
      exact z_ireturn hX dX10_rest_29 (zend_i h4_)
    · rw [if_neg hc] at h4_
      refine z_aload_n hX dX10_rest_18 rfl 19 rfl ?_
      refine z_iload_n hX dX10_rest_19 rfl 20 rfl ?_
      refine z_iload_n hX dX10_rest_20 rfl 21 rfl ?_
      refine z_iload_n hX dX10_rest_21 rfl 22 rfl ?_
      obtain ⟨v5_, hq, h6_⟩ := zcI_of h4_
      refine z_callV hX vX10_restOf lX10_471 dX10_rest_22 zs_98 rfl (mX10_restOf  hq) (by decide) rfl rfl (Nat.le_of_ble_eq_true rfl) 25 rfl (Qi.to (fun v' M' hv => ?_))
      obtain ⟨rfl, rfl⟩ := hv
      refine z_goto hX dX10_rest_25 29 (by decide) ?_
      exact z_ireturn hX dX10_rest_29 (zend_i h6_)
def gX10_common_L6 (M : zM) (rc6 : (Int64 × Int64) → Option Int64) (s : (Int64 × Int64)) : Option Int64 :=
  (if (lg_cmp s.2 0) = 0 then some s.1
  else zg (znzL s.2) (rc6 (s.2, (s.1 - s.1 / s.2 * s.2))))
set_option maxRecDepth 100000 in
set_option maxHeartbeats 2000000 in
theorem aX10_common_L6 {G : zG} {X : zX} (hX : zC G X cX10_common 10 RX10 (some .long) 1)   {M : zM} {res : Int64}  : ∀ (N : Nat) (s : (Int64 × Int64)), zfix N (gX10_common_L6 M) s = some res → Z G X (zQlp M res) 6 [none, none, none, none, some (.long s.1), none, some (.long s.2), none, none, none] [] M := by
  intro N
  induction N with
  | zero => intro s h; cases h
  | succ N hrc6 =>
    intro s h
    replace h : gX10_common_L6 M (zfix N (gX10_common_L6 M)) s = some res := h
    unfold gX10_common_L6 at h
    refine z_lload hX dX10_common_6 rfl 8 rfl ?_
    refine z_lconst hX dX10_common_8 ql_0 9 rfl ?_
    refine z_lcmp hX dX10_common_9 10 rfl ?_
    refine z_if_eq hX dX10_common_10 31 13 (by decide) rfl (fun hc => ?_) (fun hc => ?_)
    · rw [if_pos hc] at h
      refine z_lload hX dX10_common_31 rfl 33 rfl ?_
      exact z_lreturn hX dX10_common_33 (zend_lp h)
    · rw [if_neg hc] at h
      refine z_lload hX dX10_common_13 rfl 15 rfl ?_
      refine z_lload hX dX10_common_15 rfl 17 rfl ?_
      obtain ⟨hb, h1_⟩ := zgd h
      refine z_lrem hX dX10_common_17 (znzL_ne hb) 18 rfl ?_
      refine z_lstore hX dX10_common_18 (by decide) 20 rfl ?_
      refine z_lload hX dX10_common_20 rfl 22 rfl ?_
      refine z_lstore hX dX10_common_22 (by decide) 24 rfl ?_
      refine z_lload hX dX10_common_24 rfl 26 rfl ?_
      refine z_lstore hX dX10_common_26 (by decide) 28 rfl ?_
      refine z_goto hX dX10_common_28 6 (by decide) ?_
      refine z_mask [false, false, false, false, true, false, true, false, false, false] ?_
      have hz := hrc6 _ h1_
      exact hz
def gX10_common (z0 : Int64) (z2 : Int64) (M : zM) : Option Int64 :=
  zfix zFu (gX10_common_L6 M) (z0, z2)
set_option maxRecDepth 100000 in
set_option maxHeartbeats 2000000 in
theorem mX10_common {G : zG} {z0 : Int64} {z2 : Int64} {M : zM}  {res : Int64} (h : gX10_common z0 z2 M = some res) : Ct G 1 tX10_common [.long z0, .long z2] M (zQlp M res) := by
  unfold gX10_common at h
  refine Ct.of (y := yX10_common) rfl plX10 (Nat.le_of_ble_eq_true rfl) (fun X hX => ?_)
  replace hX : zC G X cX10_common 10 RX10 (some .long) 1 := hX
  show Z G X _ 0 [some (.long z0), none, some (.long z2), none, none, none, none, none, none, none] [] M
  refine z_lload_n hX dX10_common_0 rfl 1 rfl ?_
  refine z_lstore hX dX10_common_1 (by decide) 3 rfl ?_
  refine z_lload_n hX dX10_common_3 rfl 4 rfl ?_
  refine z_lstore hX dX10_common_4 (by decide) 6 rfl ?_
  refine z_mask [false, false, false, false, true, false, true, false, false, false] ?_
  have hz := aX10_common_L6 hX _ _ h
  exact hz
