def gX5_readLaw_J21 (M : zM) : Option (Int32 × zM) :=
  zcIM (gX5_fails 1 M) (fun v3_ M4_ => zg (zbit v3_) (some (v3_, M4_)))
set_option maxRecDepth 100000 in
set_option maxHeartbeats 2000000 in
theorem aX5_readLaw_J21 {G : zG} {X : zX} (hX : zC G X cX5_readLaw 4 RX5 (some .boolean) 4)   {M : zM} {res : (Int32 × zM)}  (h : gX5_readLaw_J21 M = some res) : Z G X (zQi res) 21 [some (.ref 47), none, none, none] [] M := by
  unfold gX5_readLaw_J21 at h
  refine z_aload_n hX dX5_readLaw_21 rfl 22 rfl ?_
  refine z_iconst hX dX5_readLaw_22 qi_1 23 rfl ?_
  obtain ⟨v3_, M4_, hq, h5_⟩ := zcIM_of h
  refine z_callV hX vX5_fails lX5_94 dX5_readLaw_23 zs_47 rfl (mX5_fails  hq) (by decide) rfl rfl (Nat.le_of_ble_eq_true rfl) 26 rfl (Qi.to (fun v' M' hv => ?_))
  cases hv
  obtain ⟨hb, h6_⟩ := zgd h5_
  exact z_zreturn hX dX5_readLaw_26 (zbit_or hb) (zend_i h6_)
def gX5_readLaw_J132 (x1 : Int32) (r_2 : Nat) (x3 : Int32) (rc82 : (Int32 × zM) → Option (Int32 × zM)) (M : zM) : Option (Int32 × zM) :=
  (if (M.1 47 12) = 0 then zcIM (gX5_takeOperator M) (fun v27_ M28_ => (if v27_ = 0 then some (0, M28_)
  else rc82 ((x3 + 1), M28_)))
  else zcIM (gX5_takeOperand M) (fun v30_ M31_ => (if v30_ = 0 then some (0, M31_)
  else rc82 ((x3 + 1), M31_))))
set_option maxRecDepth 100000 in
set_option maxHeartbeats 2000000 in
theorem aX5_readLaw_J132 {G : zG} {X : zX} {x1 : Int32} {r_2 : Nat} {x3 : Int32} (hX : zC G X cX5_readLaw 4 RX5 (some .boolean) 4) (hr_2 : isPl r_2) {rc82 : (Int32 × zM) → Option (Int32 × zM)} {M : zM} {res : (Int32 × zM)} (hrc82 : ∀ s : (Int32 × zM), rc82 s = some res → Z G X (zQi res) 82 [some (.ref 47), some (.int x1), some (.ref (r_2 + 14)), some (.int s.1)] [] s.2) (h : gX5_readLaw_J132 x1 r_2 x3 rc82 M = some res) : Z G X (zQi res) 132 [some (.ref 47), some (.int x1), some (.ref (r_2 + 14)), some (.int x3)] [] M := by
  unfold gX5_readLaw_J132 at h
  refine z_aload_n hX dX5_readLaw_132 rfl 133 rfl ?_
  refine z_getI hX fX5_180 dX5_readLaw_133 zs_47 (by decide) rfl 136 rfl ?_
  refine z_if_eq hX dX5_readLaw_136 149 139 (by decide) rfl (fun hc => ?_) (fun hc => ?_)
  · rw [if_pos hc] at h
    refine z_aload_n hX dX5_readLaw_149 rfl 150 rfl ?_
    obtain ⟨v27_, M28_, hq, h29_⟩ := zcIM_of h
    refine z_callV hX vX5_takeOperator lX5_197 dX5_readLaw_150 zs_47 rfl (mX5_takeOperator  hq) (by decide) rfl rfl (Nat.le_of_ble_eq_true rfl) 153 rfl (Qi.to (fun v' M' hv => ?_))
    cases hv
    refine z_if_ne hX dX5_readLaw_153 158 156 (by decide) rfl (fun hc => ?_) (fun hc => ?_)
    · rw [if_neg hc] at h29_
      refine z_iinc (v := (x3 + 1)) hX dX5_readLaw_158 rfl (by rfl) (by decide) 161 rfl ?_
      refine z_goto hX dX5_readLaw_161 82 (by decide) ?_
      refine z_mask [true, true, true, true] ?_
      have hz := hrc82 _ h29_
      exact hz
    · rw [if_pos hc] at h29_
      refine z_iconst hX dX5_readLaw_156 qi_0 157 rfl ?_
      exact z_zreturn hX dX5_readLaw_157 (by decide) (zend_i h29_)
  · rw [if_neg hc] at h
    refine z_aload_n hX dX5_readLaw_139 rfl 140 rfl ?_
    obtain ⟨v30_, M31_, hq, h32_⟩ := zcIM_of h
    refine z_callV hX vX5_takeOperand lX5_194 dX5_readLaw_140 zs_47 rfl (mX5_takeOperand  hq) (by decide) rfl rfl (Nat.le_of_ble_eq_true rfl) 143 rfl (Qi.to (fun v' M' hv => ?_))
    cases hv
    refine z_if_eq hX dX5_readLaw_143 156 146 (by decide) rfl (fun hc => ?_) (fun hc => ?_)
    · rw [if_pos hc] at h32_
      refine z_iconst hX dX5_readLaw_156 qi_0 157 rfl ?_
      exact z_zreturn hX dX5_readLaw_157 (by decide) (zend_i h32_)
    · rw [if_neg hc] at h32_
      refine z_goto hX dX5_readLaw_146 158 (by decide) ?_
      refine z_iinc (v := (x3 + 1)) hX dX5_readLaw_158 rfl (by rfl) (by decide) 161 rfl ?_
      refine z_goto hX dX5_readLaw_161 82 (by decide) ?_
      refine z_mask [true, true, true, true] ?_
      have hz := hrc82 _ h32_
      exact hz
def gX5_readLaw_L82 (x1 : Int32) (r_2 : Nat) (rc82 : (Int32 × zM) → Option (Int32 × zM)) (s : (Int32 × zM)) : Option (Int32 × zM) :=
  (if 700 < s.1 then zcIM (gX5_fails 1 s.2) (fun v21_ M22_ => zg (zbit v21_) (some (v21_, M22_)))
  else zcV (gX5_advance s.2) (fun M25_ => (if (M25_.1 47 12) = 0 then (if (M25_.1 47 5) = 4 then (if (M25_.1 47 11) = 0 then zcV (gX5_release 1 M25_) (fun M33_ => zg (zok x1 3) (zlet (zI M33_ (r_2 + 16) (x1 : Int32).toNatClampNeg (M33_.1 (r_2 + 14) 1)) (fun M36_ => some (1, M36_))))
  else gX5_readLaw_J132 x1 r_2 s.1 rc82 M25_)
  else gX5_readLaw_J132 x1 r_2 s.1 rc82 M25_)
  else gX5_readLaw_J132 x1 r_2 s.1 rc82 M25_)))
set_option maxRecDepth 100000 in
set_option maxHeartbeats 2000000 in
theorem aX5_readLaw_L82 {G : zG} {X : zX} {x1 : Int32} {r_2 : Nat} (hX : zC G X cX5_readLaw 4 RX5 (some .boolean) 4) (hr_2 : isPl r_2)   {res : (Int32 × zM)}  : ∀ (N : Nat) (s : (Int32 × zM)), zfix N (gX5_readLaw_L82 x1 r_2) s = some res → Z G X (zQi res) 82 [some (.ref 47), some (.int x1), some (.ref (r_2 + 14)), some (.int s.1)] [] s.2 := by
  intro N
  induction N with
  | zero => intro s h; cases h
  | succ N hrc82 =>
    intro s h
    replace h : gX5_readLaw_L82 x1 r_2 (zfix N (gX5_readLaw_L82 x1 r_2)) s = some res := h
    unfold gX5_readLaw_L82 at h
    refine z_iload_n hX dX5_readLaw_82 rfl 83 rfl ?_
    refine z_sipush hX dX5_readLaw_83 qs_700 86 rfl ?_
    refine z_icmp_gt hX dX5_readLaw_86 164 89 (by decide) rfl (fun hc => ?_) (fun hc => ?_)
    · rw [if_pos hc] at h
      refine z_aload_n hX dX5_readLaw_164 rfl 165 rfl ?_
      refine z_iconst hX dX5_readLaw_165 qi_1 166 rfl ?_
      obtain ⟨v21_, M22_, hq, h23_⟩ := zcIM_of h
      refine z_callV hX vX5_fails lX5_94 dX5_readLaw_166 zs_47 rfl (mX5_fails  hq) (by decide) rfl rfl (Nat.le_of_ble_eq_true rfl) 169 rfl (Qi.to (fun v' M' hv => ?_))
      cases hv
      obtain ⟨hb, h24_⟩ := zgd h23_
      exact z_zreturn hX dX5_readLaw_169 (zbit_or hb) (zend_i h24_)
    · rw [if_neg hc] at h
      refine z_aload_n hX dX5_readLaw_89 rfl 90 rfl ?_
      obtain ⟨M25_, hq, h26_⟩ := zcV_of h
      refine z_callV hX vX5_advance lX5_48 dX5_readLaw_90 zs_47 rfl (mX5_advance  hq) (by decide) rfl rfl (Nat.le_of_ble_eq_true rfl) 93 rfl (Qv.to (fun M' hv => ?_))
      subst hv
      refine z_aload_n hX dX5_readLaw_93 rfl 94 rfl ?_
      refine z_getI hX fX5_180 dX5_readLaw_94 zs_47 (by decide) rfl 97 rfl ?_
      refine z_if_ne hX dX5_readLaw_97 132 100 (by decide) rfl (fun hc => ?_) (fun hc => ?_)
      · rw [if_neg hc] at h26_
        refine z_mask [true, true, true, true] ?_
        have hz := aX5_readLaw_J132 hX hr_2 hrc82 h26_
        exact hz
      · rw [if_pos hc] at h26_
        refine z_aload_n hX dX5_readLaw_100 rfl 101 rfl ?_
        refine z_getI hX fX5_51 dX5_readLaw_101 zs_47 (by decide) rfl 104 rfl ?_
        refine z_iconst hX dX5_readLaw_104 qi_4 105 rfl ?_
        refine z_icmp_ne hX dX5_readLaw_105 132 108 (by decide) rfl (fun hc => ?_) (fun hc => ?_)
        · rw [if_neg hc] at h26_
          refine z_mask [true, true, true, true] ?_
          have hz := aX5_readLaw_J132 hX hr_2 hrc82 h26_
          exact hz
        · rw [if_pos hc] at h26_
          refine z_aload_n hX dX5_readLaw_108 rfl 109 rfl ?_
          refine z_getI hX fX5_177 dX5_readLaw_109 zs_47 (by decide) rfl 112 rfl ?_
          refine z_if_ne hX dX5_readLaw_112 132 115 (by decide) rfl (fun hc => ?_) (fun hc => ?_)
          · rw [if_neg hc] at h26_
            refine z_mask [true, true, true, true] ?_
            have hz := aX5_readLaw_J132 hX hr_2 hrc82 h26_
            exact hz
          · rw [if_pos hc] at h26_
            refine z_aload_n hX dX5_readLaw_115 rfl 116 rfl ?_
            refine z_iconst hX dX5_readLaw_116 qi_1 117 rfl ?_
            obtain ⟨M33_, hq, h34_⟩ := zcV_of h26_
            refine z_callV hX vX5_release lX5_187 dX5_readLaw_117 zs_47 rfl (mX5_release  hq) (by decide) rfl rfl (Nat.le_of_ble_eq_true rfl) 120 rfl (Qv.to (fun M' hv => ?_))
            subst hv
            refine z_aload_n hX dX5_readLaw_120 rfl 121 rfl ?_
            refine z_getF hX fX5_191 dX5_readLaw_121 (zsP14 hr_2) (by decide) rfl 124 rfl ?_
            refine z_iload_n hX dX5_readLaw_124 rfl 125 rfl ?_
            refine z_aload_n hX dX5_readLaw_125 rfl 126 rfl ?_
            refine z_getI hX fX5_173 dX5_readLaw_126 (zsP14 hr_2) (by decide) rfl 129 rfl ?_
            obtain ⟨hb, h35_⟩ := zgd h34_
            refine z_iast hX dX5_readLaw_129 (zsP16 hr_2) (zok_in hb) 130 rfl ?_
            refine z_mem h35_ (fun M36_ h37_ => ?_)
            refine z_iconst hX dX5_readLaw_130 qi_1 131 rfl ?_
            exact z_zreturn hX dX5_readLaw_131 (by decide) (zend_i h37_)
def gX5_readLaw (M : zM) : Option (Int32 × zM) :=
  zcV (gX5_advance M) (fun M1_ => (if ((M1_.1 47 5) - 16) < 0 then gX5_readLaw_J21 M1_
  else (if ((M1_.1 47 5) - 16) < 3 then zgP (M1_.2.2 47 3) (fun p7_ => zg (zok ((M1_.1 47 5) - 16) 3) ((if (M1_.1 (p7_ + 15) (((M1_.1 47 5) - 16) : Int32).toNatClampNeg) < 0 then zg (zok ((M1_.1 47 5) - 16) 3) (zlet (zI M1_ (p7_ + 15) (((M1_.1 47 5) - 16) : Int32).toNatClampNeg (M1_.1 (p7_ + 14) 1)) (fun M11_ => zlet (zI M11_ 47 10 0) (fun M13_ => zlet (zI M13_ 47 11 0) (fun M15_ => zlet (zI M15_ 47 12 1) (fun M17_ => zlet (zI M17_ 47 13 1) (fun M19_ => zfix zFu (gX5_readLaw_L82 ((M1_.1 47 5) - 16) p7_) (0, M19_)))))))
  else zcIM (gX5_fails 3 M1_) (fun v38_ M39_ => zg (zbit v38_) (some (v38_, M39_))))))
  else gX5_readLaw_J21 M1_)))
set_option maxRecDepth 100000 in
set_option maxHeartbeats 2000000 in
theorem mX5_readLaw {G : zG}  {M : zM}  {res : (Int32 × zM)} (h : gX5_readLaw M = some res) : Ct G 4 tX5_readLaw [.ref 47] M (zQi res) := by
  unfold gX5_readLaw at h
  refine Ct.of (y := yX5_readLaw) rfl plX5 (Nat.le_of_ble_eq_true rfl) (fun X hX => ?_)
  replace hX : zC G X cX5_readLaw 4 RX5 (some .boolean) 4 := hX
  show Z G X _ 0 [some (.ref 47), none, none, none] [] M
  refine z_aload_n hX dX5_readLaw_0 rfl 1 rfl ?_
  obtain ⟨M1_, hq, h2_⟩ := zcV_of h
  refine z_callV hX vX5_advance lX5_48 dX5_readLaw_1 zs_47 rfl (mX5_advance  hq) (by decide) rfl rfl (Nat.le_of_ble_eq_true rfl) 4 rfl (Qv.to (fun M' hv => ?_))
  subst hv
  refine z_aload_n hX dX5_readLaw_4 rfl 5 rfl ?_
  refine z_getI hX fX5_51 dX5_readLaw_5 zs_47 (by decide) rfl 8 rfl ?_
  refine z_bipush hX dX5_readLaw_8 qb_16 10 rfl ?_
  refine z_isub hX dX5_readLaw_10 11 rfl ?_
  refine z_istore_n hX dX5_readLaw_11 (by decide) 12 rfl ?_
  refine z_iload_n hX dX5_readLaw_12 rfl 13 rfl ?_
  refine z_if_lt hX dX5_readLaw_13 21 16 (by decide) rfl (fun hc => ?_) (fun hc => ?_)
  · rw [if_pos hc] at h2_
    refine z_mask [true, false, false, false] ?_
    have hz := aX5_readLaw_J21 hX h2_
    exact hz
  · rw [if_neg hc] at h2_
    refine z_iload_n hX dX5_readLaw_16 rfl 17 rfl ?_
    refine z_iconst hX dX5_readLaw_17 qi_3 18 rfl ?_
    refine z_icmp_lt hX dX5_readLaw_18 27 21 (by decide) rfl (fun hc => ?_) (fun hc => ?_)
    · rw [if_pos hc] at h2_
      refine z_aload_n hX dX5_readLaw_27 rfl 28 rfl ?_
      obtain ⟨p7_, hm, hp7_, h8_⟩ := zgP_of h2_
      refine z_getR hX fX5_29 dX5_readLaw_28 zs_47 (by decide) rfl hm 31 rfl ?_
      refine z_getF hX fX5_164 dX5_readLaw_31 (zsP0 hp7_) (by decide) rfl 34 rfl ?_
      refine z_astore_n hX dX5_readLaw_34 (by decide) 35 rfl ?_
      refine z_aload_n hX dX5_readLaw_35 rfl 36 rfl ?_
      refine z_getF hX fX5_168 dX5_readLaw_36 (zsP14 hp7_) (by decide) rfl 39 rfl ?_
      refine z_iload_n hX dX5_readLaw_39 rfl 40 rfl ?_
      obtain ⟨hb, h9_⟩ := zgd h8_
      refine z_iald hX dX5_readLaw_40 (zsP15 hp7_) (zok_in hb) 41 rfl ?_
      refine z_if_lt hX dX5_readLaw_41 50 44 (by decide) rfl (fun hc => ?_) (fun hc => ?_)
      · rw [if_pos hc] at h9_
        refine z_aload_n hX dX5_readLaw_50 rfl 51 rfl ?_
        refine z_getF hX fX5_168 dX5_readLaw_51 (zsP14 hp7_) (by decide) rfl 54 rfl ?_
        refine z_iload_n hX dX5_readLaw_54 rfl 55 rfl ?_
        refine z_aload_n hX dX5_readLaw_55 rfl 56 rfl ?_
        refine z_getI hX fX5_173 dX5_readLaw_56 (zsP14 hp7_) (by decide) rfl 59 rfl ?_
        obtain ⟨hb, h10_⟩ := zgd h9_
        refine z_iast hX dX5_readLaw_59 (zsP15 hp7_) (zok_in hb) 60 rfl ?_
        refine z_mem h10_ (fun M11_ h12_ => ?_)
        refine z_aload_n hX dX5_readLaw_60 rfl 61 rfl ?_
        refine z_iconst hX dX5_readLaw_61 qi_0 62 rfl ?_
        refine z_putI hX pX5_174 dX5_readLaw_62 zs_47 (by decide) rfl 65 rfl ?_
        refine z_mem h12_ (fun M13_ h14_ => ?_)
        refine z_aload_n hX dX5_readLaw_65 rfl 66 rfl ?_
        refine z_iconst hX dX5_readLaw_66 qi_0 67 rfl ?_
        refine z_putI hX pX5_177 dX5_readLaw_67 zs_47 (by decide) rfl 70 rfl ?_
        refine z_mem h14_ (fun M15_ h16_ => ?_)
        refine z_aload_n hX dX5_readLaw_70 rfl 71 rfl ?_
        refine z_iconst hX dX5_readLaw_71 qi_1 72 rfl ?_
        refine z_putZ hX pX5_180 dX5_readLaw_72 zs_47 (by decide) rfl (by decide) 75 rfl ?_
        refine z_mem h16_ (fun M17_ h18_ => ?_)
        refine z_aload_n hX dX5_readLaw_75 rfl 76 rfl ?_
        refine z_iconst hX dX5_readLaw_76 qi_1 77 rfl ?_
        refine z_putZ hX pX5_184 dX5_readLaw_77 zs_47 (by decide) rfl (by decide) 80 rfl ?_
        refine z_mem h18_ (fun M19_ h20_ => ?_)
        refine z_iconst hX dX5_readLaw_80 qi_0 81 rfl ?_
        refine z_istore_n hX dX5_readLaw_81 (by decide) 82 rfl ?_
        refine z_mask [true, true, true, true] ?_
        have hz := aX5_readLaw_L82 hX hp7_ _ _ h20_
        exact hz
      · rw [if_neg hc] at h9_
        refine z_aload_n hX dX5_readLaw_44 rfl 45 rfl ?_
        refine z_iconst hX dX5_readLaw_45 qi_3 46 rfl ?_
        obtain ⟨v38_, M39_, hq, h40_⟩ := zcIM_of h9_
        refine z_callV hX vX5_fails lX5_94 dX5_readLaw_46 zs_47 rfl (mX5_fails  hq) (by decide) rfl rfl (Nat.le_of_ble_eq_true rfl) 49 rfl (Qi.to (fun v' M' hv => ?_))
        cases hv
        obtain ⟨hb, h41_⟩ := zgd h40_
        exact z_zreturn hX dX5_readLaw_49 (zbit_or hb) (zend_i h41_)
    · rw [if_neg hc] at h2_
      refine z_mask [true, false, false, false] ?_
      have hz := aX5_readLaw_J21 hX h2_
      exact hz
def gX5_readSetting_J9 (M : zM) : Option (Int32 × zM) :=
  zcIM (gX5_fails 1 M) (fun v1_ M2_ => zg (zbit v1_) (some (v1_, M2_)))
set_option maxRecDepth 100000 in
set_option maxHeartbeats 2000000 in
theorem aX5_readSetting_J9 {G : zG} {X : zX} (hX : zC G X cX5_readSetting 2 RX5 (some .boolean) 4)   {M : zM} {res : (Int32 × zM)}  (h : gX5_readSetting_J9 M = some res) : Z G X (zQi res) 9 [some (.ref 47), none] [] M := by
  unfold gX5_readSetting_J9 at h
  refine z_aload_n hX dX5_readSetting_9 rfl 10 rfl ?_
  refine z_iconst hX dX5_readSetting_10 qi_1 11 rfl ?_
  obtain ⟨v1_, M2_, hq, h3_⟩ := zcIM_of h
  refine z_callV hX vX5_fails lX5_94 dX5_readSetting_11 zs_47 rfl (mX5_fails  hq) (by decide) rfl rfl (Nat.le_of_ble_eq_true rfl) 14 rfl (Qi.to (fun v' M' hv => ?_))
  cases hv
  obtain ⟨hb, h4_⟩ := zgd h3_
  exact z_zreturn hX dX5_readSetting_14 (zbit_or hb) (zend_i h4_)
def gX5_readSetting (x1 : Int32) (M : zM) : Option (Int32 × zM) :=
  (if x1 < 0 then gX5_readSetting_J9 M
  else (if x1 < 5 then zgP (M.2.2 47 3) (fun p5_ => zg (zok x1 5) ((if (M.1 (p5_ + 13) (x1 : Int32).toNatClampNeg) = 0 then zgP (M.2.2 47 3) (fun p8_ => zg (zok x1 5) (zlet (zI M (p8_ + 13) (x1 : Int32).toNatClampNeg (vp_nar .boolean 1)) (fun M11_ => zg (zok x1 5) (zcIM (gX5_readsNumber 0 (zc1 (x1 : Int32).toNatClampNeg) M11_) (fun v14_ M15_ => (if v14_ = 0 then some (0, M15_)
  else zgP (M15_.2.2 47 3) (fun p17_ => zg (zok x1 5) (zlet (zI M15_ (p17_ + 12) (x1 : Int32).toNatClampNeg (M15_.1 47 7)) (fun M20_ => zcIM (gX5_reads 4 M20_) (fun v22_ M23_ => zg (zbit v22_) (some (v22_, M23_))))))))))))
  else zcIM (gX5_fails 3 M) (fun v26_ M27_ => zg (zbit v26_) (some (v26_, M27_))))))
  else gX5_readSetting_J9 M))
set_option maxRecDepth 100000 in
set_option maxHeartbeats 2000000 in
theorem mX5_readSetting {G : zG} {x1 : Int32} {M : zM}  {res : (Int32 × zM)} (h : gX5_readSetting x1 M = some res) : Ct G 4 tX5_readSetting [.ref 47, .int x1] M (zQi res) := by
  unfold gX5_readSetting at h
  refine Ct.of (y := yX5_readSetting) rfl plX5 (Nat.le_of_ble_eq_true rfl) (fun X hX => ?_)
  replace hX : zC G X cX5_readSetting 2 RX5 (some .boolean) 4 := hX
  show Z G X _ 0 [some (.ref 47), some (.int x1)] [] M
  refine z_iload_n hX dX5_readSetting_0 rfl 1 rfl ?_
  refine z_if_lt hX dX5_readSetting_1 9 4 (by decide) rfl (fun hc => ?_) (fun hc => ?_)
  · rw [if_pos hc] at h
    refine z_mask [true, false] ?_
    have hz := aX5_readSetting_J9 hX h
    exact hz
  · rw [if_neg hc] at h
    refine z_iload_n hX dX5_readSetting_4 rfl 5 rfl ?_
    refine z_iconst hX dX5_readSetting_5 qi_5 6 rfl ?_
    refine z_icmp_lt hX dX5_readSetting_6 15 9 (by decide) rfl (fun hc => ?_) (fun hc => ?_)
    · rw [if_pos hc] at h
      refine z_aload_n hX dX5_readSetting_15 rfl 16 rfl ?_
      obtain ⟨p5_, hm, hp5_, h6_⟩ := zgP_of h
      refine z_getR hX fX5_29 dX5_readSetting_16 zs_47 (by decide) rfl hm 19 rfl ?_
      refine z_getF hX fX5_154 dX5_readSetting_19 (zsP0 hp5_) (by decide) rfl 22 rfl ?_
      refine z_iload_n hX dX5_readSetting_22 rfl 23 rfl ?_
      obtain ⟨hb, h7_⟩ := zgd h6_
      refine z_zald hX dX5_readSetting_23 (zsP13 hp5_) (zok_in hb) 24 rfl ?_
      refine z_if_eq hX dX5_readSetting_24 33 27 (by decide) rfl (fun hc => ?_) (fun hc => ?_)
      · rw [if_pos hc] at h7_
        refine z_aload_n hX dX5_readSetting_33 rfl 34 rfl ?_
        obtain ⟨p8_, hm, hp8_, h9_⟩ := zgP_of h7_
        refine z_getR hX fX5_29 dX5_readSetting_34 zs_47 (by decide) rfl hm 37 rfl ?_
        refine z_getF hX fX5_154 dX5_readSetting_37 (zsP0 hp8_) (by decide) rfl 40 rfl ?_
        refine z_iload_n hX dX5_readSetting_40 rfl 41 rfl ?_
        refine z_iconst hX dX5_readSetting_41 qi_1 42 rfl ?_
        obtain ⟨hb, h10_⟩ := zgd h9_
        refine z_zast hX dX5_readSetting_42 (zsP13 hp8_) (zok_in hb) 43 rfl ?_
        refine z_mem h10_ (fun M11_ h12_ => ?_)
        refine z_aload_n hX dX5_readSetting_43 rfl 44 rfl ?_
        refine z_iconst hX dX5_readSetting_44 qi_0 45 rfl ?_
        refine z_get143 hX dX5_readSetting_45 (by decide) 48 rfl ?_
        refine z_iload_n hX dX5_readSetting_48 rfl 49 rfl ?_
        obtain ⟨hb, h13_⟩ := zgd h12_
        refine z_sld143 hX dX5_readSetting_49 (zok_in hb) 50 rfl ?_
        obtain ⟨v14_, M15_, hq, h16_⟩ := zcIM_of h13_
        refine z_callV hX vX5_readsNumber lX5_114 dX5_readSetting_50 zs_47 rfl (mX5_readsNumber  hq) (by decide) rfl rfl (Nat.le_of_ble_eq_true rfl) 53 rfl (Qi.to (fun v' M' hv => ?_))
        cases hv
        refine z_if_ne hX dX5_readSetting_53 58 56 (by decide) rfl (fun hc => ?_) (fun hc => ?_)
        · rw [if_neg hc] at h16_
          refine z_aload_n hX dX5_readSetting_58 rfl 59 rfl ?_
          obtain ⟨p17_, hm, hp17_, h18_⟩ := zgP_of h16_
          refine z_getR hX fX5_29 dX5_readSetting_59 zs_47 (by decide) rfl hm 62 rfl ?_
          refine z_getF hX fX5_161 dX5_readSetting_62 (zsP0 hp17_) (by decide) rfl 65 rfl ?_
          refine z_iload_n hX dX5_readSetting_65 rfl 66 rfl ?_
          refine z_aload_n hX dX5_readSetting_66 rfl 67 rfl ?_
          refine z_getI hX fX5_73 dX5_readSetting_67 zs_47 (by decide) rfl 70 rfl ?_
          obtain ⟨hb, h19_⟩ := zgd h18_
          refine z_iast hX dX5_readSetting_70 (zsP12 hp17_) (zok_in hb) 71 rfl ?_
          refine z_mem h19_ (fun M20_ h21_ => ?_)
          refine z_aload_n hX dX5_readSetting_71 rfl 72 rfl ?_
          refine z_iconst hX dX5_readSetting_72 qi_4 73 rfl ?_
          obtain ⟨v22_, M23_, hq, h24_⟩ := zcIM_of h21_
          refine z_callV hX vX5_reads lX5_97 dX5_readSetting_73 zs_47 rfl (mX5_reads  hq) (by decide) rfl rfl (Nat.le_of_ble_eq_true rfl) 76 rfl (Qi.to (fun v' M' hv => ?_))
          cases hv
          obtain ⟨hb, h25_⟩ := zgd h24_
          exact z_zreturn hX dX5_readSetting_76 (zbit_or hb) (zend_i h25_)
        · rw [if_pos hc] at h16_
          refine z_iconst hX dX5_readSetting_56 qi_0 57 rfl ?_
          exact z_zreturn hX dX5_readSetting_57 (by decide) (zend_i h16_)
      · rw [if_neg hc] at h7_
        refine z_aload_n hX dX5_readSetting_27 rfl 28 rfl ?_
        refine z_iconst hX dX5_readSetting_28 qi_3 29 rfl ?_
        obtain ⟨v26_, M27_, hq, h28_⟩ := zcIM_of h7_
        refine z_callV hX vX5_fails lX5_94 dX5_readSetting_29 zs_47 rfl (mX5_fails  hq) (by decide) rfl rfl (Nat.le_of_ble_eq_true rfl) 32 rfl (Qi.to (fun v' M' hv => ?_))
        cases hv
        obtain ⟨hb, h29_⟩ := zgd h28_
        exact z_zreturn hX dX5_readSetting_32 (zbit_or hb) (zend_i h29_)
    · rw [if_neg hc] at h
      refine z_mask [true, false] ?_
      have hz := aX5_readSetting_J9 hX h
      exact hz
def gX5_readLine_J104 (M : zM) : Option (Int32 × zM) :=
  zcIM (gX5_fails 1 M) (fun v13_ M14_ => zg (zbit v13_) (some (v13_, M14_)))
set_option maxRecDepth 100000 in
set_option maxHeartbeats 2000000 in
theorem aX5_readLine_J104 {G : zG} {X : zX} (hX : zC G X cX5_readLine 1 RX5 (some .boolean) 5)   {M : zM} {res : (Int32 × zM)}  (h : gX5_readLine_J104 M = some res) : Z G X (zQi res) 104 [some (.ref 47)] [] M := by
  unfold gX5_readLine_J104 at h
  refine z_aload_n hX dX5_readLine_104 rfl 105 rfl ?_
  refine z_iconst hX dX5_readLine_105 qi_1 106 rfl ?_
  obtain ⟨v13_, M14_, hq, h15_⟩ := zcIM_of h
  refine z_callV hX vX5_fails lX5_94 dX5_readLine_106 zs_47 rfl (mX5_fails  hq) (by decide) rfl rfl (Nat.le_of_ble_eq_true rfl) 109 rfl (Qi.to (fun v' M' hv => ?_))
  cases hv
  obtain ⟨hb, h16_⟩ := zgd h15_
  exact z_zreturn hX dX5_readLine_109 (zbit_or hb) (zend_i h16_)
def gX5_readLine_J30 (M : zM) : Option (Int32 × zM) :=
  (if (M.1 47 5) = 7 then zcIM (gX5_readMan M) (fun v1_ M2_ => zg (zbit v1_) (some (v1_, M2_)))
  else if (M.1 47 5) = 8 then zcIM (gX5_readThing M) (fun v5_ M6_ => zg (zbit v5_) (some (v5_, M6_)))
  else if (M.1 47 5) = 9 then zcIM (gX5_readLook M) (fun v9_ M10_ => zg (zbit v9_) (some (v9_, M10_)))
  else if (M.1 47 5) = 10 then gX5_readLine_J104 M
  else if (M.1 47 5) = 11 then gX5_readLine_J104 M
  else if (M.1 47 5) = 12 then gX5_readLine_J104 M
  else if (M.1 47 5) = 13 then gX5_readLine_J104 M
  else if (M.1 47 5) = 14 then gX5_readLine_J104 M
  else if (M.1 47 5) = 15 then zcIM (gX5_readLaw M) (fun v17_ M18_ => zg (zbit v17_) (some (v17_, M18_)))
  else gX5_readLine_J104 M)
set_option maxRecDepth 100000 in
set_option maxHeartbeats 2000000 in
theorem aX5_readLine_J30 {G : zG} {X : zX} (hX : zC G X cX5_readLine 1 RX5 (some .boolean) 5)   {M : zM} {res : (Int32 × zM)}  (h : gX5_readLine_J30 M = some res) : Z G X (zQi res) 30 [some (.ref 47)] [] M := by
  unfold gX5_readLine_J30 at h
  refine z_aload_n hX dX5_readLine_30 rfl 31 rfl ?_
  refine z_getI hX fX5_51 dX5_readLine_31 zs_47 (by decide) rfl 34 rfl ?_
  by_cases hc0 : (M.1 47 5) = 7
  · rw [if_pos hc0] at h
    refine z_tabIn hX dX5_readLine_34 (by rw [hc0]; decide) (by rw [hc0]; decide) (by rw [hc0]; rfl) 84 (by decide) ?_
    refine z_aload_n hX dX5_readLine_84 rfl 85 rfl ?_
    obtain ⟨v1_, M2_, hq, h3_⟩ := zcIM_of h
    refine z_callV hX vX5_readMan lX5_82 dX5_readLine_85 zs_47 rfl (mX5_readMan  hq) (by decide) rfl rfl (Nat.le_of_ble_eq_true rfl) 88 rfl (Qi.to (fun v' M' hv => ?_))
    cases hv
    obtain ⟨hb, h4_⟩ := zgd h3_
    exact z_zreturn hX dX5_readLine_88 (zbit_or hb) (zend_i h4_)
  rw [if_neg hc0] at h
  by_cases hc1 : (M.1 47 5) = 8
  · rw [if_pos hc1] at h
    refine z_tabIn hX dX5_readLine_34 (by rw [hc1]; decide) (by rw [hc1]; decide) (by rw [hc1]; rfl) 89 (by decide) ?_
    refine z_aload_n hX dX5_readLine_89 rfl 90 rfl ?_
    obtain ⟨v5_, M6_, hq, h7_⟩ := zcIM_of h
    refine z_callV hX vX5_readThing lX5_85 dX5_readLine_90 zs_47 rfl (mX5_readThing  hq) (by decide) rfl rfl (Nat.le_of_ble_eq_true rfl) 93 rfl (Qi.to (fun v' M' hv => ?_))
    cases hv
    obtain ⟨hb, h8_⟩ := zgd h7_
    exact z_zreturn hX dX5_readLine_93 (zbit_or hb) (zend_i h8_)
  rw [if_neg hc1] at h
  by_cases hc2 : (M.1 47 5) = 9
  · rw [if_pos hc2] at h
    refine z_tabIn hX dX5_readLine_34 (by rw [hc2]; decide) (by rw [hc2]; decide) (by rw [hc2]; rfl) 94 (by decide) ?_
    refine z_aload_n hX dX5_readLine_94 rfl 95 rfl ?_
    obtain ⟨v9_, M10_, hq, h11_⟩ := zcIM_of h
    refine z_callV hX vX5_readLook lX5_88 dX5_readLine_95 zs_47 rfl (mX5_readLook  hq) (by decide) rfl rfl (Nat.le_of_ble_eq_true rfl) 98 rfl (Qi.to (fun v' M' hv => ?_))
    cases hv
    obtain ⟨hb, h12_⟩ := zgd h11_
    exact z_zreturn hX dX5_readLine_98 (zbit_or hb) (zend_i h12_)
  rw [if_neg hc2] at h
  by_cases hc3 : (M.1 47 5) = 10
  · rw [if_pos hc3] at h
    refine z_tabIn hX dX5_readLine_34 (by rw [hc3]; decide) (by rw [hc3]; decide) (by rw [hc3]; rfl) 104 (by decide) ?_
    refine z_mask [true] ?_
    have hz := aX5_readLine_J104 hX h
    exact hz
  rw [if_neg hc3] at h
  by_cases hc4 : (M.1 47 5) = 11
  · rw [if_pos hc4] at h
    refine z_tabIn hX dX5_readLine_34 (by rw [hc4]; decide) (by rw [hc4]; decide) (by rw [hc4]; rfl) 104 (by decide) ?_
    refine z_mask [true] ?_
    have hz := aX5_readLine_J104 hX h
    exact hz
  rw [if_neg hc4] at h
  by_cases hc5 : (M.1 47 5) = 12
  · rw [if_pos hc5] at h
    refine z_tabIn hX dX5_readLine_34 (by rw [hc5]; decide) (by rw [hc5]; decide) (by rw [hc5]; rfl) 104 (by decide) ?_
    refine z_mask [true] ?_
    have hz := aX5_readLine_J104 hX h
    exact hz
  rw [if_neg hc5] at h
  by_cases hc6 : (M.1 47 5) = 13
  · rw [if_pos hc6] at h
    refine z_tabIn hX dX5_readLine_34 (by rw [hc6]; decide) (by rw [hc6]; decide) (by rw [hc6]; rfl) 104 (by decide) ?_
    refine z_mask [true] ?_
    have hz := aX5_readLine_J104 hX h
    exact hz
  rw [if_neg hc6] at h
  by_cases hc7 : (M.1 47 5) = 14
  · rw [if_pos hc7] at h
    refine z_tabIn hX dX5_readLine_34 (by rw [hc7]; decide) (by rw [hc7]; decide) (by rw [hc7]; rfl) 104 (by decide) ?_
    refine z_mask [true] ?_
    have hz := aX5_readLine_J104 hX h
    exact hz
  rw [if_neg hc7] at h
  by_cases hc8 : (M.1 47 5) = 15
  · rw [if_pos hc8] at h
    refine z_tabIn hX dX5_readLine_34 (by rw [hc8]; decide) (by rw [hc8]; decide) (by rw [hc8]; rfl) 99 (by decide) ?_
    refine z_aload_n hX dX5_readLine_99 rfl 100 rfl ?_
    obtain ⟨v17_, M18_, hq, h19_⟩ := zcIM_of h
    refine z_callV hX vX5_readLaw lX5_91 dX5_readLine_100 zs_47 rfl (mX5_readLaw  hq) (by decide) rfl rfl (Nat.le_of_ble_eq_true rfl) 103 rfl (Qi.to (fun v' M' hv => ?_))
    cases hv
    obtain ⟨hb, h20_⟩ := zgd h19_
    exact z_zreturn hX dX5_readLine_103 (zbit_or hb) (zend_i h20_)
  rw [if_neg hc8] at h
  have hout : ((M.1 47 5) : Int32).toInt < 7 ∨ 15 < ((M.1 47 5) : Int32).toInt := zsw_out (fun k h1 h2 => by
    have hk : k = 7 ∨ k = 8 ∨ k = 9 ∨ k = 10 ∨ k = 11 ∨ k = 12 ∨ k = 13 ∨ k = 14 ∨ k = 15 := by omega
    rcases hk with rfl | rfl | rfl | rfl | rfl | rfl | rfl | rfl | rfl
    · exact hc0
    · exact hc1
    · exact hc2
    · exact hc3
    · exact hc4
    · exact hc5
    · exact hc6
    · exact hc7
    · exact hc8)
  refine z_tabOut hX dX5_readLine_34 hout 104 (by decide) ?_
  refine z_mask [true] ?_
  have hz := aX5_readLine_J104 hX h
  exact hz
def gX5_readLine (M : zM) : Option (Int32 × zM) :=
  (if (M.1 47 5) < 10 then gX5_readLine_J30 M
  else (if 14 < (M.1 47 5) then gX5_readLine_J30 M
  else zcIM (gX5_readSetting ((M.1 47 5) - 10) M) (fun v21_ M22_ => zg (zbit v21_) (some (v21_, M22_)))))
set_option maxRecDepth 100000 in
set_option maxHeartbeats 2000000 in
theorem mX5_readLine {G : zG}  {M : zM}  {res : (Int32 × zM)} (h : gX5_readLine M = some res) : Ct G 5 tX5_readLine [.ref 47] M (zQi res) := by
  unfold gX5_readLine at h
  refine Ct.of (y := yX5_readLine) rfl plX5 (Nat.le_of_ble_eq_true rfl) (fun X hX => ?_)
  replace hX : zC G X cX5_readLine 1 RX5 (some .boolean) 5 := hX
  show Z G X _ 0 [some (.ref 47)] [] M
  refine z_aload_n hX dX5_readLine_0 rfl 1 rfl ?_
  refine z_getI hX fX5_51 dX5_readLine_1 zs_47 (by decide) rfl 4 rfl ?_
  refine z_bipush hX dX5_readLine_4 qb_10 6 rfl ?_
  refine z_icmp_lt hX dX5_readLine_6 30 9 (by decide) rfl (fun hc => ?_) (fun hc => ?_)
  · rw [if_pos hc] at h
    refine z_mask [true] ?_
    have hz := aX5_readLine_J30 hX h
    exact hz
  · rw [if_neg hc] at h
    refine z_aload_n hX dX5_readLine_9 rfl 10 rfl ?_
    refine z_getI hX fX5_51 dX5_readLine_10 zs_47 (by decide) rfl 13 rfl ?_
    refine z_bipush hX dX5_readLine_13 qb_14 15 rfl ?_
    refine z_icmp_gt hX dX5_readLine_15 30 18 (by decide) rfl (fun hc => ?_) (fun hc => ?_)
    · rw [if_pos hc] at h
      refine z_mask [true] ?_
      have hz := aX5_readLine_J30 hX h
      exact hz
    · rw [if_neg hc] at h
      refine z_aload_n hX dX5_readLine_18 rfl 19 rfl ?_
      refine z_aload_n hX dX5_readLine_19 rfl 20 rfl ?_
      refine z_getI hX fX5_51 dX5_readLine_20 zs_47 (by decide) rfl 23 rfl ?_
      refine z_bipush hX dX5_readLine_23 qb_10 25 rfl ?_
      refine z_isub hX dX5_readLine_25 26 rfl ?_
      obtain ⟨v21_, M22_, hq, h23_⟩ := zcIM_of h
      refine z_callV hX vX5_readSetting lX5_78 dX5_readLine_26 zs_47 rfl (mX5_readSetting  hq) (by decide) rfl rfl (Nat.le_of_ble_eq_true rfl) 29 rfl (Qi.to (fun v' M' hv => ?_))
      cases hv
      obtain ⟨hb, h24_⟩ := zgd h23_
      exact z_zreturn hX dX5_readLine_29 (zbit_or hb) (zend_i h24_)
def gX5_read_L39 (p3 : Nat) (rc39 : (Int32 × zM) → Option (Int32 × zM)) (s : (Int32 × zM)) : Option (Int32 × zM) :=
  (if 700 < s.1 then some ((-1), s.2)
  else zcV (gX5_advance s.2) (fun M15_ => (if (M15_.1 47 5) = 0 then some (s.1, M15_)
  else zcIM (gX5_readLine M15_) (fun v17_ M18_ => (if v17_ = 0 then some ((-1), M18_)
  else rc39 ((s.1 + 1), M18_))))))
set_option maxRecDepth 100000 in
set_option maxHeartbeats 2000000 in
theorem aX5_read_L39 {G : zG} {X : zX} {p3 : Nat} (hX : zC G X cX5_read 5 RX5 (some .int) 6) (hp3 : isPl p3)   {res : (Int32 × zM)}  : ∀ (N : Nat) (s : (Int32 × zM)), zfix N (gX5_read_L39 p3) s = some res → Z G X (zQi res) 39 [some (.ref 47), none, none, none, some (.int s.1)] [] s.2 := by
  intro N
  induction N with
  | zero => intro s h; cases h
  | succ N hrc39 =>
    intro s h
    replace h : gX5_read_L39 p3 (zfix N (gX5_read_L39 p3)) s = some res := h
    unfold gX5_read_L39 at h
    refine z_iload hX dX5_read_39 rfl 41 rfl ?_
    refine z_sipush hX dX5_read_41 qs_700 44 rfl ?_
    refine z_icmp_gt hX dX5_read_44 76 47 (by decide) rfl (fun hc => ?_) (fun hc => ?_)
    · rw [if_pos hc] at h
      refine z_iconst hX dX5_read_76 qi_m1 77 rfl ?_
      exact z_ireturn hX dX5_read_77 (zend_i h)
    · rw [if_neg hc] at h
      refine z_aload_n hX dX5_read_47 rfl 48 rfl ?_
      obtain ⟨M15_, hq, h16_⟩ := zcV_of h
      refine z_callV hX vX5_advance lX5_48 dX5_read_48 zs_47 rfl (mX5_advance  hq) (by decide) rfl rfl (Nat.le_of_ble_eq_true rfl) 51 rfl (Qv.to (fun M' hv => ?_))
      subst hv
      refine z_aload_n hX dX5_read_51 rfl 52 rfl ?_
      refine z_getI hX fX5_51 dX5_read_52 zs_47 (by decide) rfl 55 rfl ?_
      refine z_if_ne hX dX5_read_55 61 58 (by decide) rfl (fun hc => ?_) (fun hc => ?_)
      · rw [if_neg hc] at h16_
        refine z_aload_n hX dX5_read_61 rfl 62 rfl ?_
        obtain ⟨v17_, M18_, hq, h19_⟩ := zcIM_of h16_
        refine z_callV hX vX5_readLine lX5_54 dX5_read_62 zs_47 rfl (mX5_readLine  hq) (by decide) rfl rfl (Nat.le_of_ble_eq_true rfl) 65 rfl (Qi.to (fun v' M' hv => ?_))
        cases hv
        refine z_if_ne hX dX5_read_65 70 68 (by decide) rfl (fun hc => ?_) (fun hc => ?_)
        · rw [if_neg hc] at h19_
          refine z_iinc (v := (s.1 + 1)) hX dX5_read_70 rfl (by rfl) (by decide) 73 rfl ?_
          refine z_goto hX dX5_read_73 39 (by decide) ?_
          refine z_mask [true, false, false, false, true] ?_
          have hz := hrc39 _ h19_
          exact hz
        · rw [if_pos hc] at h19_
          refine z_iconst hX dX5_read_68 qi_m1 69 rfl ?_
          exact z_ireturn hX dX5_read_69 (zend_i h19_)
      · rw [if_pos hc] at h16_
        refine z_iload hX dX5_read_58 rfl 60 rfl ?_
        exact z_ireturn hX dX5_read_60 (zend_i h16_)
def gX5_read (x2 : Int32) (p3 : Nat) (M : zM) : Option (Int32 × zM) :=
  zlet (zI M 47 0 0) (fun M1_ => zlet (zI M1_ 47 1 (-1)) (fun M3_ => zlet (zF M3_ 47 3 p3) (fun M5_ => zgP (M5_.2.2 47 3) (fun p7_ => zcV (gX3_clear p7_ M5_) (fun M9_ => zcV (gX7_scan x2 M9_) (fun M11_ => zlet (zI M11_ 47 4 0) (fun M13_ => zfix zFu (gX5_read_L39 p3) (0, M13_))))))))
set_option maxRecDepth 100000 in
set_option maxHeartbeats 2000000 in
theorem mX5_read {G : zG} {x2 : Int32} {p3 : Nat} {M : zM} (hp3 : isPl p3) {res : (Int32 × zM)} (h : gX5_read x2 p3 M = some res) : Ct G 6 tX5_read [.ref 47, .ref 1, .int x2, .ref p3] M (zQi res) := by
  unfold gX5_read at h
  refine Ct.of (y := yX5_read) rfl plX5 (Nat.le_of_ble_eq_true rfl) (fun X hX => ?_)
  replace hX : zC G X cX5_read 5 RX5 (some .int) 6 := hX
  show Z G X _ 0 [some (.ref 47), some (.ref 1), some (.int x2), some (.ref p3), none] [] M
  refine z_aload_n hX dX5_read_0 rfl 1 rfl ?_
  refine z_iconst hX dX5_read_1 qi_0 2 rfl ?_
  refine z_putI hX pX5_33 dX5_read_2 zs_47 (by decide) rfl 5 rfl ?_
  refine z_mem h (fun M1_ h2_ => ?_)
  refine z_aload_n hX dX5_read_5 rfl 6 rfl ?_
  refine z_iconst hX dX5_read_6 qi_m1 7 rfl ?_
  refine z_putI hX pX5_9 dX5_read_7 zs_47 (by decide) rfl 10 rfl ?_
  refine z_mem h2_ (fun M3_ h4_ => ?_)
  refine z_aload_n hX dX5_read_10 rfl 11 rfl ?_
  refine z_aload_n hX dX5_read_11 rfl 12 rfl ?_
  refine z_putR hX pX5_29 (fun _ => ⟨rfl, rfl⟩) dX5_read_12 zs_47 (by decide) rfl 15 rfl ?_
  refine z_mem h4_ (fun M5_ h6_ => ?_)
  refine z_aload_n hX dX5_read_15 rfl 16 rfl ?_
  obtain ⟨p7_, hm, hp7_, h8_⟩ := zgP_of h6_
  refine z_getR hX fX5_29 dX5_read_16 zs_47 (by decide) rfl hm 19 rfl ?_
  obtain ⟨M9_, hq, h10_⟩ := zcV_of h8_
  refine z_callV hX vX3_clear lX5_36 dX5_read_19 (zsP0 hp7_) rfl (mX3_clear hp7_ hq) (by decide) rfl rfl (Nat.le_of_ble_eq_true rfl) 22 rfl (Qv.to (fun M' hv => ?_))
  subst hv
  refine z_aload_n hX dX5_read_22 rfl 23 rfl ?_
  refine z_getF hX fX5_18 dX5_read_23 zs_47 (by decide) rfl 26 rfl ?_
  refine z_aload_n hX dX5_read_26 rfl 27 rfl ?_
  refine z_iload_n hX dX5_read_27 rfl 28 rfl ?_
  obtain ⟨M11_, hq, h12_⟩ := zcV_of h10_
  refine z_callV hX vX7_scan lX5_41 dX5_read_28 zs_50 rfl (mX7_scan  hq) (by decide) rfl rfl (Nat.le_of_ble_eq_true rfl) 31 rfl (Qv.to (fun M' hv => ?_))
  subst hv
  refine z_aload_n hX dX5_read_31 rfl 32 rfl ?_
  refine z_iconst hX dX5_read_32 qi_0 33 rfl ?_
  refine z_putI hX pX5_45 dX5_read_33 zs_47 (by decide) rfl 36 rfl ?_
  refine z_mem h12_ (fun M13_ h14_ => ?_)
  refine z_iconst hX dX5_read_36 qi_0 37 rfl ?_
  refine z_istore hX dX5_read_37 (by decide) 39 rfl ?_
  refine z_mask [true, false, false, false, true] ?_
  have hz := aX5_read_L39 hX hp3 _ _ h14_
  exact hz
def gX4_clear (M : zM) : Option zM :=
  zlet (zI M 89 0 0) (fun M1_ => zlet (zI M1_ 89 1 (-1)) (fun M3_ => some M3_))
set_option maxRecDepth 100000 in
set_option maxHeartbeats 2000000 in
theorem mX4_clear {G : zG}  {M : zM}  {res : zM} (h : gX4_clear M = some res) : Ct G 1 tX4_clear [.ref 89] M (zQv res) := by
  unfold gX4_clear at h
  refine Ct.of (y := yX4_clear) rfl plX4 (Nat.le_of_ble_eq_true rfl) (fun X hX => ?_)
  replace hX : zC G X cX4_clear 1 RX4 none 1 := hX
  show Z G X _ 0 [some (.ref 89)] [] M
  refine z_aload_n hX dX4_clear_0 rfl 1 rfl ?_
  refine z_iconst hX dX4_clear_1 qi_0 2 rfl ?_
  refine z_putI hX pX4_32 dX4_clear_2 zs_89 (by decide) rfl 5 rfl ?_
  refine z_mem h (fun M1_ h2_ => ?_)
  refine z_aload_n hX dX4_clear_5 rfl 6 rfl ?_
  refine z_iconst hX dX4_clear_6 qi_m1 7 rfl ?_
  refine z_putI hX pX4_9 dX4_clear_7 zs_89 (by decide) rfl 10 rfl ?_
  refine z_mem h2_ (fun M3_ h4_ => ?_)
  exact z_return hX dX4_clear_10 (zend_v h4_)
def gX9_text (x1 : Int32) (M : zM) : Option (Int32 × zM) :=
  (if x1 < 0 then some ((-2), M)
  else (if x1 ≤ (M.1 0 1) then zlet (zI M 0 1 0) (fun M1_ => zgP (M1_.2.2 0 3) (fun p3_ => zcIM (gX5_read x1 p3_ M1_) (fun v5_ M6_ => zlet (zI M6_ 0 5 (M6_.1 47 0)) (fun M8_ => zlet (zI M8_ 0 6 (M8_.1 47 1)) (fun M10_ => (if 0 ≤ v5_ then zgP (M10_.2.2 0 3) (fun p12_ => zgP (M10_.2.2 0 2) (fun p14_ => zlet (zF M10_ 0 3 p14_) (fun M16_ => zlet (zF M16_ 0 2 p12_) (fun M18_ => zgP (M18_.2.2 0 2) (fun p20_ => zcV (gX8_begin 55 p20_ M18_) (fun M22_ => zlet (zI M22_ 0 10 0) (fun M24_ => zlet (zI M24_ 85 0 0) (fun M26_ => zcV (gX4_clear M26_) (fun M28_ => some (v5_, M28_))))))))))
  else some ((-1), M10_)))))))
  else some ((-2), M)))
set_option maxRecDepth 100000 in
set_option maxHeartbeats 2000000 in
theorem mX9_text {G : zG} {x1 : Int32} {M : zM}  {res : (Int32 × zM)} (h : gX9_text x1 M = some res) : Ct G 7 tX9_text [.ref 0, .int x1] M (zQi res) := by
  unfold gX9_text at h
  refine Ct.of (y := yX9_text) rfl plX9 (Nat.le_of_ble_eq_true rfl) (fun X hX => ?_)
  replace hX : zC G X cX9_text 4 RX9 (some .int) 7 := hX
  show Z G X _ 0 [some (.ref 0), some (.int x1), none, none] [] M
  refine z_iload_n hX dX9_text_0 rfl 1 rfl ?_
  refine z_if_lt hX dX9_text_1 12 4 (by decide) rfl (fun hc => ?_) (fun hc => ?_)
  · rw [if_pos hc] at h
    refine z_bipush hX dX9_text_12 qb_m2 14 rfl ?_
    exact z_ireturn hX dX9_text_14 (zend_i h)
  · rw [if_neg hc] at h
    refine z_iload_n hX dX9_text_4 rfl 5 rfl ?_
    refine z_aload_n hX dX9_text_5 rfl 6 rfl ?_
    refine z_getI hX fX9_82 dX9_text_6 zs_0 (by decide) rfl 9 rfl ?_
    refine z_icmp_le hX dX9_text_9 15 12 (by decide) rfl (fun hc => ?_) (fun hc => ?_)
    · rw [if_pos hc] at h
      refine z_aload_n hX dX9_text_15 rfl 16 rfl ?_
      refine z_iconst hX dX9_text_16 qi_0 17 rfl ?_
      refine z_putI hX pX9_82 dX9_text_17 zs_0 (by decide) rfl 20 rfl ?_
      refine z_mem h (fun M1_ h2_ => ?_)
      refine z_aload_n hX dX9_text_20 rfl 21 rfl ?_
      refine z_getF hX fX9_30 dX9_text_21 zs_0 (by decide) rfl 24 rfl ?_
      refine z_aload_n hX dX9_text_24 rfl 25 rfl ?_
      refine z_getF hX fX9_11 dX9_text_25 zs_0 (by decide) rfl 28 rfl ?_
      refine z_iload_n hX dX9_text_28 rfl 29 rfl ?_
      refine z_aload_n hX dX9_text_29 rfl 30 rfl ?_
      obtain ⟨p3_, hm, hp3_, h4_⟩ := zgP_of h2_
      refine z_getR hX fX9_22 dX9_text_30 zs_0 (by decide) rfl hm 33 rfl ?_
      obtain ⟨v5_, M6_, hq, h7_⟩ := zcIM_of h4_
      refine z_callV hX vX5_read lX9_89 dX9_text_33 zs_47 rfl (mX5_read hp3_ hq) (by decide) rfl rfl (Nat.le_of_ble_eq_true rfl) 36 rfl (Qi.to (fun v' M' hv => ?_))
      cases hv
      refine z_istore_n hX dX9_text_36 (by decide) 37 rfl ?_
      refine z_aload_n hX dX9_text_37 rfl 38 rfl ?_
      refine z_aload_n hX dX9_text_38 rfl 39 rfl ?_
      refine z_getF hX fX9_30 dX9_text_39 zs_0 (by decide) rfl 42 rfl ?_
      refine z_getI hX fX9_93 dX9_text_42 zs_47 (by decide) rfl 45 rfl ?_
      refine z_putI hX pX9_96 dX9_text_45 zs_0 (by decide) rfl 48 rfl ?_
      refine z_mem h7_ (fun M8_ h9_ => ?_)
      refine z_aload_n hX dX9_text_48 rfl 49 rfl ?_
      refine z_aload_n hX dX9_text_49 rfl 50 rfl ?_
      refine z_getF hX fX9_30 dX9_text_50 zs_0 (by decide) rfl 53 rfl ?_
      refine z_getI hX fX9_99 dX9_text_53 zs_47 (by decide) rfl 56 rfl ?_
      refine z_putI hX pX9_34 dX9_text_56 zs_0 (by decide) rfl 59 rfl ?_
      refine z_mem h9_ (fun M10_ h11_ => ?_)
      refine z_iload_n hX dX9_text_59 rfl 60 rfl ?_
      refine z_if_ge hX dX9_text_60 65 63 (by decide) rfl (fun hc => ?_) (fun hc => ?_)
      · rw [if_pos hc] at h11_
        refine z_aload_n hX dX9_text_65 rfl 66 rfl ?_
        obtain ⟨p12_, hm, hp12_, h13_⟩ := zgP_of h11_
        refine z_getR hX fX9_22 dX9_text_66 zs_0 (by decide) rfl hm 69 rfl ?_
        refine z_astore_n hX dX9_text_69 (by decide) 70 rfl ?_
        refine z_aload_n hX dX9_text_70 rfl 71 rfl ?_
        refine z_aload_n hX dX9_text_71 rfl 72 rfl ?_
        obtain ⟨p14_, hm, hp14_, h15_⟩ := zgP_of h13_
        refine z_getR hX fX9_18 dX9_text_72 zs_0 (by decide) rfl hm 75 rfl ?_
        refine z_putR hX pX9_22 (fun _ => ⟨rfl, rfl⟩) dX9_text_75 zs_0 (by decide) rfl 78 rfl ?_
        refine z_mem h15_ (fun M16_ h17_ => ?_)
        refine z_aload_n hX dX9_text_78 rfl 79 rfl ?_
        refine z_aload_n hX dX9_text_79 rfl 80 rfl ?_
        refine z_putR hX pX9_18 (fun _ => ⟨rfl, rfl⟩) dX9_text_80 zs_0 (by decide) rfl 83 rfl ?_
        refine z_mem h17_ (fun M18_ h19_ => ?_)
        refine z_aload_n hX dX9_text_83 rfl 84 rfl ?_
        refine z_getF hX fX9_41 dX9_text_84 zs_0 (by decide) rfl 87 rfl ?_
        refine z_aload_n hX dX9_text_87 rfl 88 rfl ?_
        obtain ⟨p20_, hm, hp20_, h21_⟩ := zgP_of h19_
        refine z_getR hX fX9_18 dX9_text_88 zs_0 (by decide) rfl hm 91 rfl ?_
        obtain ⟨M22_, hq, h23_⟩ := zcV_of h21_
        refine z_callV hX vX8_begin lX9_100 dX9_text_91 zs_55 rfl (mX8_begin isW_55 hp20_ hq) (by decide) rfl rfl (Nat.le_of_ble_eq_true rfl) 94 rfl (Qv.to (fun M' hv => ?_))
        subst hv
        refine z_aload_n hX dX9_text_94 rfl 95 rfl ?_
        refine z_iconst hX dX9_text_95 qi_0 96 rfl ?_
        refine z_putZ hX pX9_103 dX9_text_96 zs_0 (by decide) rfl (by decide) 99 rfl ?_
        refine z_mem h23_ (fun M24_ h25_ => ?_)
        refine z_aload_n hX dX9_text_99 rfl 100 rfl ?_
        refine z_getF hX fX9_54 dX9_text_100 zs_0 (by decide) rfl 103 rfl ?_
        refine z_iconst hX dX9_text_103 qi_0 104 rfl ?_
        refine z_putI hX pX9_107 dX9_text_104 zs_85 (by decide) rfl 107 rfl ?_
        refine z_mem h25_ (fun M26_ h27_ => ?_)
        refine z_aload_n hX dX9_text_107 rfl 108 rfl ?_
        refine z_getF hX fX9_61 dX9_text_108 zs_0 (by decide) rfl 111 rfl ?_
        obtain ⟨M28_, hq, h29_⟩ := zcV_of h27_
        refine z_callV hX vX4_clear lX9_110 dX9_text_111 zs_89 rfl (mX4_clear  hq) (by decide) rfl rfl (Nat.le_of_ble_eq_true rfl) 114 rfl (Qv.to (fun M' hv => ?_))
        subst hv
        refine z_iload_n hX dX9_text_114 rfl 115 rfl ?_
        exact z_ireturn hX dX9_text_115 (zend_i h29_)
      · rw [if_neg hc] at h11_
        refine z_iconst hX dX9_text_63 qi_m1 64 rfl ?_
        exact z_ireturn hX dX9_text_64 (zend_i h11_)
    · rw [if_neg hc] at h
      refine z_bipush hX dX9_text_12 qb_m2 14 rfl ?_
      exact z_ireturn hX dX9_text_14 (zend_i h)
def gX9_fault (x1 : Int32) (M : zM) : Option Int32 :=
  (if x1 = 0 then some (M.1 0 5)
  else (if x1 = 1 then some (M.1 0 6)
  else some (-1)))
set_option maxRecDepth 100000 in
set_option maxHeartbeats 2000000 in
theorem mX9_fault {G : zG} {x1 : Int32} {M : zM}  {res : Int32} (h : gX9_fault x1 M = some res) : Ct G 1 tX9_fault [.ref 0, .int x1] M (zQip M res) := by
  unfold gX9_fault at h
  refine Ct.of (y := yX9_fault) rfl plX9 (Nat.le_of_ble_eq_true rfl) (fun X hX => ?_)
  replace hX : zC G X cX9_fault 2 RX9 (some .int) 1 := hX
  show Z G X _ 0 [some (.ref 0), some (.int x1)] [] M
  refine z_iload_n hX dX9_fault_0 rfl 1 rfl ?_
  refine z_if_ne hX dX9_fault_1 9 4 (by decide) rfl (fun hc => ?_) (fun hc => ?_)
  · rw [if_neg hc] at h
    refine z_iload_n hX dX9_fault_9 rfl 10 rfl ?_
    refine z_iconst hX dX9_fault_10 qi_1 11 rfl ?_
    refine z_icmp_ne hX dX9_fault_11 21 14 (by decide) rfl (fun hc => ?_) (fun hc => ?_)
    · rw [if_neg hc] at h
      refine z_iconst hX dX9_fault_21 qi_m1 22 rfl ?_
      exact z_ireturn hX dX9_fault_22 (zend_ip h)
    · rw [if_pos hc] at h
      refine z_aload_n hX dX9_fault_14 rfl 15 rfl ?_
      refine z_getI hX fX9_34 dX9_fault_15 zs_0 (by decide) rfl 18 rfl ?_
      refine z_goto hX dX9_fault_18 22 (by decide) ?_
      exact z_ireturn hX dX9_fault_22 (zend_ip h)
  · rw [if_pos hc] at h
    refine z_aload_n hX dX9_fault_4 rfl 5 rfl ?_
    refine z_getI hX fX9_96 dX9_fault_5 zs_0 (by decide) rfl 8 rfl ?_
    exact z_ireturn hX dX9_fault_8 (zend_ip h)
def gX9_named (x1 : Int32) (x2 : Int32) (M : zM) : Option Int32 :=
  (if x1 = 0 then zgP (M.2.2 0 2) (fun p7_ => zgP (M.2.2 0 2) (fun p9_ => zcI (gX9_find (p7_ + 1) 6 (M.1 p9_ 0) x2 M) (fun v11_ => some v11_)))
  else (if x1 = 1 then zgP (M.2.2 0 2) (fun p1_ => zgP (M.2.2 0 2) (fun p3_ => zcI (gX9_find (p1_ + 5) 8 (M.1 p3_ 5) x2 M) (fun v5_ => some v5_)))
  else some (-1)))
set_option maxRecDepth 100000 in
set_option maxHeartbeats 2000000 in
theorem mX9_named {G : zG} {x1 : Int32} {x2 : Int32} {M : zM}  {res : Int32} (h : gX9_named x1 x2 M = some res) : Ct G 2 tX9_named [.ref 0, .int x1, .int x2] M (zQip M res) := by
  unfold gX9_named at h
  refine Ct.of (y := yX9_named) rfl plX9 (Nat.le_of_ble_eq_true rfl) (fun X hX => ?_)
  replace hX : zC G X cX9_named 3 RX9 (some .int) 2 := hX
  show Z G X _ 0 [some (.ref 0), some (.int x1), some (.int x2)] [] M
  refine z_iload_n hX dX9_named_0 rfl 1 rfl ?_
  refine z_if_ne hX dX9_named_1 23 4 (by decide) rfl (fun hc => ?_) (fun hc => ?_)
  · rw [if_neg hc] at h
    refine z_iload_n hX dX9_named_23 rfl 24 rfl ?_
    refine z_iconst hX dX9_named_24 qi_1 25 rfl ?_
    refine z_icmp_ne hX dX9_named_25 49 28 (by decide) rfl (fun hc => ?_) (fun hc => ?_)
    · rw [if_neg hc] at h
      refine z_iconst hX dX9_named_49 qi_m1 50 rfl ?_
      exact z_ireturn hX dX9_named_50 (zend_ip h)
    · rw [if_pos hc] at h
      refine z_aload_n hX dX9_named_28 rfl 29 rfl ?_
      obtain ⟨p1_, hm, hp1_, h2_⟩ := zgP_of h
      refine z_getR hX fX9_18 dX9_named_29 zs_0 (by decide) rfl hm 32 rfl ?_
      refine z_getF hX fX9_123 dX9_named_32 (zsP0 hp1_) (by decide) rfl 35 rfl ?_
      refine z_aload_n hX dX9_named_35 rfl 36 rfl ?_
      obtain ⟨p3_, hm, hp3_, h4_⟩ := zgP_of h2_
      refine z_getR hX fX9_18 dX9_named_36 zs_0 (by decide) rfl hm 39 rfl ?_
      refine z_getI hX fX9_126 dX9_named_39 (zsP0 hp3_) (by decide) rfl 42 rfl ?_
      refine z_iload_n hX dX9_named_42 rfl 43 rfl ?_
      obtain ⟨v5_, hq, h6_⟩ := zcI_of h4_
      refine z_callS hX vX9_find rfl lX9_119 dX9_named_43 (mX9_find (zsP5 hp1_) (by decide) hq) (by decide) rfl rfl (Nat.le_of_ble_eq_true rfl) 46 rfl (Qi.to (fun v' M' hv => ?_))
      obtain ⟨rfl, rfl⟩ := hv
      refine z_goto hX dX9_named_46 50 (by decide) ?_
      exact z_ireturn hX dX9_named_50 (zend_ip h6_)
  · rw [if_pos hc] at h
    refine z_aload_n hX dX9_named_4 rfl 5 rfl ?_
    obtain ⟨p7_, hm, hp7_, h8_⟩ := zgP_of h
    refine z_getR hX fX9_18 dX9_named_5 zs_0 (by decide) rfl hm 8 rfl ?_
    refine z_getF hX fX9_113 dX9_named_8 (zsP0 hp7_) (by decide) rfl 11 rfl ?_
    refine z_aload_n hX dX9_named_11 rfl 12 rfl ?_
    obtain ⟨p9_, hm, hp9_, h10_⟩ := zgP_of h8_
    refine z_getR hX fX9_18 dX9_named_12 zs_0 (by decide) rfl hm 15 rfl ?_
    refine z_getI hX fX9_116 dX9_named_15 (zsP0 hp9_) (by decide) rfl 18 rfl ?_
    refine z_iload_n hX dX9_named_18 rfl 19 rfl ?_
    obtain ⟨v11_, hq, h12_⟩ := zcI_of h10_
    refine z_callS hX vX9_find rfl lX9_119 dX9_named_19 (mX9_find (zsP1 hp7_) (by decide) hq) (by decide) rfl rfl (Nat.le_of_ble_eq_true rfl) 22 rfl (Qi.to (fun v' M' hv => ?_))
    obtain ⟨rfl, rfl⟩ := hv
    exact z_ireturn hX dX9_named_22 (zend_ip h12_)
def gX9_isThing (x1 : Int32) (M : zM) : Option Int32 :=
  (if x1 < 0 then some 0
  else zgP (M.2.2 0 2) (fun p1_ => (if (M.1 p1_ 5) ≤ x1 then some 0
  else some 1)))
set_option maxRecDepth 100000 in
set_option maxHeartbeats 2000000 in
theorem mX9_isThing {G : zG} {x1 : Int32} {M : zM}  {res : Int32} (h : gX9_isThing x1 M = some res) : Ct G 1 tX9_isThing [.ref 0, .int x1] M (zQip M res) := by
  unfold gX9_isThing at h
  refine Ct.of (y := yX9_isThing) rfl plX9 (Nat.le_of_ble_eq_true rfl) (fun X hX => ?_)
  replace hX : zC G X cX9_isThing 2 RX9 (some .boolean) 1 := hX
  show Z G X _ 0 [some (.ref 0), some (.int x1)] [] M
  refine z_iload_n hX dX9_isThing_0 rfl 1 rfl ?_
  refine z_if_lt hX dX9_isThing_1 19 4 (by decide) rfl (fun hc => ?_) (fun hc => ?_)
  · rw [if_pos hc] at h
    refine z_iconst hX dX9_isThing_19 qi_0 20 rfl ?_
    exact z_zreturn hX dX9_isThing_20 (by decide) (zend_ip h)
  · rw [if_neg hc] at h
    refine z_iload_n hX dX9_isThing_4 rfl 5 rfl ?_
    refine z_aload_n hX dX9_isThing_5 rfl 6 rfl ?_
    obtain ⟨p1_, hm, hp1_, h2_⟩ := zgP_of h
    refine z_getR hX fX9_18 dX9_isThing_6 zs_0 (by decide) rfl hm 9 rfl ?_
    refine z_getI hX fX9_126 dX9_isThing_9 (zsP0 hp1_) (by decide) rfl 12 rfl ?_
    refine z_icmp_ge hX dX9_isThing_12 19 15 (by decide) rfl (fun hc => ?_) (fun hc => ?_)
    · rw [if_pos hc] at h2_
      refine z_iconst hX dX9_isThing_19 qi_0 20 rfl ?_
      exact z_zreturn hX dX9_isThing_20 (by decide) (zend_ip h2_)
    · rw [if_neg hc] at h2_
      refine z_iconst hX dX9_isThing_15 qi_1 16 rfl ?_
      refine z_goto hX dX9_isThing_16 20 (by decide) ?_
      exact z_zreturn hX dX9_isThing_20 (by decide) (zend_ip h2_)
def gX8_goerFor (w : Nat) (x1 : Int32) (M : zM) : Option Int32 :=
  zgP (M.2.2 w 0) (fun p1_ => zcI (gX9_find (w + 5) 6 (M.1 p1_ 0) x1 M) (fun v3_ => (if 0 ≤ v3_ then some v3_
  else some (-2))))
set_option maxRecDepth 100000 in
set_option maxHeartbeats 2000000 in
theorem mX8_goerFor {G : zG} {w : Nat} {x1 : Int32} {M : zM} (hw : isW w) {res : Int32} (h : gX8_goerFor w x1 M = some res) : Ct G 2 tX8_goerFor [.ref w, .int x1] M (zQip M res) := by
  unfold gX8_goerFor at h
  refine Ct.of (y := yX8_goerFor) rfl plX8 (Nat.le_of_ble_eq_true rfl) (fun X hX => ?_)
  replace hX : zC G X cX8_goerFor 3 RX8 (some .int) 2 := hX
  show Z G X _ 0 [some (.ref w), some (.int x1), none] [] M
  refine z_aload_n hX dX8_goerFor_0 rfl 1 rfl ?_
  refine z_getF hX fX8_24 dX8_goerFor_1 (zsW0 hw) (by decide) rfl 4 rfl ?_
  refine z_aload_n hX dX8_goerFor_4 rfl 5 rfl ?_
  obtain ⟨p1_, hm, hp1_, h2_⟩ := zgP_of h
  refine z_getR hX fX8_40 dX8_goerFor_5 (zsW0 hw) (by decide) rfl hm 8 rfl ?_
  refine z_getI hX fX8_83 dX8_goerFor_8 (zsP0 hp1_) (by decide) rfl 11 rfl ?_
  refine z_iload_n hX dX8_goerFor_11 rfl 12 rfl ?_
  obtain ⟨v3_, hq, h4_⟩ := zcI_of h2_
  refine z_callSN (host := "ColdFeet") hX vX9_find (by decide +kernel) dX8_goerFor_12 (mX9_find (zsW5 hw) (by decide) hq) (by decide) rfl rfl (Nat.le_of_ble_eq_true rfl) 15 rfl (Qi.to (fun v' M' hv => ?_))
  obtain ⟨rfl, rfl⟩ := hv
  refine z_istore_n hX dX8_goerFor_15 (by decide) 16 rfl ?_
  refine z_iload_n hX dX8_goerFor_16 rfl 17 rfl ?_
  refine z_if_ge hX dX8_goerFor_17 25 20 (by decide) rfl (fun hc => ?_) (fun hc => ?_)
  · rw [if_pos hc] at h4_
    refine z_iload_n hX dX8_goerFor_25 rfl 26 rfl ?_
    exact z_ireturn hX dX8_goerFor_26 (zend_ip h4_)
  · rw [if_neg hc] at h4_
    refine z_bipush hX dX8_goerFor_20 qb_m2 22 rfl ?_
    refine z_goto hX dX8_goerFor_22 26 (by decide) ?_
    exact z_ireturn hX dX8_goerFor_26 (zend_ip h4_)
def gX9_thing (x1 : Int32) (x2 : Int32) (M : zM) : Option Int32 :=
  zcI (gX9_isThing x1 M) (fun v1_ => (if v1_ = 0 then some (-1)
  else (if x2 = 0 then zgP (M.2.2 0 2) (fun p3_ => zg (zok x1 8) (some (M.1 (p3_ + 6) (x1 : Int32).toNatClampNeg)))
  else if x2 = 1 then zgP (M.2.2 0 2) (fun p6_ => zg (zok x1 8) (some (M.1 (p6_ + 7) (x1 : Int32).toNatClampNeg)))
  else if x2 = 2 then zg (zok x1 8) (some (M.1 64 (x1 : Int32).toNatClampNeg))
  else if x2 = 3 then zg (zok x1 8) (some (M.1 63 (x1 : Int32).toNatClampNeg))
  else if x2 = 4 then zcI (gX8_goerFor 55 x1 M) (fun v11_ => some v11_)
  else some (-1))))
set_option maxRecDepth 100000 in
set_option maxHeartbeats 2000000 in
theorem mX9_thing {G : zG} {x1 : Int32} {x2 : Int32} {M : zM}  {res : Int32} (h : gX9_thing x1 x2 M = some res) : Ct G 3 tX9_thing [.ref 0, .int x1, .int x2] M (zQip M res) := by
  unfold gX9_thing at h
  refine Ct.of (y := yX9_thing) rfl plX9 (Nat.le_of_ble_eq_true rfl) (fun X hX => ?_)
  replace hX : zC G X cX9_thing 3 RX9 (some .int) 3 := hX
  show Z G X _ 0 [some (.ref 0), some (.int x1), some (.int x2)] [] M
  refine z_aload_n hX dX9_thing_0 rfl 1 rfl ?_
  refine z_iload_n hX dX9_thing_1 rfl 2 rfl ?_
  obtain ⟨v1_, hq, h2_⟩ := zcI_of h
  refine z_callV hX vX9_isThing lX9_174 dX9_thing_2 zs_0 rfl (mX9_isThing  hq) (by decide) rfl rfl (Nat.le_of_ble_eq_true rfl) 5 rfl (Qi.to (fun v' M' hv => ?_))
  obtain ⟨rfl, rfl⟩ := hv
  refine z_if_ne hX dX9_thing_5 10 8 (by decide) rfl (fun hc => ?_) (fun hc => ?_)
  · rw [if_neg hc] at h2_
    refine z_iload_n hX dX9_thing_10 rfl 11 rfl ?_
    by_cases hc0 : x2 = 0
    · rw [if_pos hc0] at h2_
      refine z_tabIn hX dX9_thing_11 (by rw [hc0]; decide) (by rw [hc0]; decide) (by rw [hc0]; rfl) 44 (by decide) ?_
      refine z_aload_n hX dX9_thing_44 rfl 45 rfl ?_
      obtain ⟨p3_, hm, hp3_, h4_⟩ := zgP_of h2_
      refine z_getR hX fX9_18 dX9_thing_45 zs_0 (by decide) rfl hm 48 rfl ?_
      refine z_getF hX fX9_177 dX9_thing_48 (zsP0 hp3_) (by decide) rfl 51 rfl ?_
      refine z_iload_n hX dX9_thing_51 rfl 52 rfl ?_
      obtain ⟨hb, h5_⟩ := zgd h4_
      refine z_iald hX dX9_thing_52 (zsP6 hp3_) (zok_in hb) 53 rfl ?_
      exact z_ireturn hX dX9_thing_53 (zend_ip h5_)
    rw [if_neg hc0] at h2_
    by_cases hc1 : x2 = 1
    · rw [if_pos hc1] at h2_
      refine z_tabIn hX dX9_thing_11 (by rw [hc1]; decide) (by rw [hc1]; decide) (by rw [hc1]; rfl) 54 (by decide) ?_
      refine z_aload_n hX dX9_thing_54 rfl 55 rfl ?_
      obtain ⟨p6_, hm, hp6_, h7_⟩ := zgP_of h2_
      refine z_getR hX fX9_18 dX9_thing_55 zs_0 (by decide) rfl hm 58 rfl ?_
      refine z_getF hX fX9_180 dX9_thing_58 (zsP0 hp6_) (by decide) rfl 61 rfl ?_
      refine z_iload_n hX dX9_thing_61 rfl 62 rfl ?_
      obtain ⟨hb, h8_⟩ := zgd h7_
      refine z_iald hX dX9_thing_62 (zsP7 hp6_) (zok_in hb) 63 rfl ?_
      exact z_ireturn hX dX9_thing_63 (zend_ip h8_)
    rw [if_neg hc1] at h2_
    by_cases hc2 : x2 = 2
    · rw [if_pos hc2] at h2_
      refine z_tabIn hX dX9_thing_11 (by rw [hc2]; decide) (by rw [hc2]; decide) (by rw [hc2]; rfl) 64 (by decide) ?_
      refine z_aload_n hX dX9_thing_64 rfl 65 rfl ?_
      refine z_getF hX fX9_41 dX9_thing_65 zs_0 (by decide) rfl 68 rfl ?_
      refine z_getF hX fX9_183 dX9_thing_68 zs_55 (by decide) rfl 71 rfl ?_
      refine z_iload_n hX dX9_thing_71 rfl 72 rfl ?_
      obtain ⟨hb, h9_⟩ := zgd h2_
      refine z_iald hX dX9_thing_72 zs_64 (zok_in hb) 73 rfl ?_
      exact z_ireturn hX dX9_thing_73 (zend_ip h9_)
    rw [if_neg hc2] at h2_
    by_cases hc3 : x2 = 3
    · rw [if_pos hc3] at h2_
      refine z_tabIn hX dX9_thing_11 (by rw [hc3]; decide) (by rw [hc3]; decide) (by rw [hc3]; rfl) 74 (by decide) ?_
      refine z_aload_n hX dX9_thing_74 rfl 75 rfl ?_
      refine z_getF hX fX9_41 dX9_thing_75 zs_0 (by decide) rfl 78 rfl ?_
      refine z_getF hX fX9_186 dX9_thing_78 zs_55 (by decide) rfl 81 rfl ?_
      refine z_iload_n hX dX9_thing_81 rfl 82 rfl ?_
      obtain ⟨hb, h10_⟩ := zgd h2_
      refine z_iald hX dX9_thing_82 zs_63 (zok_in hb) 83 rfl ?_
      exact z_ireturn hX dX9_thing_83 (zend_ip h10_)
    rw [if_neg hc3] at h2_
    by_cases hc4 : x2 = 4
    · rw [if_pos hc4] at h2_
      refine z_tabIn hX dX9_thing_11 (by rw [hc4]; decide) (by rw [hc4]; decide) (by rw [hc4]; rfl) 84 (by decide) ?_
      refine z_aload_n hX dX9_thing_84 rfl 85 rfl ?_
      refine z_getF hX fX9_41 dX9_thing_85 zs_0 (by decide) rfl 88 rfl ?_
      refine z_iload_n hX dX9_thing_88 rfl 89 rfl ?_
      obtain ⟨v11_, hq, h12_⟩ := zcI_of h2_
      refine z_callV hX vX8_goerFor lX9_189 dX9_thing_89 zs_55 rfl (mX8_goerFor isW_55 hq) (by decide) rfl rfl (Nat.le_of_ble_eq_true rfl) 92 rfl (Qi.to (fun v' M' hv => ?_))
      obtain ⟨rfl, rfl⟩ := hv
      exact z_ireturn hX dX9_thing_92 (zend_ip h12_)
    rw [if_neg hc4] at h2_
    have hout : (x2 : Int32).toInt < 0 ∨ 4 < (x2 : Int32).toInt := zsw_out (fun k h1 h2 => by
      have hk : k = 0 ∨ k = 1 ∨ k = 2 ∨ k = 3 ∨ k = 4 := by omega
      rcases hk with rfl | rfl | rfl | rfl | rfl
      · exact hc0
      · exact hc1
      · exact hc2
      · exact hc3
      · exact hc4)
    refine z_tabOut hX dX9_thing_11 hout 93 (by decide) ?_
    refine z_iconst hX dX9_thing_93 qi_m1 94 rfl ?_
    exact z_ireturn hX dX9_thing_94 (zend_ip h2_)
  · rw [if_pos hc] at h2_
    refine z_iconst hX dX9_thing_8 qi_m1 9 rfl ?_
    exact z_ireturn hX dX9_thing_9 (zend_ip h2_)
def gX9_isMan (x1 : Int32) (M : zM) : Option Int32 :=
  (if x1 < 0 then some 0
  else zgP (M.2.2 0 2) (fun p1_ => (if (M.1 p1_ 0) ≤ x1 then some 0
  else some 1)))
set_option maxRecDepth 100000 in
set_option maxHeartbeats 2000000 in
theorem mX9_isMan {G : zG} {x1 : Int32} {M : zM}  {res : Int32} (h : gX9_isMan x1 M = some res) : Ct G 1 tX9_isMan [.ref 0, .int x1] M (zQip M res) := by
  unfold gX9_isMan at h
  refine Ct.of (y := yX9_isMan) rfl plX9 (Nat.le_of_ble_eq_true rfl) (fun X hX => ?_)
  replace hX : zC G X cX9_isMan 2 RX9 (some .boolean) 1 := hX
  show Z G X _ 0 [some (.ref 0), some (.int x1)] [] M
  refine z_iload_n hX dX9_isMan_0 rfl 1 rfl ?_
  refine z_if_lt hX dX9_isMan_1 19 4 (by decide) rfl (fun hc => ?_) (fun hc => ?_)
  · rw [if_pos hc] at h
    refine z_iconst hX dX9_isMan_19 qi_0 20 rfl ?_
    exact z_zreturn hX dX9_isMan_20 (by decide) (zend_ip h)
  · rw [if_neg hc] at h
    refine z_iload_n hX dX9_isMan_4 rfl 5 rfl ?_
    refine z_aload_n hX dX9_isMan_5 rfl 6 rfl ?_
    obtain ⟨p1_, hm, hp1_, h2_⟩ := zgP_of h
    refine z_getR hX fX9_18 dX9_isMan_6 zs_0 (by decide) rfl hm 9 rfl ?_
    refine z_getI hX fX9_116 dX9_isMan_9 (zsP0 hp1_) (by decide) rfl 12 rfl ?_
    refine z_icmp_ge hX dX9_isMan_12 19 15 (by decide) rfl (fun hc => ?_) (fun hc => ?_)
    · rw [if_pos hc] at h2_
      refine z_iconst hX dX9_isMan_19 qi_0 20 rfl ?_
      exact z_zreturn hX dX9_isMan_20 (by decide) (zend_ip h2_)
    · rw [if_neg hc] at h2_
      refine z_iconst hX dX9_isMan_15 qi_1 16 rfl ?_
      refine z_goto hX dX9_isMan_16 20 (by decide) ?_
      exact z_zreturn hX dX9_isMan_20 (by decide) (zend_ip h2_)
def gX8_setFacts_J111 (w : Nat) (r_4 : Nat) (q0 : Nat) (y1 : Int32) (y2 : Int64) (M : zM) : Option zM :=
  zg (zok y1 7) (zlet (zJ M (q0 + 19) (y1 : Int32).toNatClampNeg y2) (fun M22_ => zlet (zJ M22_ (r_4 + 19) (6 : Int32).toNatClampNeg (((M22_.1 w 10) : Int32).toInt64)) (fun M24_ => some M24_)))
set_option maxRecDepth 100000 in
set_option maxHeartbeats 2000000 in
theorem aX8_setFacts_J111 {G : zG} {X : zX} {w : Nat} {r_4 : Nat} {q0 : Nat} {y1 : Int32} {y2 : Int64} (hX : zC G X cX8_setFacts 5 RX8 none 1) (hw : isW w) (hr_4 : isPl r_4) (hq0 : isPl q0)  {M : zM} {res : zM}  (h : gX8_setFacts_J111 w r_4 q0 y1 y2 M = some res) : Z G X (zQv res) 111 [some (.ref w), none, none, none, some (.ref (r_4 + 19))] [.long y2, .int y1, .ref (q0 + 19)] M := by
  unfold gX8_setFacts_J111 at h
  obtain ⟨hb, h21_⟩ := zgd h
  refine z_last hX dX8_setFacts_111 (zsP19 hq0) (zok_in hb) 112 rfl ?_
  refine z_mem h21_ (fun M22_ h23_ => ?_)
  refine z_aload hX dX8_setFacts_112 rfl 114 rfl ?_
  refine z_bipush hX dX8_setFacts_114 qb_6 116 rfl ?_
  refine z_aload_n hX dX8_setFacts_116 rfl 117 rfl ?_
  refine z_getI hX fX8_52 dX8_setFacts_117 (zsW0 hw) (by decide) rfl 120 rfl ?_
  refine z_i2l hX dX8_setFacts_120 121 rfl ?_
  refine z_last hX dX8_setFacts_121 (zsP19 hr_4) (zok_in (by decide)) 122 rfl ?_
  refine z_mem h23_ (fun M24_ h25_ => ?_)
  exact z_return hX dX8_setFacts_122 (zend_v h25_)
def gX8_setFacts_J110 (w : Nat) (r_4 : Nat) (q0 : Nat) (y1 : Int32) (M : zM) : Option zM :=
  gX8_setFacts_J111 w r_4 q0 y1 0 M
set_option maxRecDepth 100000 in
set_option maxHeartbeats 2000000 in
theorem aX8_setFacts_J110 {G : zG} {X : zX} {w : Nat} {r_4 : Nat} {q0 : Nat} {y1 : Int32} (hX : zC G X cX8_setFacts 5 RX8 none 1) (hw : isW w) (hr_4 : isPl r_4) (hq0 : isPl q0)  {M : zM} {res : zM}  (h : gX8_setFacts_J110 w r_4 q0 y1 M = some res) : Z G X (zQv res) 110 [some (.ref w), none, none, none, some (.ref (r_4 + 19))] [.int y1, .ref (q0 + 19)] M := by
  unfold gX8_setFacts_J110 at h
  refine z_lconst hX dX8_setFacts_110 ql_0 111 rfl ?_
  refine z_mask [true, false, false, false, true] ?_
  have hz := aX8_setFacts_J111 hX hw hr_4 hq0 h
  exact hz
def gX8_setFacts (w : Nat) (x1 : Int32) (x2 : Int32) (x3 : Int32) (M : zM) : Option zM :=
  (if x1 < 0 then some M
  else (if x1 < 6 then zgP (M.2.2 w 0) (fun p1_ => zgP (M.2.2 w 0) (fun p3_ => zg (zok x1 6) (zlet (zJ M (p1_ + 19) (0 : Int32).toNatClampNeg (((M.1 (p3_ + 2) (x1 : Int32).toNatClampNeg) : Int32).toInt64)) (fun M6_ => zg (zok x1 6) (zlet (zJ M6_ (p1_ + 19) (1 : Int32).toNatClampNeg (((M6_.1 (w + 2) (x1 : Int32).toNatClampNeg) : Int32).toInt64)) (fun M9_ => zgP (M9_.2.2 w 0) (fun p11_ => zg (zok x1 6) (zlet (zJ M9_ (p1_ + 19) (2 : Int32).toNatClampNeg (((M9_.1 (p11_ + 4) (x1 : Int32).toNatClampNeg) : Int32).toInt64)) (fun M14_ => zg (zok x1 6) (zlet (zJ M14_ (p1_ + 19) (3 : Int32).toNatClampNeg ((((M14_.1 (w + 3) (x1 : Int32).toNatClampNeg) + x3) : Int32).toInt64)) (fun M17_ => zlet (zJ M17_ (p1_ + 19) (4 : Int32).toNatClampNeg (((M17_.1 w 11) : Int32).toInt64)) (fun M19_ => (if x2 < 0 then gX8_setFacts_J110 w p1_ p1_ 5 M19_
  else (if 8 ≤ x2 then gX8_setFacts_J110 w p1_ p1_ 5 M19_
  else zgP (M19_.2.2 w 0) (fun p26_ => zg (zok x2 8) (gX8_setFacts_J111 w p1_ p1_ 5 (((M19_.1 (p26_ + 7) (x2 : Int32).toNatClampNeg) : Int32).toInt64) M19_))))))))))))))))
  else some M))
set_option maxRecDepth 100000 in
set_option maxHeartbeats 2000000 in
theorem mX8_setFacts {G : zG} {w : Nat} {x1 : Int32} {x2 : Int32} {x3 : Int32} {M : zM} (hw : isW w) {res : zM} (h : gX8_setFacts w x1 x2 x3 M = some res) : Ct G 1 tX8_setFacts [.ref w, .int x1, .int x2, .int x3] M (zQv res) := by
  unfold gX8_setFacts at h
  refine Ct.of (y := yX8_setFacts) rfl plX8 (Nat.le_of_ble_eq_true rfl) (fun X hX => ?_)
  replace hX : zC G X cX8_setFacts 5 RX8 none 1 := hX
  show Z G X _ 0 [some (.ref w), some (.int x1), some (.int x2), some (.int x3), none] [] M
  refine z_iload_n hX dX8_setFacts_0 rfl 1 rfl ?_
  refine z_if_lt hX dX8_setFacts_1 10 4 (by decide) rfl (fun hc => ?_) (fun hc => ?_)
  · rw [if_pos hc] at h
    exact z_return hX dX8_setFacts_10 (zend_v h)
  · rw [if_neg hc] at h
    refine z_iload_n hX dX8_setFacts_4 rfl 5 rfl ?_
    refine z_bipush hX dX8_setFacts_5 qb_6 7 rfl ?_
    refine z_icmp_lt hX dX8_setFacts_7 11 10 (by decide) rfl (fun hc => ?_) (fun hc => ?_)
    · rw [if_pos hc] at h
      refine z_aload_n hX dX8_setFacts_11 rfl 12 rfl ?_
      obtain ⟨p1_, hm, hp1_, h2_⟩ := zgP_of h
      refine z_getR hX fX8_40 dX8_setFacts_12 (zsW0 hw) (by decide) rfl hm 15 rfl ?_
      refine z_getF hX fX8_100 dX8_setFacts_15 (zsP0 hp1_) (by decide) rfl 18 rfl ?_
      refine z_getF hX fX8_104 dX8_setFacts_18 (zsP14 hp1_) (by decide) rfl 21 rfl ?_
      refine z_astore hX dX8_setFacts_21 (by decide) 23 rfl ?_
      refine z_aload hX dX8_setFacts_23 rfl 25 rfl ?_
      refine z_iconst hX dX8_setFacts_25 qi_0 26 rfl ?_
      refine z_aload_n hX dX8_setFacts_26 rfl 27 rfl ?_
      obtain ⟨p3_, hm, hp3_, h4_⟩ := zgP_of h2_
      refine z_getR hX fX8_40 dX8_setFacts_27 (zsW0 hw) (by decide) rfl hm 30 rfl ?_
      refine z_getF hX fX8_110 dX8_setFacts_30 (zsP0 hp3_) (by decide) rfl 33 rfl ?_
      refine z_iload_n hX dX8_setFacts_33 rfl 34 rfl ?_
      obtain ⟨hb, h5_⟩ := zgd h4_
      refine z_iald hX dX8_setFacts_34 (zsP2 hp3_) (zok_in hb) 35 rfl ?_
      refine z_i2l hX dX8_setFacts_35 36 rfl ?_
      refine z_last hX dX8_setFacts_36 (zsP19 hp1_) (zok_in (by decide)) 37 rfl ?_
      refine z_mem h5_ (fun M6_ h7_ => ?_)
      refine z_aload hX dX8_setFacts_37 rfl 39 rfl ?_
      refine z_iconst hX dX8_setFacts_39 qi_1 40 rfl ?_
      refine z_aload_n hX dX8_setFacts_40 rfl 41 rfl ?_
      refine z_getF hX fX8_15 dX8_setFacts_41 (zsW0 hw) (by decide) rfl 44 rfl ?_
      refine z_iload_n hX dX8_setFacts_44 rfl 45 rfl ?_
      obtain ⟨hb, h8_⟩ := zgd h7_
      refine z_iald hX dX8_setFacts_45 (zsW2 hw) (zok_in hb) 46 rfl ?_
      refine z_i2l hX dX8_setFacts_46 47 rfl ?_
      refine z_last hX dX8_setFacts_47 (zsP19 hp1_) (zok_in (by decide)) 48 rfl ?_
      refine z_mem h8_ (fun M9_ h10_ => ?_)
      refine z_aload hX dX8_setFacts_48 rfl 50 rfl ?_
      refine z_iconst hX dX8_setFacts_50 qi_2 51 rfl ?_
      refine z_aload_n hX dX8_setFacts_51 rfl 52 rfl ?_
      obtain ⟨p11_, hm, hp11_, h12_⟩ := zgP_of h10_
      refine z_getR hX fX8_40 dX8_setFacts_52 (zsW0 hw) (by decide) rfl hm 55 rfl ?_
      refine z_getF hX fX8_113 dX8_setFacts_55 (zsP0 hp11_) (by decide) rfl 58 rfl ?_
      refine z_iload_n hX dX8_setFacts_58 rfl 59 rfl ?_
      obtain ⟨hb, h13_⟩ := zgd h12_
      refine z_iald hX dX8_setFacts_59 (zsP4 hp11_) (zok_in hb) 60 rfl ?_
      refine z_i2l hX dX8_setFacts_60 61 rfl ?_
      refine z_last hX dX8_setFacts_61 (zsP19 hp1_) (zok_in (by decide)) 62 rfl ?_
      refine z_mem h13_ (fun M14_ h15_ => ?_)
      refine z_aload hX dX8_setFacts_62 rfl 64 rfl ?_
      refine z_iconst hX dX8_setFacts_64 qi_3 65 rfl ?_
      refine z_aload_n hX dX8_setFacts_65 rfl 66 rfl ?_
      refine z_getF hX fX8_18 dX8_setFacts_66 (zsW0 hw) (by decide) rfl 69 rfl ?_
      refine z_iload_n hX dX8_setFacts_69 rfl 70 rfl ?_
      obtain ⟨hb, h16_⟩ := zgd h15_
      refine z_iald hX dX8_setFacts_70 (zsW3 hw) (zok_in hb) 71 rfl ?_
      refine z_iload_n hX dX8_setFacts_71 rfl 72 rfl ?_
      refine z_iadd hX dX8_setFacts_72 73 rfl ?_
      refine z_i2l hX dX8_setFacts_73 74 rfl ?_
      refine z_last hX dX8_setFacts_74 (zsP19 hp1_) (zok_in (by decide)) 75 rfl ?_
      refine z_mem h16_ (fun M17_ h18_ => ?_)
      refine z_aload hX dX8_setFacts_75 rfl 77 rfl ?_
      refine z_iconst hX dX8_setFacts_77 qi_4 78 rfl ?_
      refine z_aload_n hX dX8_setFacts_78 rfl 79 rfl ?_
      refine z_getI hX fX8_56 dX8_setFacts_79 (zsW0 hw) (by decide) rfl 82 rfl ?_
      refine z_i2l hX dX8_setFacts_82 83 rfl ?_
      refine z_last hX dX8_setFacts_83 (zsP19 hp1_) (zok_in (by decide)) 84 rfl ?_
      refine z_mem h18_ (fun M19_ h20_ => ?_)
      refine z_aload hX dX8_setFacts_84 rfl 86 rfl ?_
      refine z_iconst hX dX8_setFacts_86 qi_5 87 rfl ?_
      refine z_iload_n hX dX8_setFacts_87 rfl 88 rfl ?_
      refine z_if_lt hX dX8_setFacts_88 110 91 (by decide) rfl (fun hc => ?_) (fun hc => ?_)
      · rw [if_pos hc] at h20_
        refine z_mask [true, false, false, false, true] ?_
        have hz := aX8_setFacts_J110 hX hw hp1_ hp1_ h20_
        exact hz
      · rw [if_neg hc] at h20_
        refine z_iload_n hX dX8_setFacts_91 rfl 92 rfl ?_
        refine z_bipush hX dX8_setFacts_92 qb_8 94 rfl ?_
        refine z_icmp_ge hX dX8_setFacts_94 110 97 (by decide) rfl (fun hc => ?_) (fun hc => ?_)
        · rw [if_pos hc] at h20_
          refine z_mask [true, false, false, false, true] ?_
          have hz := aX8_setFacts_J110 hX hw hp1_ hp1_ h20_
          exact hz
        · rw [if_neg hc] at h20_
          refine z_aload_n hX dX8_setFacts_97 rfl 98 rfl ?_
          obtain ⟨p26_, hm, hp26_, h27_⟩ := zgP_of h20_
          refine z_getR hX fX8_40 dX8_setFacts_98 (zsW0 hw) (by decide) rfl hm 101 rfl ?_
          refine z_getF hX fX8_116 dX8_setFacts_101 (zsP0 hp26_) (by decide) rfl 104 rfl ?_
          refine z_iload_n hX dX8_setFacts_104 rfl 105 rfl ?_
          obtain ⟨hb, h28_⟩ := zgd h27_
          refine z_iald hX dX8_setFacts_105 (zsP7 hp26_) (zok_in hb) 106 rfl ?_
          refine z_i2l hX dX8_setFacts_106 107 rfl ?_
          refine z_goto hX dX8_setFacts_107 111 (by decide) ?_
          refine z_mask [true, false, false, false, true] ?_
          have hz := aX8_setFacts_J111 hX hw hp1_ hp1_ h28_
          exact hz
    · rw [if_neg hc] at h
      exact z_return hX dX8_setFacts_10 (zend_v h)
def gX1_valueOf (p : Nat) (x1 : Int32) (x2 : Int32) (M : zM) : Option Int64 :=
  (if (x1 - 19) < 0 then some ((x2 : Int32).toInt64)
  else (if 7 ≤ (x1 - 19) then some ((x2 : Int32).toInt64)
  else zg (zok (x1 - 19) 7) (some (M.2.1 (p + 19) ((x1 - 19) : Int32).toNatClampNeg))))
set_option maxRecDepth 100000 in
set_option maxHeartbeats 2000000 in
theorem mX1_valueOf {G : zG} {p : Nat} {x1 : Int32} {x2 : Int32} {M : zM} (hp : isPl p) {res : Int64} (h : gX1_valueOf p x1 x2 M = some res) : Ct G 1 tX1_valueOf [.ref (p + 14), .int x1, .int x2] M (zQlp M res) := by
  unfold gX1_valueOf at h
  refine Ct.of (y := yX1_valueOf) rfl plX1 (Nat.le_of_ble_eq_true rfl) (fun X hX => ?_)
  replace hX : zC G X cX1_valueOf 4 RX1 (some .long) 1 := hX
  show Z G X _ 0 [some (.ref (p + 14)), some (.int x1), some (.int x2), none] [] M
  refine z_iload_n hX dX1_valueOf_0 rfl 1 rfl ?_
  refine z_bipush hX dX1_valueOf_1 qb_19 3 rfl ?_
  refine z_isub hX dX1_valueOf_3 4 rfl ?_
  refine z_istore_n hX dX1_valueOf_4 (by decide) 5 rfl ?_
  refine z_iload_n hX dX1_valueOf_5 rfl 6 rfl ?_
  refine z_if_lt hX dX1_valueOf_6 27 9 (by decide) rfl (fun hc => ?_) (fun hc => ?_)
  · rw [if_pos hc] at h
    refine z_iload_n hX dX1_valueOf_27 rfl 28 rfl ?_
    refine z_i2l hX dX1_valueOf_28 29 rfl ?_
    exact z_lreturn hX dX1_valueOf_29 (zend_lp h)
  · rw [if_neg hc] at h
    refine z_iload_n hX dX1_valueOf_9 rfl 10 rfl ?_
    refine z_aload_n hX dX1_valueOf_10 rfl 11 rfl ?_
    refine z_getF hX fX1_26 dX1_valueOf_11 (zsP14 hp) (by decide) rfl 14 rfl ?_
    refine z_alenL (v := 7) hX dX1_valueOf_14 (zsP19 hp) (by decide) rfl 15 rfl ?_
    refine z_icmp_ge hX dX1_valueOf_15 27 18 (by decide) rfl (fun hc => ?_) (fun hc => ?_)
    · rw [if_pos hc] at h
      refine z_iload_n hX dX1_valueOf_27 rfl 28 rfl ?_
      refine z_i2l hX dX1_valueOf_28 29 rfl ?_
      exact z_lreturn hX dX1_valueOf_29 (zend_lp h)
    · rw [if_neg hc] at h
      refine z_aload_n hX dX1_valueOf_18 rfl 19 rfl ?_
      refine z_getF hX fX1_26 dX1_valueOf_19 (zsP14 hp) (by decide) rfl 22 rfl ?_
      refine z_iload_n hX dX1_valueOf_22 rfl 23 rfl ?_
      obtain ⟨hb, h1_⟩ := zgd h
      refine z_lald hX dX1_valueOf_23 (zsP19 hp) (zok_in hb) 24 rfl ?_
      refine z_goto hX dX1_valueOf_24 29 (by decide) ?_
      exact z_lreturn hX dX1_valueOf_29 (zend_lp h1_)
def gX1_combine_J264 (z5 : Int64) (M : zM) : Option Int64 :=
  (if 0 < (lg_cmp z5 1000000000000) then some (-9223372036854775808)
  else (if 0 ≤ (lg_cmp z5 (-1000000000000)) then some z5
  else some (-9223372036854775808)))
set_option maxRecDepth 100000 in
set_option maxHeartbeats 2000000 in
theorem aX1_combine_J264 {G : zG} {X : zX} {z5 : Int64} (hX : zC G X cX1_combine 9 RX1 (some .long) 1)   {M : zM} {res : Int64}  (h : gX1_combine_J264 z5 M = some res) : Z G X (zQlp M res) 264 [none, none, none, none, none, some (.long z5), none, none, none] [] M := by
  unfold gX1_combine_J264 at h
  refine z_lload hX dX1_combine_264 rfl 266 rfl ?_
  refine z_ldc2 hX dX1_combine_266 kX1_50 269 rfl ?_
  refine z_lcmp hX dX1_combine_269 270 rfl ?_
  refine z_if_gt hX dX1_combine_270 282 273 (by decide) rfl (fun hc => ?_) (fun hc => ?_)
  · rw [if_pos hc] at h
    refine z_ldc2 hX dX1_combine_282 kX1_40 285 rfl ?_
    refine z_goto hX dX1_combine_285 290 (by decide) ?_
    exact z_lreturn hX dX1_combine_290 (zend_lp h)
  · rw [if_neg hc] at h
    refine z_lload hX dX1_combine_273 rfl 275 rfl ?_
    refine z_ldc2 hX dX1_combine_275 kX1_52 278 rfl ?_
    refine z_lcmp hX dX1_combine_278 279 rfl ?_
    refine z_if_ge hX dX1_combine_279 288 282 (by decide) rfl (fun hc => ?_) (fun hc => ?_)
    · rw [if_pos hc] at h
      refine z_lload hX dX1_combine_288 rfl 290 rfl ?_
      exact z_lreturn hX dX1_combine_290 (zend_lp h)
    · rw [if_neg hc] at h
      refine z_ldc2 hX dX1_combine_282 kX1_40 285 rfl ?_
      refine z_goto hX dX1_combine_285 290 (by decide) ?_
      exact z_lreturn hX dX1_combine_290 (zend_lp h)
def gX1_combine_J262 (y0 : Int64) (M : zM) : Option Int64 :=
  gX1_combine_J264 y0 M
set_option maxRecDepth 100000 in
set_option maxHeartbeats 2000000 in
theorem aX1_combine_J262 {G : zG} {X : zX} {y0 : Int64} (hX : zC G X cX1_combine 9 RX1 (some .long) 1)   {M : zM} {res : Int64}  (h : gX1_combine_J262 y0 M = some res) : Z G X (zQlp M res) 262 [none, none, none, none, none, none, none, none, none] [.long y0] M := by
  unfold gX1_combine_J262 at h
  refine z_lstore hX dX1_combine_262 (by decide) 264 rfl ?_
  refine z_mask [false, false, false, false, false, true, false, false, false] ?_
  have hz := aX1_combine_J264 hX h
  exact hz
def gX1_combine_J247 (z1 : Int64) (z3 : Int64) (M : zM) : Option Int64 :=
  (if (lg_cmp z3 0) = 0 then gX1_combine_J262 (-9223372036854775808) M
  else zg (znzL z3) (gX1_combine_J262 (z1 / z3) M))
set_option maxRecDepth 100000 in
set_option maxHeartbeats 2000000 in
theorem aX1_combine_J247 {G : zG} {X : zX} {z1 : Int64} {z3 : Int64} (hX : zC G X cX1_combine 9 RX1 (some .long) 1)   {M : zM} {res : Int64}  (h : gX1_combine_J247 z1 z3 M = some res) : Z G X (zQlp M res) 247 [none, some (.long z1), none, some (.long z3), none, none, none, none, none] [] M := by
  unfold gX1_combine_J247 at h
  refine z_lload_n hX dX1_combine_247 rfl 248 rfl ?_
  refine z_lconst hX dX1_combine_248 ql_0 249 rfl ?_
  refine z_lcmp hX dX1_combine_249 250 rfl ?_
  refine z_if_ne hX dX1_combine_250 259 253 (by decide) rfl (fun hc => ?_) (fun hc => ?_)
  · rw [if_neg hc] at h
    refine z_lload_n hX dX1_combine_259 rfl 260 rfl ?_
    refine z_lload_n hX dX1_combine_260 rfl 261 rfl ?_
    obtain ⟨hb, h1_⟩ := zgd h
    refine z_ldiv hX dX1_combine_261 (znzL_ne hb) 262 rfl ?_
    refine z_mask [false, false, false, false, false, false, false, false, false] ?_
    have hz := aX1_combine_J262 hX h1_
    exact hz
  · rw [if_pos hc] at h
    refine z_ldc2 hX dX1_combine_253 kX1_40 256 rfl ?_
    refine z_goto hX dX1_combine_256 262 (by decide) ?_
    refine z_mask [false, false, false, false, false, false, false, false, false] ?_
    have hz := aX1_combine_J262 hX h
    exact hz
def gX1_combine_J242 (y0 : Int64) (M : zM) : Option Int64 :=
  gX1_combine_J264 y0 M
set_option maxRecDepth 100000 in
set_option maxHeartbeats 2000000 in
theorem aX1_combine_J242 {G : zG} {X : zX} {y0 : Int64} (hX : zC G X cX1_combine 9 RX1 (some .long) 1)   {M : zM} {res : Int64}  (h : gX1_combine_J242 y0 M = some res) : Z G X (zQlp M res) 242 [none, none, none, none, none, none, none, none, none] [.long y0] M := by
  unfold gX1_combine_J242 at h
  refine z_lstore hX dX1_combine_242 (by decide) 244 rfl ?_
  refine z_goto hX dX1_combine_244 264 (by decide) ?_
  refine z_mask [false, false, false, false, false, true, false, false, false] ?_
  have hz := aX1_combine_J264 hX h
  exact hz
def gX1_combine_J233 (M : zM) : Option Int64 :=
  gX1_combine_J242 (-9223372036854775808) M
set_option maxRecDepth 100000 in
set_option maxHeartbeats 2000000 in
theorem aX1_combine_J233 {G : zG} {X : zX} (hX : zC G X cX1_combine 9 RX1 (some .long) 1)   {M : zM} {res : Int64}  (h : gX1_combine_J233 M = some res) : Z G X (zQlp M res) 233 [none, none, none, none, none, none, none, none, none] [] M := by
  unfold gX1_combine_J233 at h
  refine z_ldc2 hX dX1_combine_233 kX1_40 236 rfl ?_
  refine z_goto hX dX1_combine_236 242 (by decide) ?_
  refine z_mask [false, false, false, false, false, false, false, false, false] ?_
  have hz := aX1_combine_J242 hX h
  exact hz
def gX1_combine_J216 (z1 : Int64) (z3 : Int64) (y0 : Int64) (M : zM) : Option Int64 :=
  (if 0 < (lg_cmp z3 y0) then gX1_combine_J233 M
  else (if 0 ≤ (lg_cmp z3 (-y0)) then gX1_combine_J242 (z1 * z3) M
  else gX1_combine_J233 M))
set_option maxRecDepth 100000 in
set_option maxHeartbeats 2000000 in
theorem aX1_combine_J216 {G : zG} {X : zX} {z1 : Int64} {z3 : Int64} {y0 : Int64} (hX : zC G X cX1_combine 9 RX1 (some .long) 1)   {M : zM} {res : Int64}  (h : gX1_combine_J216 z1 z3 y0 M = some res) : Z G X (zQlp M res) 216 [none, some (.long z1), none, some (.long z3), none, none, none, none, none] [.long y0] M := by
  unfold gX1_combine_J216 at h
  refine z_lstore hX dX1_combine_216 (by decide) 218 rfl ?_
  refine z_lload_n hX dX1_combine_218 rfl 219 rfl ?_
  refine z_lload hX dX1_combine_219 rfl 221 rfl ?_
  refine z_lcmp hX dX1_combine_221 222 rfl ?_
  refine z_if_gt hX dX1_combine_222 233 225 (by decide) rfl (fun hc => ?_) (fun hc => ?_)
  · rw [if_pos hc] at h
    refine z_mask [false, false, false, false, false, false, false, false, false] ?_
    have hz := aX1_combine_J233 hX h
    exact hz
  · rw [if_neg hc] at h
    refine z_lload_n hX dX1_combine_225 rfl 226 rfl ?_
    refine z_lload hX dX1_combine_226 rfl 228 rfl ?_
    refine z_lneg hX dX1_combine_228 229 rfl ?_
    refine z_lcmp hX dX1_combine_229 230 rfl ?_
    refine z_if_ge hX dX1_combine_230 239 233 (by decide) rfl (fun hc => ?_) (fun hc => ?_)
    · rw [if_pos hc] at h
      refine z_lload_n hX dX1_combine_239 rfl 240 rfl ?_
      refine z_lload_n hX dX1_combine_240 rfl 241 rfl ?_
      refine z_lmul hX dX1_combine_241 242 rfl ?_
      refine z_mask [false, false, false, false, false, false, false, false, false] ?_
      have hz := aX1_combine_J242 hX h
      exact hz
    · rw [if_neg hc] at h
      refine z_mask [false, false, false, false, false, false, false, false, false] ?_
      have hz := aX1_combine_J233 hX h
      exact hz
def gX1_combine_J215 (z1 : Int64) (z3 : Int64) (y0 : Int64) (y1 : Int64) (M : zM) : Option Int64 :=
  zg (znzL y1) (gX1_combine_J216 z1 z3 (y0 / y1) M)
set_option maxRecDepth 100000 in
set_option maxHeartbeats 2000000 in
theorem aX1_combine_J215 {G : zG} {X : zX} {z1 : Int64} {z3 : Int64} {y0 : Int64} {y1 : Int64} (hX : zC G X cX1_combine 9 RX1 (some .long) 1)   {M : zM} {res : Int64}  (h : gX1_combine_J215 z1 z3 y0 y1 M = some res) : Z G X (zQlp M res) 215 [none, some (.long z1), none, some (.long z3), none, none, none, none, none] [.long y1, .long y0] M := by
  unfold gX1_combine_J215 at h
  obtain ⟨hb, h2_⟩ := zgd h
  refine z_ldiv hX dX1_combine_215 (znzL_ne hb) 216 rfl ?_
  refine z_mask [false, true, false, true, false, false, false, false, false] ?_
  have hz := aX1_combine_J216 hX h2_
  exact hz
def gX1_combine (x0 : Int32) (z1 : Int64) (z3 : Int64) (M : zM) : Option Int64 :=
  (if x0 = 26 then (if (lg_cmp z1 0) = 0 then (if (lg_cmp z3 0) = 0 then some 0
  else some 1)
  else some 1)
  else if x0 = 27 then (if (lg_cmp z1 0) = 0 then some 0
  else (if (lg_cmp z3 0) = 0 then some 0
  else some 1))
  else if x0 = 28 then gX1_combine_J247 z1 z3 M
  else if x0 = 29 then (if 0 ≤ (lg_cmp z1 z3) then some 0
  else some 1)
  else if x0 = 30 then (if 0 < (lg_cmp z1 z3) then some 0
  else some 1)
  else if x0 = 31 then (if (lg_cmp z1 z3) = 0 then some 1
  else some 0)
  else if x0 = 32 then (if (lg_cmp z1 z3) = 0 then some 0
  else some 1)
  else if x0 = 33 then (if (lg_cmp z1 z3) < 0 then some 0
  else some 1)
  else if x0 = 34 then (if (lg_cmp z1 z3) ≤ 0 then some 0
  else some 1)
  else if x0 = 35 then gX1_combine_J264 (z1 + z3) M
  else if x0 = 36 then gX1_combine_J264 (z1 - z3) M
  else if x0 = 37 then (if (lg_cmp z1 0) = 0 then gX1_combine_J216 z1 z3 1000000000000 M
  else (if 0 ≤ (lg_cmp z1 0) then gX1_combine_J215 z1 z3 1000000000000 z1 M
  else gX1_combine_J215 z1 z3 1000000000000 (-z1) M))
  else gX1_combine_J247 z1 z3 M)
set_option maxRecDepth 100000 in
set_option maxHeartbeats 2000000 in
theorem mX1_combine {G : zG} {x0 : Int32} {z1 : Int64} {z3 : Int64} {M : zM}  {res : Int64} (h : gX1_combine x0 z1 z3 M = some res) : Ct G 1 tX1_combine [.int x0, .long z1, .long z3] M (zQlp M res) := by
  unfold gX1_combine at h
  refine Ct.of (y := yX1_combine) rfl plX1 (Nat.le_of_ble_eq_true rfl) (fun X hX => ?_)
  replace hX : zC G X cX1_combine 9 RX1 (some .long) 1 := hX
  show Z G X _ 0 [some (.int x0), some (.long z1), none, some (.long z3), none, none, none, none, none] [] M
  refine z_iload_n hX dX1_combine_0 rfl 1 rfl ?_
  by_cases hc0 : x0 = 26
  · rw [if_pos hc0] at h
    refine z_tabIn hX dX1_combine_1 (by rw [hc0]; decide) (by rw [hc0]; decide) (by rw [hc0]; rfl) 64 (by decide) ?_
    refine z_lload_n hX dX1_combine_64 rfl 65 rfl ?_
    refine z_lconst hX dX1_combine_65 ql_0 66 rfl ?_
    refine z_lcmp hX dX1_combine_66 67 rfl ?_
    refine z_if_ne hX dX1_combine_67 76 70 (by decide) rfl (fun hc => ?_) (fun hc => ?_)
    · rw [if_neg hc] at h
      refine z_lconst hX dX1_combine_76 ql_1 77 rfl ?_
      refine z_goto hX dX1_combine_77 81 (by decide) ?_
      exact z_lreturn hX dX1_combine_81 (zend_lp h)
    · rw [if_pos hc] at h
      refine z_lload_n hX dX1_combine_70 rfl 71 rfl ?_
      refine z_lconst hX dX1_combine_71 ql_0 72 rfl ?_
      refine z_lcmp hX dX1_combine_72 73 rfl ?_
      refine z_if_eq hX dX1_combine_73 80 76 (by decide) rfl (fun hc => ?_) (fun hc => ?_)
      · rw [if_pos hc] at h
        refine z_lconst hX dX1_combine_80 ql_0 81 rfl ?_
        exact z_lreturn hX dX1_combine_81 (zend_lp h)
      · rw [if_neg hc] at h
        refine z_lconst hX dX1_combine_76 ql_1 77 rfl ?_
        refine z_goto hX dX1_combine_77 81 (by decide) ?_
        exact z_lreturn hX dX1_combine_81 (zend_lp h)
  rw [if_neg hc0] at h
  by_cases hc1 : x0 = 27
  · rw [if_pos hc1] at h
    refine z_tabIn hX dX1_combine_1 (by rw [hc1]; decide) (by rw [hc1]; decide) (by rw [hc1]; rfl) 82 (by decide) ?_
    refine z_lload_n hX dX1_combine_82 rfl 83 rfl ?_
    refine z_lconst hX dX1_combine_83 ql_0 84 rfl ?_
    refine z_lcmp hX dX1_combine_84 85 rfl ?_
    refine z_if_eq hX dX1_combine_85 98 88 (by decide) rfl (fun hc => ?_) (fun hc => ?_)
    · rw [if_pos hc] at h
      refine z_lconst hX dX1_combine_98 ql_0 99 rfl ?_
      exact z_lreturn hX dX1_combine_99 (zend_lp h)
    · rw [if_neg hc] at h
      refine z_lload_n hX dX1_combine_88 rfl 89 rfl ?_
      refine z_lconst hX dX1_combine_89 ql_0 90 rfl ?_
      refine z_lcmp hX dX1_combine_90 91 rfl ?_
      refine z_if_eq hX dX1_combine_91 98 94 (by decide) rfl (fun hc => ?_) (fun hc => ?_)
      · rw [if_pos hc] at h
        refine z_lconst hX dX1_combine_98 ql_0 99 rfl ?_
        exact z_lreturn hX dX1_combine_99 (zend_lp h)
      · rw [if_neg hc] at h
        refine z_lconst hX dX1_combine_94 ql_1 95 rfl ?_
        refine z_goto hX dX1_combine_95 99 (by decide) ?_
        exact z_lreturn hX dX1_combine_99 (zend_lp h)
  rw [if_neg hc1] at h
  by_cases hc2 : x0 = 28
  · rw [if_pos hc2] at h
    refine z_tabIn hX dX1_combine_1 (by rw [hc2]; decide) (by rw [hc2]; decide) (by rw [hc2]; rfl) 247 (by decide) ?_
    refine z_mask [false, true, false, true, false, false, false, false, false] ?_
    have hz := aX1_combine_J247 hX h
    exact hz
  rw [if_neg hc2] at h
  by_cases hc3 : x0 = 29
  · rw [if_pos hc3] at h
    refine z_tabIn hX dX1_combine_1 (by rw [hc3]; decide) (by rw [hc3]; decide) (by rw [hc3]; rfl) 100 (by decide) ?_
    refine z_lload_n hX dX1_combine_100 rfl 101 rfl ?_
    refine z_lload_n hX dX1_combine_101 rfl 102 rfl ?_
    refine z_lcmp hX dX1_combine_102 103 rfl ?_
    refine z_if_ge hX dX1_combine_103 110 106 (by decide) rfl (fun hc => ?_) (fun hc => ?_)
    · rw [if_pos hc] at h
      refine z_lconst hX dX1_combine_110 ql_0 111 rfl ?_
      exact z_lreturn hX dX1_combine_111 (zend_lp h)
    · rw [if_neg hc] at h
      refine z_lconst hX dX1_combine_106 ql_1 107 rfl ?_
      refine z_goto hX dX1_combine_107 111 (by decide) ?_
      exact z_lreturn hX dX1_combine_111 (zend_lp h)
  rw [if_neg hc3] at h
  by_cases hc4 : x0 = 30
  · rw [if_pos hc4] at h
    refine z_tabIn hX dX1_combine_1 (by rw [hc4]; decide) (by rw [hc4]; decide) (by rw [hc4]; rfl) 112 (by decide) ?_
    refine z_lload_n hX dX1_combine_112 rfl 113 rfl ?_
    refine z_lload_n hX dX1_combine_113 rfl 114 rfl ?_
    refine z_lcmp hX dX1_combine_114 115 rfl ?_
    refine z_if_gt hX dX1_combine_115 122 118 (by decide) rfl (fun hc => ?_) (fun hc => ?_)
    · rw [if_pos hc] at h
      refine z_lconst hX dX1_combine_122 ql_0 123 rfl ?_
      exact z_lreturn hX dX1_combine_123 (zend_lp h)
    · rw [if_neg hc] at h
      refine z_lconst hX dX1_combine_118 ql_1 119 rfl ?_
      refine z_goto hX dX1_combine_119 123 (by decide) ?_
      exact z_lreturn hX dX1_combine_123 (zend_lp h)
  rw [if_neg hc4] at h
  by_cases hc5 : x0 = 31
  · rw [if_pos hc5] at h
    refine z_tabIn hX dX1_combine_1 (by rw [hc5]; decide) (by rw [hc5]; decide) (by rw [hc5]; rfl) 124 (by decide) ?_
    refine z_lload_n hX dX1_combine_124 rfl 125 rfl ?_
    refine z_lload_n hX dX1_combine_125 rfl 126 rfl ?_
    refine z_lcmp hX dX1_combine_126 127 rfl ?_
    refine z_if_ne hX dX1_combine_127 134 130 (by decide) rfl (fun hc => ?_) (fun hc => ?_)
    · rw [if_neg hc] at h
      refine z_lconst hX dX1_combine_134 ql_0 135 rfl ?_
      exact z_lreturn hX dX1_combine_135 (zend_lp h)
    · rw [if_pos hc] at h
      refine z_lconst hX dX1_combine_130 ql_1 131 rfl ?_
      refine z_goto hX dX1_combine_131 135 (by decide) ?_
      exact z_lreturn hX dX1_combine_135 (zend_lp h)
  rw [if_neg hc5] at h
  by_cases hc6 : x0 = 32
  · rw [if_pos hc6] at h
    refine z_tabIn hX dX1_combine_1 (by rw [hc6]; decide) (by rw [hc6]; decide) (by rw [hc6]; rfl) 136 (by decide) ?_
    refine z_lload_n hX dX1_combine_136 rfl 137 rfl ?_
    refine z_lload_n hX dX1_combine_137 rfl 138 rfl ?_
    refine z_lcmp hX dX1_combine_138 139 rfl ?_
    refine z_if_eq hX dX1_combine_139 146 142 (by decide) rfl (fun hc => ?_) (fun hc => ?_)
    · rw [if_pos hc] at h
      refine z_lconst hX dX1_combine_146 ql_0 147 rfl ?_
      exact z_lreturn hX dX1_combine_147 (zend_lp h)
    · rw [if_neg hc] at h
      refine z_lconst hX dX1_combine_142 ql_1 143 rfl ?_
      refine z_goto hX dX1_combine_143 147 (by decide) ?_
      exact z_lreturn hX dX1_combine_147 (zend_lp h)
  rw [if_neg hc6] at h
  by_cases hc7 : x0 = 33
  · rw [if_pos hc7] at h
    refine z_tabIn hX dX1_combine_1 (by rw [hc7]; decide) (by rw [hc7]; decide) (by rw [hc7]; rfl) 148 (by decide) ?_
    refine z_lload_n hX dX1_combine_148 rfl 149 rfl ?_
    refine z_lload_n hX dX1_combine_149 rfl 150 rfl ?_
    refine z_lcmp hX dX1_combine_150 151 rfl ?_
    refine z_if_lt hX dX1_combine_151 158 154 (by decide) rfl (fun hc => ?_) (fun hc => ?_)
    · rw [if_pos hc] at h
      refine z_lconst hX dX1_combine_158 ql_0 159 rfl ?_
      exact z_lreturn hX dX1_combine_159 (zend_lp h)
    · rw [if_neg hc] at h
      refine z_lconst hX dX1_combine_154 ql_1 155 rfl ?_
      refine z_goto hX dX1_combine_155 159 (by decide) ?_
      exact z_lreturn hX dX1_combine_159 (zend_lp h)
  rw [if_neg hc7] at h
  by_cases hc8 : x0 = 34
  · rw [if_pos hc8] at h
    refine z_tabIn hX dX1_combine_1 (by rw [hc8]; decide) (by rw [hc8]; decide) (by rw [hc8]; rfl) 160 (by decide) ?_
    refine z_lload_n hX dX1_combine_160 rfl 161 rfl ?_
    refine z_lload_n hX dX1_combine_161 rfl 162 rfl ?_
    refine z_lcmp hX dX1_combine_162 163 rfl ?_
    refine z_if_le hX dX1_combine_163 170 166 (by decide) rfl (fun hc => ?_) (fun hc => ?_)
    · rw [if_pos hc] at h
      refine z_lconst hX dX1_combine_170 ql_0 171 rfl ?_
      exact z_lreturn hX dX1_combine_171 (zend_lp h)
    · rw [if_neg hc] at h
      refine z_lconst hX dX1_combine_166 ql_1 167 rfl ?_
      refine z_goto hX dX1_combine_167 171 (by decide) ?_
      exact z_lreturn hX dX1_combine_171 (zend_lp h)
  rw [if_neg hc8] at h
  by_cases hc9 : x0 = 35
  · rw [if_pos hc9] at h
    refine z_tabIn hX dX1_combine_1 (by rw [hc9]; decide) (by rw [hc9]; decide) (by rw [hc9]; rfl) 172 (by decide) ?_
    refine z_lload_n hX dX1_combine_172 rfl 173 rfl ?_
    refine z_lload_n hX dX1_combine_173 rfl 174 rfl ?_
    refine z_ladd hX dX1_combine_174 175 rfl ?_
    refine z_lstore hX dX1_combine_175 (by decide) 177 rfl ?_
    refine z_goto hX dX1_combine_177 264 (by decide) ?_
    refine z_mask [false, false, false, false, false, true, false, false, false] ?_
    have hz := aX1_combine_J264 hX h
    exact hz
  rw [if_neg hc9] at h
  by_cases hc10 : x0 = 36
  · rw [if_pos hc10] at h
    refine z_tabIn hX dX1_combine_1 (by rw [hc10]; decide) (by rw [hc10]; decide) (by rw [hc10]; rfl) 180 (by decide) ?_
    refine z_lload_n hX dX1_combine_180 rfl 181 rfl ?_
    refine z_lload_n hX dX1_combine_181 rfl 182 rfl ?_
    refine z_lsub hX dX1_combine_182 183 rfl ?_
    refine z_lstore hX dX1_combine_183 (by decide) 185 rfl ?_
    refine z_goto hX dX1_combine_185 264 (by decide) ?_
    refine z_mask [false, false, false, false, false, true, false, false, false] ?_
    have hz := aX1_combine_J264 hX h
    exact hz
  rw [if_neg hc10] at h
  by_cases hc11 : x0 = 37
  · rw [if_pos hc11] at h
    refine z_tabIn hX dX1_combine_1 (by rw [hc11]; decide) (by rw [hc11]; decide) (by rw [hc11]; rfl) 188 (by decide) ?_
    refine z_lload_n hX dX1_combine_188 rfl 189 rfl ?_
    refine z_lconst hX dX1_combine_189 ql_0 190 rfl ?_
    refine z_lcmp hX dX1_combine_190 191 rfl ?_
    refine z_if_ne hX dX1_combine_191 200 194 (by decide) rfl (fun hc => ?_) (fun hc => ?_)
    · rw [if_neg hc] at h
      refine z_ldc2 hX dX1_combine_200 kX1_50 203 rfl ?_
      refine z_lload_n hX dX1_combine_203 rfl 204 rfl ?_
      refine z_lconst hX dX1_combine_204 ql_0 205 rfl ?_
      refine z_lcmp hX dX1_combine_205 206 rfl ?_
      refine z_if_ge hX dX1_combine_206 214 209 (by decide) rfl (fun hc => ?_) (fun hc => ?_)
      · rw [if_pos hc] at h
        refine z_lload_n hX dX1_combine_214 rfl 215 rfl ?_
        refine z_mask [false, true, false, true, false, false, false, false, false] ?_
        have hz := aX1_combine_J215 hX h
        exact hz
      · rw [if_neg hc] at h
        refine z_lload_n hX dX1_combine_209 rfl 210 rfl ?_
        refine z_lneg hX dX1_combine_210 211 rfl ?_
        refine z_goto hX dX1_combine_211 215 (by decide) ?_
        refine z_mask [false, true, false, true, false, false, false, false, false] ?_
        have hz := aX1_combine_J215 hX h
        exact hz
    · rw [if_pos hc] at h
      refine z_ldc2 hX dX1_combine_194 kX1_50 197 rfl ?_
      refine z_goto hX dX1_combine_197 216 (by decide) ?_
      refine z_mask [false, true, false, true, false, false, false, false, false] ?_
      have hz := aX1_combine_J216 hX h
      exact hz
  rw [if_neg hc11] at h
  have hout : (x0 : Int32).toInt < 26 ∨ 37 < (x0 : Int32).toInt := zsw_out (fun k h1 h2 => by
    have hk : k = 26 ∨ k = 27 ∨ k = 28 ∨ k = 29 ∨ k = 30 ∨ k = 31 ∨ k = 32 ∨ k = 33 ∨ k = 34 ∨ k = 35 ∨ k = 36 ∨ k = 37 := by omega
    rcases hk with rfl | rfl | rfl | rfl | rfl | rfl | rfl | rfl | rfl | rfl | rfl | rfl
    · exact hc0
    · exact hc1
    · exact hc2
    · exact hc3
    · exact hc4
    · exact hc5
    · exact hc6
    · exact hc7
    · exact hc8
    · exact hc9
    · exact hc10
    · exact hc11)
  refine z_tabOut hX dX1_combine_1 hout 247 (by decide) ?_
  refine z_mask [false, true, false, true, false, false, false, false, false] ?_
  have hz := aX1_combine_J247 hX h
  exact hz
