def gX10_begins (M : zM) : Option zM :=
  zcV (gX10_starts 0 M) (fun M1_ => some M1_)
set_option maxRecDepth 100000 in
set_option maxHeartbeats 2000000 in
theorem mX10_begins {G : zG}  {M : zM}  {res : zM} (h : gX10_begins M = some res) : Ct G 2 tX10_begins [.ref 98] M (zQv res) := by
  unfold gX10_begins at h
  refine Ct.of (y := yX10_begins) rfl plX10 (Nat.le_of_ble_eq_true rfl) (fun X hX => ?_)
  replace hX : zC G X cX10_begins 1 RX10 none 2 := hX
  show Z G X _ 0 [some (.ref 98)] [] M
  refine z_aload_n hX dX10_begins_0 rfl 1 rfl ?_
  refine z_iconst hX dX10_begins_1 qi_0 2 rfl ?_
  obtain ⟨M1_, hq, h2_⟩ := zcV_of h
  refine z_callV hX vX10_starts lX10_334 dX10_begins_2 zs_98 rfl (mX10_starts  hq) (by decide) rfl rfl (Nat.le_of_ble_eq_true rfl) 5 rfl (Qv.to (fun M' hv => ?_))
  subst hv
  exact z_return hX dX10_begins_5 (zend_v h2_)
def gX10_thrown (M : zM) : Option Int32 :=
  some (M.1 98 0)
set_option maxRecDepth 100000 in
set_option maxHeartbeats 2000000 in
theorem mX10_thrown {G : zG}  {M : zM}  {res : Int32} (h : gX10_thrown M = some res) : Ct G 1 tX10_thrown [.ref 98] M (zQip M res) := by
  unfold gX10_thrown at h
  refine Ct.of (y := yX10_thrown) rfl plX10 (Nat.le_of_ble_eq_true rfl) (fun X hX => ?_)
  replace hX : zC G X cX10_thrown 1 RX10 (some .int) 1 := hX
  show Z G X _ 0 [some (.ref 98)] [] M
  refine z_aload_n hX dX10_thrown_0 rfl 1 rfl ?_
  refine z_getI hX fX10_154 dX10_thrown_1 zs_98 (by decide) rfl 4 rfl ?_
  exact z_ireturn hX dX10_thrown_4 (zend_ip h)
def gX10_feed_J73 (x1 : Int32) (x2 : Int32) (x3 : Int32) (x4 : Int32) (x5 : Int32) (x6 : Int32) (y0 : Int32) (rc20 : (Int32 × zM) → Option (Int32 × zM)) (M : zM) : Option (Int32 × zM) :=
  zg (zok ((M.1 98 2) + x6) 700) (zlet (zI M 99 (((M.1 98 2) + x6) : Int32).toNatClampNeg (((y0 : Int32) >>> (((24 - (8 * (x6 - x6 / 4 * 4))) : Int32) &&& 31)) &&& 255)) (fun M6_ => rc20 ((x6 + 1), M6_)))
set_option maxRecDepth 100000 in
set_option maxHeartbeats 2000000 in
theorem aX10_feed_J73 {G : zG} {X : zX} {x1 : Int32} {x2 : Int32} {x3 : Int32} {x4 : Int32} {x5 : Int32} {x6 : Int32} {y0 : Int32} (hX : zC G X cX10_feed 8 RX10 (some .int) 1)  {rc20 : (Int32 × zM) → Option (Int32 × zM)} {M : zM} {res : (Int32 × zM)} (hrc20 : ∀ s : (Int32 × zM), rc20 s = some res → Z G X (zQi res) 20 [some (.ref 98), some (.int x1), some (.int x2), some (.int x3), some (.int x4), some (.int x5), some (.int s.1), none] [] s.2) (h : gX10_feed_J73 x1 x2 x3 x4 x5 x6 y0 rc20 M = some res) : Z G X (zQi res) 73 [some (.ref 98), some (.int x1), some (.int x2), some (.int x3), some (.int x4), some (.int x5), some (.int x6), none] [.int y0] M := by
  unfold gX10_feed_J73 at h
  refine z_istore hX dX10_feed_73 (by decide) 75 rfl ?_
  refine z_aload_n hX dX10_feed_75 rfl 76 rfl ?_
  refine z_getF hX fX10_7 dX10_feed_76 zs_98 (by decide) rfl 79 rfl ?_
  refine z_aload_n hX dX10_feed_79 rfl 80 rfl ?_
  refine z_getI hX fX10_157 dX10_feed_80 zs_98 (by decide) rfl 83 rfl ?_
  refine z_iload hX dX10_feed_83 rfl 85 rfl ?_
  refine z_iadd hX dX10_feed_85 86 rfl ?_
  refine z_iload hX dX10_feed_86 rfl 88 rfl ?_
  refine z_bipush hX dX10_feed_88 qb_24 90 rfl ?_
  refine z_bipush hX dX10_feed_90 qb_8 92 rfl ?_
  refine z_iload hX dX10_feed_92 rfl 94 rfl ?_
  refine z_iconst hX dX10_feed_94 qi_4 95 rfl ?_
  refine z_irem hX dX10_feed_95 (by decide) 96 rfl ?_
  refine z_imul hX dX10_feed_96 97 rfl ?_
  refine z_isub hX dX10_feed_97 98 rfl ?_
  refine z_ishr hX dX10_feed_98 99 rfl ?_
  refine z_sipush hX dX10_feed_99 qs_255 102 rfl ?_
  refine z_iand hX dX10_feed_102 103 rfl ?_
  obtain ⟨hb, h5_⟩ := zgd h
  refine z_iast hX dX10_feed_103 zs_99 (zok_in hb) 104 rfl ?_
  refine z_mem h5_ (fun M6_ h7_ => ?_)
  refine z_iinc (v := (x6 + 1)) hX dX10_feed_104 rfl (by rfl) (by decide) 107 rfl ?_
  refine z_goto hX dX10_feed_107 20 (by decide) ?_
  refine z_mask [true, true, true, true, true, true, true, false] ?_
  have hz := hrc20 _ h7_
  exact hz
def gX10_feed_L20 (x1 : Int32) (x2 : Int32) (x3 : Int32) (x4 : Int32) (x5 : Int32) (rc20 : (Int32 × zM) → Option (Int32 × zM)) (s : (Int32 × zM)) : Option (Int32 × zM) :=
  (if 20 ≤ s.1 then zlet (zI s.2 98 2 ((s.2.1 98 2) + 20)) (fun M3_ => some ((M3_.1 98 2), M3_))
  else (if 4 ≤ s.1 then (if 8 ≤ s.1 then (if 12 ≤ s.1 then (if 16 ≤ s.1 then gX10_feed_J73 x1 x2 x3 x4 x5 s.1 x5 rc20 s.2
  else gX10_feed_J73 x1 x2 x3 x4 x5 s.1 x4 rc20 s.2)
  else gX10_feed_J73 x1 x2 x3 x4 x5 s.1 x3 rc20 s.2)
  else gX10_feed_J73 x1 x2 x3 x4 x5 s.1 x2 rc20 s.2)
  else gX10_feed_J73 x1 x2 x3 x4 x5 s.1 x1 rc20 s.2))
set_option maxRecDepth 100000 in
set_option maxHeartbeats 2000000 in
theorem aX10_feed_L20 {G : zG} {X : zX} {x1 : Int32} {x2 : Int32} {x3 : Int32} {x4 : Int32} {x5 : Int32} (hX : zC G X cX10_feed 8 RX10 (some .int) 1)    {res : (Int32 × zM)}  : ∀ (N : Nat) (s : (Int32 × zM)), zfix N (gX10_feed_L20 x1 x2 x3 x4 x5) s = some res → Z G X (zQi res) 20 [some (.ref 98), some (.int x1), some (.int x2), some (.int x3), some (.int x4), some (.int x5), some (.int s.1), none] [] s.2 := by
  intro N
  induction N with
  | zero => intro s h; cases h
  | succ N hrc20 =>
    intro s h
    replace h : gX10_feed_L20 x1 x2 x3 x4 x5 (zfix N (gX10_feed_L20 x1 x2 x3 x4 x5)) s = some res := h
    unfold gX10_feed_L20 at h
    refine z_iload hX dX10_feed_20 rfl 22 rfl ?_
    refine z_bipush hX dX10_feed_22 qb_20 24 rfl ?_
    refine z_icmp_ge hX dX10_feed_24 110 27 (by decide) rfl (fun hc => ?_) (fun hc => ?_)
    · rw [if_pos hc] at h
      refine z_aload_n hX dX10_feed_110 rfl 111 rfl ?_
      refine z_dup hX dX10_feed_111 rfl 112 rfl ?_
      refine z_getI hX fX10_157 dX10_feed_112 zs_98 (by decide) rfl 115 rfl ?_
      refine z_bipush hX dX10_feed_115 qb_20 117 rfl ?_
      refine z_iadd hX dX10_feed_117 118 rfl ?_
      refine z_putI hX pX10_157 dX10_feed_118 zs_98 (by decide) rfl 121 rfl ?_
      refine z_mem h (fun M3_ h4_ => ?_)
      refine z_aload_n hX dX10_feed_121 rfl 122 rfl ?_
      refine z_getI hX fX10_157 dX10_feed_122 zs_98 (by decide) rfl 125 rfl ?_
      exact z_ireturn hX dX10_feed_125 (zend_i h4_)
    · rw [if_neg hc] at h
      refine z_iload hX dX10_feed_27 rfl 29 rfl ?_
      refine z_iconst hX dX10_feed_29 qi_4 30 rfl ?_
      refine z_icmp_ge hX dX10_feed_30 37 33 (by decide) rfl (fun hc => ?_) (fun hc => ?_)
      · rw [if_pos hc] at h
        refine z_iload hX dX10_feed_37 rfl 39 rfl ?_
        refine z_bipush hX dX10_feed_39 qb_8 41 rfl ?_
        refine z_icmp_ge hX dX10_feed_41 48 44 (by decide) rfl (fun hc => ?_) (fun hc => ?_)
        · rw [if_pos hc] at h
          refine z_iload hX dX10_feed_48 rfl 50 rfl ?_
          refine z_bipush hX dX10_feed_50 qb_12 52 rfl ?_
          refine z_icmp_ge hX dX10_feed_52 59 55 (by decide) rfl (fun hc => ?_) (fun hc => ?_)
          · rw [if_pos hc] at h
            refine z_iload hX dX10_feed_59 rfl 61 rfl ?_
            refine z_bipush hX dX10_feed_61 qb_16 63 rfl ?_
            refine z_icmp_ge hX dX10_feed_63 71 66 (by decide) rfl (fun hc => ?_) (fun hc => ?_)
            · rw [if_pos hc] at h
              refine z_iload hX dX10_feed_71 rfl 73 rfl ?_
              refine z_mask [true, true, true, true, true, true, true, false] ?_
              have hz := aX10_feed_J73 hX hrc20 h
              exact hz
            · rw [if_neg hc] at h
              refine z_iload hX dX10_feed_66 rfl 68 rfl ?_
              refine z_goto hX dX10_feed_68 73 (by decide) ?_
              refine z_mask [true, true, true, true, true, true, true, false] ?_
              have hz := aX10_feed_J73 hX hrc20 h
              exact hz
          · rw [if_neg hc] at h
            refine z_iload_n hX dX10_feed_55 rfl 56 rfl ?_
            refine z_goto hX dX10_feed_56 73 (by decide) ?_
            refine z_mask [true, true, true, true, true, true, true, false] ?_
            have hz := aX10_feed_J73 hX hrc20 h
            exact hz
        · rw [if_neg hc] at h
          refine z_iload_n hX dX10_feed_44 rfl 45 rfl ?_
          refine z_goto hX dX10_feed_45 73 (by decide) ?_
          refine z_mask [true, true, true, true, true, true, true, false] ?_
          have hz := aX10_feed_J73 hX hrc20 h
          exact hz
      · rw [if_neg hc] at h
        refine z_iload_n hX dX10_feed_33 rfl 34 rfl ?_
        refine z_goto hX dX10_feed_34 73 (by decide) ?_
        refine z_mask [true, true, true, true, true, true, true, false] ?_
        have hz := aX10_feed_J73 hX hrc20 h
        exact hz
def gX10_feed (x1 : Int32) (x2 : Int32) (x3 : Int32) (x4 : Int32) (x5 : Int32) (M : zM) : Option (Int32 × zM) :=
  zlet (zI M 98 0 0) (fun M1_ => (if (M1_.1 98 2) ≤ 680 then zfix zFu (gX10_feed_L20 x1 x2 x3 x4 x5) (0, M1_)
  else some ((-1), M1_)))
set_option maxRecDepth 100000 in
set_option maxHeartbeats 2000000 in
theorem mX10_feed {G : zG} {x1 : Int32} {x2 : Int32} {x3 : Int32} {x4 : Int32} {x5 : Int32} {M : zM}  {res : (Int32 × zM)} (h : gX10_feed x1 x2 x3 x4 x5 M = some res) : Ct G 1 tX10_feed [.ref 98, .int x1, .int x2, .int x3, .int x4, .int x5] M (zQi res) := by
  unfold gX10_feed at h
  refine Ct.of (y := yX10_feed) rfl plX10 (Nat.le_of_ble_eq_true rfl) (fun X hX => ?_)
  replace hX : zC G X cX10_feed 8 RX10 (some .int) 1 := hX
  show Z G X _ 0 [some (.ref 98), some (.int x1), some (.int x2), some (.int x3), some (.int x4), some (.int x5), none, none] [] M
  refine z_aload_n hX dX10_feed_0 rfl 1 rfl ?_
  refine z_iconst hX dX10_feed_1 qi_0 2 rfl ?_
  refine z_putI hX pX10_154 dX10_feed_2 zs_98 (by decide) rfl 5 rfl ?_
  refine z_mem h (fun M1_ h2_ => ?_)
  refine z_aload_n hX dX10_feed_5 rfl 6 rfl ?_
  refine z_getI hX fX10_157 dX10_feed_6 zs_98 (by decide) rfl 9 rfl ?_
  refine z_sipush hX dX10_feed_9 qs_680 12 rfl ?_
  refine z_icmp_le hX dX10_feed_12 17 15 (by decide) rfl (fun hc => ?_) (fun hc => ?_)
  · rw [if_pos hc] at h2_
    refine z_iconst hX dX10_feed_17 qi_0 18 rfl ?_
    refine z_istore hX dX10_feed_18 (by decide) 20 rfl ?_
    refine z_mask [true, true, true, true, true, true, true, false] ?_
    have hz := aX10_feed_L20 hX _ _ h2_
    exact hz
  · rw [if_neg hc] at h2_
    refine z_iconst hX dX10_feed_15 qi_m1 16 rfl ?_
    exact z_ireturn hX dX10_feed_16 (zend_i h2_)
def gX10_here (M : zM) : Option Int32 :=
  (if (M.1 98 21) ≤ (M.1 98 22) then some (-1)
  else zg (zok (M.1 98 22) 700) (some (M.1 99 ((M.1 98 22) : Int32).toNatClampNeg)))
set_option maxRecDepth 100000 in
set_option maxHeartbeats 2000000 in
theorem mX10_here {G : zG}  {M : zM}  {res : Int32} (h : gX10_here M = some res) : Ct G 1 tX10_here [.ref 98] M (zQip M res) := by
  unfold gX10_here at h
  refine Ct.of (y := yX10_here) rfl plX10 (Nat.le_of_ble_eq_true rfl) (fun X hX => ?_)
  replace hX : zC G X cX10_here 1 RX10 (some .int) 1 := hX
  show Z G X _ 0 [some (.ref 98)] [] M
  refine z_aload_n hX dX10_here_0 rfl 1 rfl ?_
  refine z_getI hX fX10_160 dX10_here_1 zs_98 (by decide) rfl 4 rfl ?_
  refine z_aload_n hX dX10_here_4 rfl 5 rfl ?_
  refine z_getI hX fX10_163 dX10_here_5 zs_98 (by decide) rfl 8 rfl ?_
  refine z_icmp_ge hX dX10_here_8 23 11 (by decide) rfl (fun hc => ?_) (fun hc => ?_)
  · rw [if_pos hc] at h
    refine z_iconst hX dX10_here_23 qi_m1 24 rfl ?_
    exact z_ireturn hX dX10_here_24 (zend_ip h)
  · rw [if_neg hc] at h
    refine z_aload_n hX dX10_here_11 rfl 12 rfl ?_
    refine z_getF hX fX10_7 dX10_here_12 zs_98 (by decide) rfl 15 rfl ?_
    refine z_aload_n hX dX10_here_15 rfl 16 rfl ?_
    refine z_getI hX fX10_160 dX10_here_16 zs_98 (by decide) rfl 19 rfl ?_
    obtain ⟨hb, h1_⟩ := zgd h
    refine z_iald hX dX10_here_19 zs_99 (zok_in hb) 20 rfl ?_
    refine z_goto hX dX10_here_20 24 (by decide) ?_
    exact z_ireturn hX dX10_here_24 (zend_ip h1_)
def gX10_isSmall (x0 : Int32) (M : zM) : Option Int32 :=
  (if x0 < 97 then some 0
  else (if 122 < x0 then some 0
  else some 1))
set_option maxRecDepth 100000 in
set_option maxHeartbeats 2000000 in
theorem mX10_isSmall {G : zG} {x0 : Int32} {M : zM}  {res : Int32} (h : gX10_isSmall x0 M = some res) : Ct G 1 tX10_isSmall [.int x0] M (zQip M res) := by
  unfold gX10_isSmall at h
  refine Ct.of (y := yX10_isSmall) rfl plX10 (Nat.le_of_ble_eq_true rfl) (fun X hX => ?_)
  replace hX : zC G X cX10_isSmall 1 RX10 (some .boolean) 1 := hX
  show Z G X _ 0 [some (.int x0)] [] M
  refine z_iload_n hX dX10_isSmall_0 rfl 1 rfl ?_
  refine z_bipush hX dX10_isSmall_1 qb_97 3 rfl ?_
  refine z_icmp_lt hX dX10_isSmall_3 16 6 (by decide) rfl (fun hc => ?_) (fun hc => ?_)
  · rw [if_pos hc] at h
    refine z_iconst hX dX10_isSmall_16 qi_0 17 rfl ?_
    exact z_zreturn hX dX10_isSmall_17 (by decide) (zend_ip h)
  · rw [if_neg hc] at h
    refine z_iload_n hX dX10_isSmall_6 rfl 7 rfl ?_
    refine z_bipush hX dX10_isSmall_7 qb_122 9 rfl ?_
    refine z_icmp_gt hX dX10_isSmall_9 16 12 (by decide) rfl (fun hc => ?_) (fun hc => ?_)
    · rw [if_pos hc] at h
      refine z_iconst hX dX10_isSmall_16 qi_0 17 rfl ?_
      exact z_zreturn hX dX10_isSmall_17 (by decide) (zend_ip h)
    · rw [if_neg hc] at h
      refine z_iconst hX dX10_isSmall_12 qi_1 13 rfl ?_
      refine z_goto hX dX10_isSmall_13 17 (by decide) ?_
      exact z_zreturn hX dX10_isSmall_17 (by decide) (zend_ip h)
def gX10_isDigit (x0 : Int32) (M : zM) : Option Int32 :=
  (if x0 < 48 then some 0
  else (if 57 < x0 then some 0
  else some 1))
set_option maxRecDepth 100000 in
set_option maxHeartbeats 2000000 in
theorem mX10_isDigit {G : zG} {x0 : Int32} {M : zM}  {res : Int32} (h : gX10_isDigit x0 M = some res) : Ct G 1 tX10_isDigit [.int x0] M (zQip M res) := by
  unfold gX10_isDigit at h
  refine Ct.of (y := yX10_isDigit) rfl plX10 (Nat.le_of_ble_eq_true rfl) (fun X hX => ?_)
  replace hX : zC G X cX10_isDigit 1 RX10 (some .boolean) 1 := hX
  show Z G X _ 0 [some (.int x0)] [] M
  refine z_iload_n hX dX10_isDigit_0 rfl 1 rfl ?_
  refine z_bipush hX dX10_isDigit_1 qb_48 3 rfl ?_
  refine z_icmp_lt hX dX10_isDigit_3 16 6 (by decide) rfl (fun hc => ?_) (fun hc => ?_)
  · rw [if_pos hc] at h
    refine z_iconst hX dX10_isDigit_16 qi_0 17 rfl ?_
    exact z_zreturn hX dX10_isDigit_17 (by decide) (zend_ip h)
  · rw [if_neg hc] at h
    refine z_iload_n hX dX10_isDigit_6 rfl 7 rfl ?_
    refine z_bipush hX dX10_isDigit_7 qb_57 9 rfl ?_
    refine z_icmp_gt hX dX10_isDigit_9 16 12 (by decide) rfl (fun hc => ?_) (fun hc => ?_)
    · rw [if_pos hc] at h
      refine z_iconst hX dX10_isDigit_16 qi_0 17 rfl ?_
      exact z_zreturn hX dX10_isDigit_17 (by decide) (zend_ip h)
    · rw [if_neg hc] at h
      refine z_iconst hX dX10_isDigit_12 qi_1 13 rfl ?_
      refine z_goto hX dX10_isDigit_13 17 (by decide) ?_
      exact z_zreturn hX dX10_isDigit_17 (by decide) (zend_ip h)
def gX10_sign_J150 (M : zM) : Option zM :=
  (if (M.1 98 25) < 256 then some M
  else zlet (zI M 98 22 ((M.1 98 22) + 1)) (fun M7_ => some M7_))
set_option maxRecDepth 100000 in
set_option maxHeartbeats 2000000 in
theorem aX10_sign_J150 {G : zG} {X : zX} (hX : zC G X cX10_sign 2 RX10 none 2)   {M : zM} {res : zM}  (h : gX10_sign_J150 M = some res) : Z G X (zQv res) 150 [some (.ref 98), none] [] M := by
  unfold gX10_sign_J150 at h
  refine z_aload_n hX dX10_sign_150 rfl 151 rfl ?_
  refine z_getI hX fX10_183 dX10_sign_151 zs_98 (by decide) rfl 154 rfl ?_
  refine z_sipush hX dX10_sign_154 qs_256 157 rfl ?_
  refine z_icmp_lt hX dX10_sign_157 170 160 (by decide) rfl (fun hc => ?_) (fun hc => ?_)
  · rw [if_pos hc] at h
    exact z_return hX dX10_sign_170 (zend_v h)
  · rw [if_neg hc] at h
    refine z_aload_n hX dX10_sign_160 rfl 161 rfl ?_
    refine z_dup hX dX10_sign_161 rfl 162 rfl ?_
    refine z_getI hX fX10_160 dX10_sign_162 zs_98 (by decide) rfl 165 rfl ?_
    refine z_iconst hX dX10_sign_165 qi_1 166 rfl ?_
    refine z_iadd hX dX10_sign_166 167 rfl ?_
    refine z_putI hX pX10_160 dX10_sign_167 zs_98 (by decide) rfl 170 rfl ?_
    refine z_mem h (fun M7_ h8_ => ?_)
    exact z_return hX dX10_sign_170 (zend_v h8_)
def gX10_sign_J128 (x1 : Int32) (M : zM) : Option zM :=
  (if x1 = 62 then zcI (gX10_here M) (fun v9_ => (if v9_ = 61 then zlet (zI M 98 25 258) (fun M11_ => gX10_sign_J150 M11_)
  else gX10_sign_J150 M))
  else gX10_sign_J150 M)
set_option maxRecDepth 100000 in
set_option maxHeartbeats 2000000 in
theorem aX10_sign_J128 {G : zG} {X : zX} {x1 : Int32} (hX : zC G X cX10_sign 2 RX10 none 2)   {M : zM} {res : zM}  (h : gX10_sign_J128 x1 M = some res) : Z G X (zQv res) 128 [some (.ref 98), some (.int x1)] [] M := by
  unfold gX10_sign_J128 at h
  refine z_iload_n hX dX10_sign_128 rfl 129 rfl ?_
  refine z_bipush hX dX10_sign_129 qb_62 131 rfl ?_
  refine z_icmp_ne hX dX10_sign_131 150 134 (by decide) rfl (fun hc => ?_) (fun hc => ?_)
  · rw [if_neg hc] at h
    refine z_mask [true, false] ?_
    have hz := aX10_sign_J150 hX h
    exact hz
  · rw [if_pos hc] at h
    refine z_aload_n hX dX10_sign_134 rfl 135 rfl ?_
    obtain ⟨v9_, hq, h10_⟩ := zcI_of h
    refine z_callV hX vX10_here lX10_166 dX10_sign_135 zs_98 rfl (mX10_here  hq) (by decide) rfl rfl (Nat.le_of_ble_eq_true rfl) 138 rfl (Qi.to (fun v' M' hv => ?_))
    obtain ⟨rfl, rfl⟩ := hv
    refine z_bipush hX dX10_sign_138 qb_61 140 rfl ?_
    refine z_icmp_ne hX dX10_sign_140 150 143 (by decide) rfl (fun hc => ?_) (fun hc => ?_)
    · rw [if_neg hc] at h10_
      refine z_mask [true, false] ?_
      have hz := aX10_sign_J150 hX h10_
      exact hz
    · rw [if_pos hc] at h10_
      refine z_aload_n hX dX10_sign_143 rfl 144 rfl ?_
      refine z_sipush hX dX10_sign_144 qs_258 147 rfl ?_
      refine z_putI hX pX10_183 dX10_sign_147 zs_98 (by decide) rfl 150 rfl ?_
      refine z_mem h10_ (fun M11_ h12_ => ?_)
      refine z_mask [true, false] ?_
      have hz := aX10_sign_J150 hX h12_
      exact hz
def gX10_sign_J106 (x1 : Int32) (M : zM) : Option zM :=
  (if x1 = 60 then zcI (gX10_here M) (fun v13_ => (if v13_ = 62 then zlet (zI M 98 25 257) (fun M15_ => gX10_sign_J128 x1 M15_)
  else gX10_sign_J128 x1 M))
  else gX10_sign_J128 x1 M)
set_option maxRecDepth 100000 in
set_option maxHeartbeats 2000000 in
theorem aX10_sign_J106 {G : zG} {X : zX} {x1 : Int32} (hX : zC G X cX10_sign 2 RX10 none 2)   {M : zM} {res : zM}  (h : gX10_sign_J106 x1 M = some res) : Z G X (zQv res) 106 [some (.ref 98), some (.int x1)] [] M := by
  unfold gX10_sign_J106 at h
  refine z_iload_n hX dX10_sign_106 rfl 107 rfl ?_
  refine z_bipush hX dX10_sign_107 qb_60 109 rfl ?_
  refine z_icmp_ne hX dX10_sign_109 128 112 (by decide) rfl (fun hc => ?_) (fun hc => ?_)
  · rw [if_neg hc] at h
    refine z_mask [true, true] ?_
    have hz := aX10_sign_J128 hX h
    exact hz
  · rw [if_pos hc] at h
    refine z_aload_n hX dX10_sign_112 rfl 113 rfl ?_
    obtain ⟨v13_, hq, h14_⟩ := zcI_of h
    refine z_callV hX vX10_here lX10_166 dX10_sign_113 zs_98 rfl (mX10_here  hq) (by decide) rfl rfl (Nat.le_of_ble_eq_true rfl) 116 rfl (Qi.to (fun v' M' hv => ?_))
    obtain ⟨rfl, rfl⟩ := hv
    refine z_bipush hX dX10_sign_116 qb_62 118 rfl ?_
    refine z_icmp_ne hX dX10_sign_118 128 121 (by decide) rfl (fun hc => ?_) (fun hc => ?_)
    · rw [if_neg hc] at h14_
      refine z_mask [true, true] ?_
      have hz := aX10_sign_J128 hX h14_
      exact hz
    · rw [if_pos hc] at h14_
      refine z_aload_n hX dX10_sign_121 rfl 122 rfl ?_
      refine z_sipush hX dX10_sign_122 qs_257 125 rfl ?_
      refine z_putI hX pX10_183 dX10_sign_125 zs_98 (by decide) rfl 128 rfl ?_
      refine z_mem h14_ (fun M15_ h16_ => ?_)
      refine z_mask [true, true] ?_
      have hz := aX10_sign_J128 hX h16_
      exact hz
def gX10_sign_J76 (x1 : Int32) (y1 : Int32) (M : zM) : Option zM :=
  zlet (zI M 98 24 y1) (fun M3_ => zlet (zI M3_ 98 25 x1) (fun M5_ => (if x1 = 60 then zcI (gX10_here M5_) (fun v17_ => (if v17_ = 61 then zlet (zI M5_ 98 25 256) (fun M19_ => gX10_sign_J106 x1 M19_)
  else gX10_sign_J106 x1 M5_))
  else gX10_sign_J106 x1 M5_)))
set_option maxRecDepth 100000 in
set_option maxHeartbeats 2000000 in
theorem aX10_sign_J76 {G : zG} {X : zX} {x1 : Int32} {y1 : Int32} (hX : zC G X cX10_sign 2 RX10 none 2)   {M : zM} {res : zM}  (h : gX10_sign_J76 x1 y1 M = some res) : Z G X (zQv res) 76 [some (.ref 98), some (.int x1)] [.int y1, .ref 98] M := by
  unfold gX10_sign_J76 at h
  refine z_putI hX pX10_173 dX10_sign_76 zs_98 (by decide) rfl 79 rfl ?_
  refine z_mem h (fun M3_ h4_ => ?_)
  refine z_aload_n hX dX10_sign_79 rfl 80 rfl ?_
  refine z_iload_n hX dX10_sign_80 rfl 81 rfl ?_
  refine z_putI hX pX10_183 dX10_sign_81 zs_98 (by decide) rfl 84 rfl ?_
  refine z_mem h4_ (fun M5_ h6_ => ?_)
  refine z_iload_n hX dX10_sign_84 rfl 85 rfl ?_
  refine z_bipush hX dX10_sign_85 qb_60 87 rfl ?_
  refine z_icmp_ne hX dX10_sign_87 106 90 (by decide) rfl (fun hc => ?_) (fun hc => ?_)
  · rw [if_neg hc] at h6_
    refine z_mask [true, true] ?_
    have hz := aX10_sign_J106 hX h6_
    exact hz
  · rw [if_pos hc] at h6_
    refine z_aload_n hX dX10_sign_90 rfl 91 rfl ?_
    obtain ⟨v17_, hq, h18_⟩ := zcI_of h6_
    refine z_callV hX vX10_here lX10_166 dX10_sign_91 zs_98 rfl (mX10_here  hq) (by decide) rfl rfl (Nat.le_of_ble_eq_true rfl) 94 rfl (Qi.to (fun v' M' hv => ?_))
    obtain ⟨rfl, rfl⟩ := hv
    refine z_bipush hX dX10_sign_94 qb_61 96 rfl ?_
    refine z_icmp_ne hX dX10_sign_96 106 99 (by decide) rfl (fun hc => ?_) (fun hc => ?_)
    · rw [if_neg hc] at h18_
      refine z_mask [true, true] ?_
      have hz := aX10_sign_J106 hX h18_
      exact hz
    · rw [if_pos hc] at h18_
      refine z_aload_n hX dX10_sign_99 rfl 100 rfl ?_
      refine z_sipush hX dX10_sign_100 qs_256 103 rfl ?_
      refine z_putI hX pX10_183 dX10_sign_103 zs_98 (by decide) rfl 106 rfl ?_
      refine z_mem h18_ (fun M19_ h20_ => ?_)
      refine z_mask [true, true] ?_
      have hz := aX10_sign_J106 hX h20_
      exact hz
def gX10_sign_J71 (x1 : Int32) (M : zM) : Option zM :=
  gX10_sign_J76 x1 3 M
set_option maxRecDepth 100000 in
set_option maxHeartbeats 2000000 in
theorem aX10_sign_J71 {G : zG} {X : zX} {x1 : Int32} (hX : zC G X cX10_sign 2 RX10 none 2)   {M : zM} {res : zM}  (h : gX10_sign_J71 x1 M = some res) : Z G X (zQv res) 71 [some (.ref 98), some (.int x1)] [.ref 98] M := by
  unfold gX10_sign_J71 at h
  refine z_iconst hX dX10_sign_71 qi_3 72 rfl ?_
  refine z_goto hX dX10_sign_72 76 (by decide) ?_
  refine z_mask [true, true] ?_
  have hz := aX10_sign_J76 hX h
  exact hz
def gX10_sign (x1 : Int32) (M : zM) : Option zM :=
  zlet (zI M 98 22 ((M.1 98 22) + 1)) (fun M1_ => (if x1 = 59 then gX10_sign_J71 x1 M1_
  else (if x1 = 40 then gX10_sign_J71 x1 M1_
  else (if x1 = 41 then gX10_sign_J71 x1 M1_
  else (if x1 = 43 then gX10_sign_J71 x1 M1_
  else (if x1 = 45 then gX10_sign_J71 x1 M1_
  else (if x1 = 42 then gX10_sign_J71 x1 M1_
  else (if x1 = 47 then gX10_sign_J71 x1 M1_
  else (if x1 = 60 then gX10_sign_J71 x1 M1_
  else (if x1 = 61 then gX10_sign_J71 x1 M1_
  else (if x1 = 62 then gX10_sign_J71 x1 M1_
  else gX10_sign_J76 x1 5 M1_)))))))))))
set_option maxRecDepth 100000 in
set_option maxHeartbeats 2000000 in
theorem mX10_sign {G : zG} {x1 : Int32} {M : zM}  {res : zM} (h : gX10_sign x1 M = some res) : Ct G 2 tX10_sign [.ref 98, .int x1] M (zQv res) := by
  unfold gX10_sign at h
  refine Ct.of (y := yX10_sign) rfl plX10 (Nat.le_of_ble_eq_true rfl) (fun X hX => ?_)
  replace hX : zC G X cX10_sign 2 RX10 none 2 := hX
  show Z G X _ 0 [some (.ref 98), some (.int x1)] [] M
  refine z_aload_n hX dX10_sign_0 rfl 1 rfl ?_
  refine z_dup hX dX10_sign_1 rfl 2 rfl ?_
  refine z_getI hX fX10_160 dX10_sign_2 zs_98 (by decide) rfl 5 rfl ?_
  refine z_iconst hX dX10_sign_5 qi_1 6 rfl ?_
  refine z_iadd hX dX10_sign_6 7 rfl ?_
  refine z_putI hX pX10_160 dX10_sign_7 zs_98 (by decide) rfl 10 rfl ?_
  refine z_mem h (fun M1_ h2_ => ?_)
  refine z_aload_n hX dX10_sign_10 rfl 11 rfl ?_
  refine z_iload_n hX dX10_sign_11 rfl 12 rfl ?_
  refine z_bipush hX dX10_sign_12 qb_59 14 rfl ?_
  refine z_icmp_eq hX dX10_sign_14 71 17 (by decide) rfl (fun hc => ?_) (fun hc => ?_)
  · rw [if_pos hc] at h2_
    refine z_mask [true, true] ?_
    have hz := aX10_sign_J71 hX h2_
    exact hz
  · rw [if_neg hc] at h2_
    refine z_iload_n hX dX10_sign_17 rfl 18 rfl ?_
    refine z_bipush hX dX10_sign_18 qb_40 20 rfl ?_
    refine z_icmp_eq hX dX10_sign_20 71 23 (by decide) rfl (fun hc => ?_) (fun hc => ?_)
    · rw [if_pos hc] at h2_
      refine z_mask [true, true] ?_
      have hz := aX10_sign_J71 hX h2_
      exact hz
    · rw [if_neg hc] at h2_
      refine z_iload_n hX dX10_sign_23 rfl 24 rfl ?_
      refine z_bipush hX dX10_sign_24 qb_41 26 rfl ?_
      refine z_icmp_eq hX dX10_sign_26 71 29 (by decide) rfl (fun hc => ?_) (fun hc => ?_)
      · rw [if_pos hc] at h2_
        refine z_mask [true, true] ?_
        have hz := aX10_sign_J71 hX h2_
        exact hz
      · rw [if_neg hc] at h2_
        refine z_iload_n hX dX10_sign_29 rfl 30 rfl ?_
        refine z_bipush hX dX10_sign_30 qb_43 32 rfl ?_
        refine z_icmp_eq hX dX10_sign_32 71 35 (by decide) rfl (fun hc => ?_) (fun hc => ?_)
        · rw [if_pos hc] at h2_
          refine z_mask [true, true] ?_
          have hz := aX10_sign_J71 hX h2_
          exact hz
        · rw [if_neg hc] at h2_
          refine z_iload_n hX dX10_sign_35 rfl 36 rfl ?_
          refine z_bipush hX dX10_sign_36 qb_45 38 rfl ?_
          refine z_icmp_eq hX dX10_sign_38 71 41 (by decide) rfl (fun hc => ?_) (fun hc => ?_)
          · rw [if_pos hc] at h2_
            refine z_mask [true, true] ?_
            have hz := aX10_sign_J71 hX h2_
            exact hz
          · rw [if_neg hc] at h2_
            refine z_iload_n hX dX10_sign_41 rfl 42 rfl ?_
            refine z_bipush hX dX10_sign_42 qb_42 44 rfl ?_
            refine z_icmp_eq hX dX10_sign_44 71 47 (by decide) rfl (fun hc => ?_) (fun hc => ?_)
            · rw [if_pos hc] at h2_
              refine z_mask [true, true] ?_
              have hz := aX10_sign_J71 hX h2_
              exact hz
            · rw [if_neg hc] at h2_
              refine z_iload_n hX dX10_sign_47 rfl 48 rfl ?_
              refine z_bipush hX dX10_sign_48 qb_47 50 rfl ?_
              refine z_icmp_eq hX dX10_sign_50 71 53 (by decide) rfl (fun hc => ?_) (fun hc => ?_)
              · rw [if_pos hc] at h2_
                refine z_mask [true, true] ?_
                have hz := aX10_sign_J71 hX h2_
                exact hz
              · rw [if_neg hc] at h2_
                refine z_iload_n hX dX10_sign_53 rfl 54 rfl ?_
                refine z_bipush hX dX10_sign_54 qb_60 56 rfl ?_
                refine z_icmp_eq hX dX10_sign_56 71 59 (by decide) rfl (fun hc => ?_) (fun hc => ?_)
                · rw [if_pos hc] at h2_
                  refine z_mask [true, true] ?_
                  have hz := aX10_sign_J71 hX h2_
                  exact hz
                · rw [if_neg hc] at h2_
                  refine z_iload_n hX dX10_sign_59 rfl 60 rfl ?_
                  refine z_bipush hX dX10_sign_60 qb_61 62 rfl ?_
                  refine z_icmp_eq hX dX10_sign_62 71 65 (by decide) rfl (fun hc => ?_) (fun hc => ?_)
                  · rw [if_pos hc] at h2_
                    refine z_mask [true, true] ?_
                    have hz := aX10_sign_J71 hX h2_
                    exact hz
                  · rw [if_neg hc] at h2_
                    refine z_iload_n hX dX10_sign_65 rfl 66 rfl ?_
                    refine z_bipush hX dX10_sign_66 qb_62 68 rfl ?_
                    refine z_icmp_ne hX dX10_sign_68 75 71 (by decide) rfl (fun hc => ?_) (fun hc => ?_)
                    · rw [if_neg hc] at h2_
                      refine z_iconst hX dX10_sign_75 qi_5 76 rfl ?_
                      refine z_mask [true, true] ?_
                      have hz := aX10_sign_J76 hX h2_
                      exact hz
                    · rw [if_pos hc] at h2_
                      refine z_mask [true, true] ?_
                      have hz := aX10_sign_J71 hX h2_
                      exact hz
def gX10_word_L97 (x1 : Int32) (rc4 : (Int32 × Int32) → Option Int32) (M : zM) (rc97 : Int32 → Option Int32) (s : Int32) : Option Int32 :=
  zg (zok s 108) ((if (zTb.getD (s : Int32).toNatClampNeg 0) = 32 then rc4 ((x1 + 1), (s + 1))
  else rc97 (s + 1)))
set_option maxRecDepth 100000 in
set_option maxHeartbeats 2000000 in
theorem aX10_word_L97 {G : zG} {X : zX} {x1 : Int32} (hX : zC G X cX10_word 4 RX10 (some .int) 5)  {rc4 : (Int32 × Int32) → Option Int32} {M : zM} {res : Int32} (hrc4 : ∀ s : (Int32 × Int32), rc4 s = some res → Z G X (zQip M res) 4 [some (.ref 98), some (.int s.1), some (.int s.2), none] [] M) : ∀ (N : Nat) (s : Int32), zfix N (gX10_word_L97 x1 rc4 M) s = some res → Z G X (zQip M res) 97 [some (.ref 98), some (.int x1), some (.int s), none] [] M := by
  intro N
  induction N with
  | zero => intro s h; cases h
  | succ N hrc97 =>
    intro s h
    replace h : gX10_word_L97 x1 rc4 M (zfix N (gX10_word_L97 x1 rc4 M)) s = some res := h
    unfold gX10_word_L97 at h
    refine z_ldcS hX dX10_word_97 99 rfl ?_
    refine z_iload_n hX dX10_word_99 rfl 100 rfl ?_
    obtain ⟨hb, h3_⟩ := zgd h
    refine z_callVS hX vS_charAt rfl lX10_204 dX10_word_100 (mS_charAt hb) (by decide) rfl rfl (Nat.le_of_ble_eq_true rfl) 103 rfl (Qi.to (fun v' M' hv => ?_))
    obtain ⟨rfl, rfl⟩ := hv
    refine z_bipush hX dX10_word_103 qb_32 105 rfl ?_
    refine z_icmp_eq hX dX10_word_105 114 108 (by decide) rfl (fun hc => ?_) (fun hc => ?_)
    · rw [if_pos hc] at h3_
      refine z_iinc (v := (s + 1)) hX dX10_word_114 rfl (by rfl) (by decide) 117 rfl ?_
      refine z_iinc (v := (x1 + 1)) hX dX10_word_117 rfl (by rfl) (by decide) 120 rfl ?_
      refine z_goto hX dX10_word_120 4 (by decide) ?_
      refine z_mask [true, true, true, false] ?_
      have hz := hrc4 _ h3_
      exact hz
    · rw [if_neg hc] at h3_
      refine z_iinc (v := (s + 1)) hX dX10_word_108 rfl (by rfl) (by decide) 111 rfl ?_
      refine z_goto hX dX10_word_111 97 (by decide) ?_
      refine z_mask [true, true, true, false] ?_
      have hz := hrc97 _ h3_
      exact hz
def gX10_word_J69 (x1 : Int32) (x2 : Int32) (x3 : Int32) (rc4 : (Int32 × Int32) → Option Int32) (M : zM) : Option Int32 :=
  zg (zok (x2 + x3) 108) ((if (zTb.getD ((x2 + x3) : Int32).toNatClampNeg 0) = 32 then (if ((M.1 98 23) + x3) = (M.1 98 22) then some x1
  else zfix zFu (gX10_word_L97 x1 rc4 M) x2)
  else zfix zFu (gX10_word_L97 x1 rc4 M) x2))
set_option maxRecDepth 100000 in
set_option maxHeartbeats 2000000 in
theorem aX10_word_J69 {G : zG} {X : zX} {x1 : Int32} {x2 : Int32} {x3 : Int32} (hX : zC G X cX10_word 4 RX10 (some .int) 5)  {rc4 : (Int32 × Int32) → Option Int32} {M : zM} {res : Int32} (hrc4 : ∀ s : (Int32 × Int32), rc4 s = some res → Z G X (zQip M res) 4 [some (.ref 98), some (.int s.1), some (.int s.2), none] [] M) (h : gX10_word_J69 x1 x2 x3 rc4 M = some res) : Z G X (zQip M res) 69 [some (.ref 98), some (.int x1), some (.int x2), some (.int x3)] [] M := by
  unfold gX10_word_J69 at h
  refine z_ldcS hX dX10_word_69 71 rfl ?_
  refine z_iload_n hX dX10_word_71 rfl 72 rfl ?_
  refine z_iload_n hX dX10_word_72 rfl 73 rfl ?_
  refine z_iadd hX dX10_word_73 74 rfl ?_
  obtain ⟨hb, h2_⟩ := zgd h
  refine z_callVS hX vS_charAt rfl lX10_204 dX10_word_74 (mS_charAt hb) (by decide) rfl rfl (Nat.le_of_ble_eq_true rfl) 77 rfl (Qi.to (fun v' M' hv => ?_))
  obtain ⟨rfl, rfl⟩ := hv
  refine z_bipush hX dX10_word_77 qb_32 79 rfl ?_
  refine z_icmp_ne hX dX10_word_79 97 82 (by decide) rfl (fun hc => ?_) (fun hc => ?_)
  · rw [if_neg hc] at h2_
    refine z_mask [true, true, true, false] ?_
    have hz := aX10_word_L97 hX hrc4 _ _ h2_
    exact hz
  · rw [if_pos hc] at h2_
    refine z_aload_n hX dX10_word_82 rfl 83 rfl ?_
    refine z_getI hX fX10_170 dX10_word_83 zs_98 (by decide) rfl 86 rfl ?_
    refine z_iload_n hX dX10_word_86 rfl 87 rfl ?_
    refine z_iadd hX dX10_word_87 88 rfl ?_
    refine z_aload_n hX dX10_word_88 rfl 89 rfl ?_
    refine z_getI hX fX10_160 dX10_word_89 zs_98 (by decide) rfl 92 rfl ?_
    refine z_icmp_ne hX dX10_word_92 97 95 (by decide) rfl (fun hc => ?_) (fun hc => ?_)
    · rw [if_neg hc] at h2_
      refine z_mask [true, true, true, false] ?_
      have hz := aX10_word_L97 hX hrc4 _ _ h2_
      exact hz
    · rw [if_pos hc] at h2_
      refine z_iload_n hX dX10_word_95 rfl 96 rfl ?_
      exact z_ireturn hX dX10_word_96 (zend_ip h2_)
def gX10_word_L15 (x1 : Int32) (x2 : Int32) (rc4 : (Int32 × Int32) → Option Int32) (M : zM) (rc15 : Int32 → Option Int32) (s : Int32) : Option Int32 :=
  zg (zok (x2 + s) 108) ((if (zTb.getD ((x2 + s) : Int32).toNatClampNeg 0) = 32 then gX10_word_J69 x1 x2 s rc4 M
  else (if (M.1 98 22) ≤ ((M.1 98 23) + s) then gX10_word_J69 x1 x2 s rc4 M
  else zg (zok ((M.1 98 23) + s) 700) (zg (zok (x2 + s) 108) ((if (M.1 99 (((M.1 98 23) + s) : Int32).toNatClampNeg) = (zTb.getD ((x2 + s) : Int32).toNatClampNeg 0) then rc15 (s + 1)
  else gX10_word_J69 x1 x2 s rc4 M))))))
set_option maxRecDepth 100000 in
set_option maxHeartbeats 2000000 in
theorem aX10_word_L15 {G : zG} {X : zX} {x1 : Int32} {x2 : Int32} (hX : zC G X cX10_word 4 RX10 (some .int) 5)  {rc4 : (Int32 × Int32) → Option Int32} {M : zM} {res : Int32} (hrc4 : ∀ s : (Int32 × Int32), rc4 s = some res → Z G X (zQip M res) 4 [some (.ref 98), some (.int s.1), some (.int s.2), none] [] M) : ∀ (N : Nat) (s : Int32), zfix N (gX10_word_L15 x1 x2 rc4 M) s = some res → Z G X (zQip M res) 15 [some (.ref 98), some (.int x1), some (.int x2), some (.int s)] [] M := by
  intro N
  induction N with
  | zero => intro s h; cases h
  | succ N hrc15 =>
    intro s h
    replace h : gX10_word_L15 x1 x2 rc4 M (zfix N (gX10_word_L15 x1 x2 rc4 M)) s = some res := h
    unfold gX10_word_L15 at h
    refine z_ldcS hX dX10_word_15 17 rfl ?_
    refine z_iload_n hX dX10_word_17 rfl 18 rfl ?_
    refine z_iload_n hX dX10_word_18 rfl 19 rfl ?_
    refine z_iadd hX dX10_word_19 20 rfl ?_
    obtain ⟨hb, h1_⟩ := zgd h
    refine z_callVS hX vS_charAt rfl lX10_204 dX10_word_20 (mS_charAt hb) (by decide) rfl rfl (Nat.le_of_ble_eq_true rfl) 23 rfl (Qi.to (fun v' M' hv => ?_))
    obtain ⟨rfl, rfl⟩ := hv
    refine z_bipush hX dX10_word_23 qb_32 25 rfl ?_
    refine z_icmp_eq hX dX10_word_25 69 28 (by decide) rfl (fun hc => ?_) (fun hc => ?_)
    · rw [if_pos hc] at h1_
      refine z_mask [true, true, true, true] ?_
      have hz := aX10_word_J69 hX hrc4 h1_
      exact hz
    · rw [if_neg hc] at h1_
      refine z_aload_n hX dX10_word_28 rfl 29 rfl ?_
      refine z_getI hX fX10_170 dX10_word_29 zs_98 (by decide) rfl 32 rfl ?_
      refine z_iload_n hX dX10_word_32 rfl 33 rfl ?_
      refine z_iadd hX dX10_word_33 34 rfl ?_
      refine z_aload_n hX dX10_word_34 rfl 35 rfl ?_
      refine z_getI hX fX10_160 dX10_word_35 zs_98 (by decide) rfl 38 rfl ?_
      refine z_icmp_ge hX dX10_word_38 69 41 (by decide) rfl (fun hc => ?_) (fun hc => ?_)
      · rw [if_pos hc] at h1_
        refine z_mask [true, true, true, true] ?_
        have hz := aX10_word_J69 hX hrc4 h1_
        exact hz
      · rw [if_neg hc] at h1_
        refine z_aload_n hX dX10_word_41 rfl 42 rfl ?_
        refine z_getF hX fX10_7 dX10_word_42 zs_98 (by decide) rfl 45 rfl ?_
        refine z_aload_n hX dX10_word_45 rfl 46 rfl ?_
        refine z_getI hX fX10_170 dX10_word_46 zs_98 (by decide) rfl 49 rfl ?_
        refine z_iload_n hX dX10_word_49 rfl 50 rfl ?_
        refine z_iadd hX dX10_word_50 51 rfl ?_
        obtain ⟨hb, h4_⟩ := zgd h1_
        refine z_iald hX dX10_word_51 zs_99 (zok_in hb) 52 rfl ?_
        refine z_ldcS hX dX10_word_52 54 rfl ?_
        refine z_iload_n hX dX10_word_54 rfl 55 rfl ?_
        refine z_iload_n hX dX10_word_55 rfl 56 rfl ?_
        refine z_iadd hX dX10_word_56 57 rfl ?_
        obtain ⟨hb, h5_⟩ := zgd h4_
        refine z_callVS hX vS_charAt rfl lX10_204 dX10_word_57 (mS_charAt hb) (by decide) rfl rfl (Nat.le_of_ble_eq_true rfl) 60 rfl (Qi.to (fun v' M' hv => ?_))
        obtain ⟨rfl, rfl⟩ := hv
        refine z_icmp_ne hX dX10_word_60 69 63 (by decide) rfl (fun hc => ?_) (fun hc => ?_)
        · rw [if_neg hc] at h5_
          refine z_mask [true, true, true, true] ?_
          have hz := aX10_word_J69 hX hrc4 h5_
          exact hz
        · rw [if_pos hc] at h5_
          refine z_iinc (v := (s + 1)) hX dX10_word_63 rfl (by rfl) (by decide) 66 rfl ?_
          refine z_goto hX dX10_word_66 15 (by decide) ?_
          refine z_mask [true, true, true, true] ?_
          have hz := hrc15 _ h5_
          exact hz
def gX10_word_L4 (M : zM) (rc4 : (Int32 × Int32) → Option Int32) (s : (Int32 × Int32)) : Option Int32 :=
  (if 108 ≤ s.2 then some (-1)
  else zfix zFu (gX10_word_L15 s.1 s.2 rc4 M) 0)
set_option maxRecDepth 100000 in
set_option maxHeartbeats 2000000 in
theorem aX10_word_L4 {G : zG} {X : zX} (hX : zC G X cX10_word 4 RX10 (some .int) 5)   {M : zM} {res : Int32}  : ∀ (N : Nat) (s : (Int32 × Int32)), zfix N (gX10_word_L4 M) s = some res → Z G X (zQip M res) 4 [some (.ref 98), some (.int s.1), some (.int s.2), none] [] M := by
  intro N
  induction N with
  | zero => intro s h; cases h
  | succ N hrc4 =>
    intro s h
    replace h : gX10_word_L4 M (zfix N (gX10_word_L4 M)) s = some res := h
    unfold gX10_word_L4 at h
    refine z_iload_n hX dX10_word_4 rfl 5 rfl ?_
    refine z_ldcS hX dX10_word_5 7 rfl ?_
    refine z_callVS hX vS_length rfl lX10_199 dX10_word_7 mS_length (by decide) rfl rfl (Nat.le_of_ble_eq_true rfl) 10 rfl (Qi.to (fun v' M' hv => ?_))
    obtain ⟨rfl, rfl⟩ := hv
    refine z_icmp_ge hX dX10_word_10 123 13 (by decide) rfl (fun hc => ?_) (fun hc => ?_)
    · rw [if_pos hc] at h
      refine z_iconst hX dX10_word_123 qi_m1 124 rfl ?_
      exact z_ireturn hX dX10_word_124 (zend_ip h)
    · rw [if_neg hc] at h
      refine z_iconst hX dX10_word_13 qi_0 14 rfl ?_
      refine z_istore_n hX dX10_word_14 (by decide) 15 rfl ?_
      refine z_mask [true, true, true, true] ?_
      have hz := aX10_word_L15 hX hrc4 _ _ h
      exact hz
def gX10_word (M : zM) : Option Int32 :=
  zfix zFu (gX10_word_L4 M) (0, 0)
set_option maxRecDepth 100000 in
set_option maxHeartbeats 2000000 in
theorem mX10_word {G : zG}  {M : zM}  {res : Int32} (h : gX10_word M = some res) : Ct G 5 tX10_word [.ref 98] M (zQip M res) := by
  unfold gX10_word at h
  refine Ct.of (y := yX10_word) rfl plX10 (Nat.le_of_ble_eq_true rfl) (fun X hX => ?_)
  replace hX : zC G X cX10_word 4 RX10 (some .int) 5 := hX
  show Z G X _ 0 [some (.ref 98), none, none, none] [] M
  refine z_iconst hX dX10_word_0 qi_0 1 rfl ?_
  refine z_istore_n hX dX10_word_1 (by decide) 2 rfl ?_
  refine z_iconst hX dX10_word_2 qi_0 3 rfl ?_
  refine z_istore_n hX dX10_word_3 (by decide) 4 rfl ?_
  refine z_mask [true, true, true, false] ?_
  have hz := aX10_word_L4 hX _ _ h
  exact hz
def gX10_name_L7  (rc7 : (Int32 × zM) → Option zM) (s : (Int32 × zM)) : Option zM :=
  (if 6 ≤ s.1 then some s.2
  else (if (s.2.1 98 22) ≤ ((s.2.1 98 23) + s.1) then zlet (zI s.2 98 25 ((((s.2.1 98 25) : Int32) <<< ((5 : Int32) &&& 31)) ||| 0)) (fun M3_ => rc7 ((s.1 + 1), M3_))
  else zg (zok ((s.2.1 98 23) + s.1) 700) (zlet (zI s.2 98 25 ((((s.2.1 98 25) : Int32) <<< ((5 : Int32) &&& 31)) ||| (((s.2.1 99 (((s.2.1 98 23) + s.1) : Int32).toNatClampNeg) - 97) + 1))) (fun M6_ => rc7 ((s.1 + 1), M6_)))))
set_option maxRecDepth 100000 in
set_option maxHeartbeats 2000000 in
theorem aX10_name_L7 {G : zG} {X : zX} (hX : zC G X cX10_name 2 RX10 none 1)    {res : zM}  : ∀ (N : Nat) (s : (Int32 × zM)), zfix N (gX10_name_L7 ) s = some res → Z G X (zQv res) 7 [some (.ref 98), some (.int s.1)] [] s.2 := by
  intro N
  induction N with
  | zero => intro s h; cases h
  | succ N hrc7 =>
    intro s h
    replace h : gX10_name_L7  (zfix N (gX10_name_L7 )) s = some res := h
    unfold gX10_name_L7 at h
    refine z_iload_n hX dX10_name_7 rfl 8 rfl ?_
    refine z_bipush hX dX10_name_8 qb_6 10 rfl ?_
    refine z_icmp_ge hX dX10_name_10 63 13 (by decide) rfl (fun hc => ?_) (fun hc => ?_)
    · rw [if_pos hc] at h
      exact z_return hX dX10_name_63 (zend_v h)
    · rw [if_neg hc] at h
      refine z_aload_n hX dX10_name_13 rfl 14 rfl ?_
      refine z_aload_n hX dX10_name_14 rfl 15 rfl ?_
      refine z_getI hX fX10_183 dX10_name_15 zs_98 (by decide) rfl 18 rfl ?_
      refine z_iconst hX dX10_name_18 qi_5 19 rfl ?_
      refine z_ishl hX dX10_name_19 20 rfl ?_
      refine z_aload_n hX dX10_name_20 rfl 21 rfl ?_
      refine z_getI hX fX10_170 dX10_name_21 zs_98 (by decide) rfl 24 rfl ?_
      refine z_iload_n hX dX10_name_24 rfl 25 rfl ?_
      refine z_iadd hX dX10_name_25 26 rfl ?_
      refine z_aload_n hX dX10_name_26 rfl 27 rfl ?_
      refine z_getI hX fX10_160 dX10_name_27 zs_98 (by decide) rfl 30 rfl ?_
      refine z_icmp_ge hX dX10_name_30 52 33 (by decide) rfl (fun hc => ?_) (fun hc => ?_)
      · rw [if_pos hc] at h
        refine z_iconst hX dX10_name_52 qi_0 53 rfl ?_
        refine z_ior hX dX10_name_53 54 rfl ?_
        refine z_putI hX pX10_183 dX10_name_54 zs_98 (by decide) rfl 57 rfl ?_
        refine z_mem h (fun M3_ h4_ => ?_)
        refine z_iinc (v := (s.1 + 1)) hX dX10_name_57 rfl (by rfl) (by decide) 60 rfl ?_
        refine z_goto hX dX10_name_60 7 (by decide) ?_
        refine z_mask [true, true] ?_
        have hz := hrc7 _ h4_
        exact hz
      · rw [if_neg hc] at h
        refine z_aload_n hX dX10_name_33 rfl 34 rfl ?_
        refine z_getF hX fX10_7 dX10_name_34 zs_98 (by decide) rfl 37 rfl ?_
        refine z_aload_n hX dX10_name_37 rfl 38 rfl ?_
        refine z_getI hX fX10_170 dX10_name_38 zs_98 (by decide) rfl 41 rfl ?_
        refine z_iload_n hX dX10_name_41 rfl 42 rfl ?_
        refine z_iadd hX dX10_name_42 43 rfl ?_
        obtain ⟨hb, h5_⟩ := zgd h
        refine z_iald hX dX10_name_43 zs_99 (zok_in hb) 44 rfl ?_
        refine z_bipush hX dX10_name_44 qb_97 46 rfl ?_
        refine z_isub hX dX10_name_46 47 rfl ?_
        refine z_iconst hX dX10_name_47 qi_1 48 rfl ?_
        refine z_iadd hX dX10_name_48 49 rfl ?_
        refine z_goto hX dX10_name_49 53 (by decide) ?_
        refine z_ior hX dX10_name_53 54 rfl ?_
        refine z_putI hX pX10_183 dX10_name_54 zs_98 (by decide) rfl 57 rfl ?_
        refine z_mem h5_ (fun M6_ h7_ => ?_)
        refine z_iinc (v := (s.1 + 1)) hX dX10_name_57 rfl (by rfl) (by decide) 60 rfl ?_
        refine z_goto hX dX10_name_60 7 (by decide) ?_
        refine z_mask [true, true] ?_
        have hz := hrc7 _ h7_
        exact hz
def gX10_name (M : zM) : Option zM :=
  zlet (zI M 98 25 0) (fun M1_ => zfix zFu (gX10_name_L7 ) (0, M1_))
set_option maxRecDepth 100000 in
set_option maxHeartbeats 2000000 in
theorem mX10_name {G : zG}  {M : zM}  {res : zM} (h : gX10_name M = some res) : Ct G 1 tX10_name [.ref 98] M (zQv res) := by
  unfold gX10_name at h
  refine Ct.of (y := yX10_name) rfl plX10 (Nat.le_of_ble_eq_true rfl) (fun X hX => ?_)
  replace hX : zC G X cX10_name 2 RX10 none 1 := hX
  show Z G X _ 0 [some (.ref 98), none] [] M
  refine z_aload_n hX dX10_name_0 rfl 1 rfl ?_
  refine z_iconst hX dX10_name_1 qi_0 2 rfl ?_
  refine z_putI hX pX10_183 dX10_name_2 zs_98 (by decide) rfl 5 rfl ?_
  refine z_mem h (fun M1_ h2_ => ?_)
  refine z_iconst hX dX10_name_5 qi_0 6 rfl ?_
  refine z_istore_n hX dX10_name_6 (by decide) 7 rfl ?_
  refine z_mask [true, true] ?_
  have hz := aX10_name_L7 hX _ _ h2_
  exact hz
def gX10_token_J18 (rc0 : zM → Option zM) (M : zM) : Option zM :=
  zlet (zI M 98 22 ((M.1 98 22) + 1)) (fun M3_ => rc0 M3_)
set_option maxRecDepth 100000 in
set_option maxHeartbeats 2000000 in
theorem aX10_token_J18 {G : zG} {X : zX} (hX : zC G X cX10_token 2 RX10 none 6)  {rc0 : zM → Option zM} {M : zM} {res : zM} (hrc0 : ∀ s : zM, rc0 s = some res → Z G X (zQv res) 0 [some (.ref 98), none] [] s) (h : gX10_token_J18 rc0 M = some res) : Z G X (zQv res) 18 [some (.ref 98), none] [] M := by
  unfold gX10_token_J18 at h
  refine z_aload_n hX dX10_token_18 rfl 19 rfl ?_
  refine z_dup hX dX10_token_19 rfl 20 rfl ?_
  refine z_getI hX fX10_160 dX10_token_20 zs_98 (by decide) rfl 23 rfl ?_
  refine z_iconst hX dX10_token_23 qi_1 24 rfl ?_
  refine z_iadd hX dX10_token_24 25 rfl ?_
  refine z_putI hX pX10_160 dX10_token_25 zs_98 (by decide) rfl 28 rfl ?_
  refine z_mem h (fun M3_ h4_ => ?_)
  refine z_goto hX dX10_token_28 0 (by decide) ?_
  refine z_mask [true, false] ?_
  have hz := hrc0 _ h4_
  exact hz
def gX10_token_J204 (y1 : Int32) (rc162 : zM → Option zM) (M : zM) : Option zM :=
  zlet (zI M 98 25 y1) (fun M27_ => zlet (zI M27_ 98 22 ((M27_.1 98 22) + 1)) (fun M29_ => rc162 M29_))
set_option maxRecDepth 100000 in
set_option maxHeartbeats 2000000 in
theorem aX10_token_J204 {G : zG} {X : zX} {y1 : Int32} (hX : zC G X cX10_token 2 RX10 none 6)  {rc162 : zM → Option zM} {M : zM} {res : zM} (hrc162 : ∀ s : zM, rc162 s = some res → Z G X (zQv res) 162 [some (.ref 98), none] [] s) (h : gX10_token_J204 y1 rc162 M = some res) : Z G X (zQv res) 204 [some (.ref 98), none] [.int y1, .ref 98] M := by
  unfold gX10_token_J204 at h
  refine z_putI hX pX10_183 dX10_token_204 zs_98 (by decide) rfl 207 rfl ?_
  refine z_mem h (fun M27_ h28_ => ?_)
  refine z_aload_n hX dX10_token_207 rfl 208 rfl ?_
  refine z_dup hX dX10_token_208 rfl 209 rfl ?_
  refine z_getI hX fX10_160 dX10_token_209 zs_98 (by decide) rfl 212 rfl ?_
  refine z_iconst hX dX10_token_212 qi_1 213 rfl ?_
  refine z_iadd hX dX10_token_213 214 rfl ?_
  refine z_putI hX pX10_160 dX10_token_214 zs_98 (by decide) rfl 217 rfl ?_
  refine z_mem h28_ (fun M29_ h30_ => ?_)
  refine z_goto hX dX10_token_217 162 (by decide) ?_
  refine z_mask [true, false] ?_
  have hz := hrc162 _ h30_
  exact hz
def gX10_token_L162  (rc162 : zM → Option zM) (s : zM) : Option zM :=
  zcI (gX10_here s) (fun v21_ => zcI (gX10_isDigit v21_ s) (fun v23_ => (if v23_ = 0 then some s
  else (if (s.1 98 25) ≤ 99999 then zcI (gX10_here s) (fun v25_ => gX10_token_J204 (((10 * (s.1 98 25)) + v25_) - 48) rc162 s)
  else gX10_token_J204 (s.1 98 25) rc162 s))))
set_option maxRecDepth 100000 in
set_option maxHeartbeats 2000000 in
theorem aX10_token_L162 {G : zG} {X : zX} (hX : zC G X cX10_token 2 RX10 none 6)    {res : zM}  : ∀ (N : Nat) (s : zM), zfix N (gX10_token_L162 ) s = some res → Z G X (zQv res) 162 [some (.ref 98), none] [] s := by
  intro N
  induction N with
  | zero => intro s h; cases h
  | succ N hrc162 =>
    intro s h
    replace h : gX10_token_L162  (zfix N (gX10_token_L162 )) s = some res := h
    unfold gX10_token_L162 at h
    refine z_aload_n hX dX10_token_162 rfl 163 rfl ?_
    obtain ⟨v21_, hq, h22_⟩ := zcI_of h
    refine z_callV hX vX10_here lX10_166 dX10_token_163 zs_98 rfl (mX10_here  hq) (by decide) rfl rfl (Nat.le_of_ble_eq_true rfl) 166 rfl (Qi.to (fun v' M' hv => ?_))
    obtain ⟨rfl, rfl⟩ := hv
    obtain ⟨v23_, hq, h24_⟩ := zcI_of h22_
    refine z_callS hX vX10_isDigit rfl lX10_189 dX10_token_166 (mX10_isDigit  hq) (by decide) rfl rfl (Nat.le_of_ble_eq_true rfl) 169 rfl (Qi.to (fun v' M' hv => ?_))
    obtain ⟨rfl, rfl⟩ := hv
    refine z_if_eq hX dX10_token_169 225 172 (by decide) rfl (fun hc => ?_) (fun hc => ?_)
    · rw [if_pos hc] at h24_
      exact z_return hX dX10_token_225 (zend_v h24_)
    · rw [if_neg hc] at h24_
      refine z_aload_n hX dX10_token_172 rfl 173 rfl ?_
      refine z_aload_n hX dX10_token_173 rfl 174 rfl ?_
      refine z_getI hX fX10_183 dX10_token_174 zs_98 (by decide) rfl 177 rfl ?_
      refine z_ldc hX dX10_token_177 kX10_192 179 rfl ?_
      refine z_icmp_le hX dX10_token_179 189 182 (by decide) rfl (fun hc => ?_) (fun hc => ?_)
      · rw [if_pos hc] at h24_
        refine z_bipush hX dX10_token_189 qb_10 191 rfl ?_
        refine z_aload_n hX dX10_token_191 rfl 192 rfl ?_
        refine z_getI hX fX10_183 dX10_token_192 zs_98 (by decide) rfl 195 rfl ?_
        refine z_imul hX dX10_token_195 196 rfl ?_
        refine z_aload_n hX dX10_token_196 rfl 197 rfl ?_
        obtain ⟨v25_, hq, h26_⟩ := zcI_of h24_
        refine z_callV hX vX10_here lX10_166 dX10_token_197 zs_98 rfl (mX10_here  hq) (by decide) rfl rfl (Nat.le_of_ble_eq_true rfl) 200 rfl (Qi.to (fun v' M' hv => ?_))
        obtain ⟨rfl, rfl⟩ := hv
        refine z_iadd hX dX10_token_200 201 rfl ?_
        refine z_bipush hX dX10_token_201 qb_48 203 rfl ?_
        refine z_isub hX dX10_token_203 204 rfl ?_
        refine z_mask [true, false] ?_
        have hz := aX10_token_J204 hX hrc162 h26_
        exact hz
      · rw [if_neg hc] at h24_
        refine z_aload_n hX dX10_token_182 rfl 183 rfl ?_
        refine z_getI hX fX10_183 dX10_token_183 zs_98 (by decide) rfl 186 rfl ?_
        refine z_goto hX dX10_token_186 204 (by decide) ?_
        refine z_mask [true, false] ?_
        have hz := aX10_token_J204 hX hrc162 h24_
        exact hz
def gX10_token_J127 (y1 : Int32) (M : zM) : Option zM :=
  zlet (zI M 98 24 y1) (fun M39_ => (if (M39_.1 98 24) = 1 then zcV (gX10_name M39_) (fun M41_ => some M41_)
  else some M39_))
set_option maxRecDepth 100000 in
set_option maxHeartbeats 2000000 in
theorem aX10_token_J127 {G : zG} {X : zX} {y1 : Int32} (hX : zC G X cX10_token 2 RX10 none 6)   {M : zM} {res : zM}  (h : gX10_token_J127 y1 M = some res) : Z G X (zQv res) 127 [some (.ref 98), none] [.int y1, .ref 98] M := by
  unfold gX10_token_J127 at h
  refine z_putI hX pX10_173 dX10_token_127 zs_98 (by decide) rfl 130 rfl ?_
  refine z_mem h (fun M39_ h40_ => ?_)
  refine z_aload_n hX dX10_token_130 rfl 131 rfl ?_
  refine z_getI hX fX10_173 dX10_token_131 zs_98 (by decide) rfl 134 rfl ?_
  refine z_iconst hX dX10_token_134 qi_1 135 rfl ?_
  refine z_icmp_ne hX dX10_token_135 225 138 (by decide) rfl (fun hc => ?_) (fun hc => ?_)
  · rw [if_neg hc] at h40_
    exact z_return hX dX10_token_225 (zend_v h40_)
  · rw [if_pos hc] at h40_
    refine z_aload_n hX dX10_token_138 rfl 139 rfl ?_
    obtain ⟨M41_, hq, h42_⟩ := zcV_of h40_
    refine z_callV hX vX10_name lX10_186 dX10_token_139 zs_98 rfl (mX10_name  hq) (by decide) rfl rfl (Nat.le_of_ble_eq_true rfl) 142 rfl (Qv.to (fun M' hv => ?_))
    subst hv
    refine z_goto hX dX10_token_142 225 (by decide) ?_
    exact z_return hX dX10_token_225 (zend_v h42_)
def gX10_token_L64  (rc64 : zM → Option zM) (s : zM) : Option zM :=
  zcI (gX10_here s) (fun v31_ => zcI (gX10_isSmall v31_ s) (fun v33_ => (if v33_ = 0 then zcI (gX10_word s) (fun v35_ => zlet (zI s 98 25 v35_) (fun M37_ => (if (M37_.1 98 25) = (-1) then (if ((M37_.1 98 22) - (M37_.1 98 23)) ≤ 6 then gX10_token_J127 1 M37_
  else gX10_token_J127 5 M37_)
  else gX10_token_J127 0 M37_)))
  else zlet (zI s 98 22 ((s.1 98 22) + 1)) (fun M43_ => rc64 M43_))))
set_option maxRecDepth 100000 in
set_option maxHeartbeats 2000000 in
theorem aX10_token_L64 {G : zG} {X : zX} (hX : zC G X cX10_token 2 RX10 none 6)    {res : zM}  : ∀ (N : Nat) (s : zM), zfix N (gX10_token_L64 ) s = some res → Z G X (zQv res) 64 [some (.ref 98), none] [] s := by
  intro N
  induction N with
  | zero => intro s h; cases h
  | succ N hrc64 =>
    intro s h
    replace h : gX10_token_L64  (zfix N (gX10_token_L64 )) s = some res := h
    unfold gX10_token_L64 at h
    refine z_aload_n hX dX10_token_64 rfl 65 rfl ?_
    obtain ⟨v31_, hq, h32_⟩ := zcI_of h
    refine z_callV hX vX10_here lX10_166 dX10_token_65 zs_98 rfl (mX10_here  hq) (by decide) rfl rfl (Nat.le_of_ble_eq_true rfl) 68 rfl (Qi.to (fun v' M' hv => ?_))
    obtain ⟨rfl, rfl⟩ := hv
    obtain ⟨v33_, hq, h34_⟩ := zcI_of h32_
    refine z_callS hX vX10_isSmall rfl lX10_176 dX10_token_68 (mX10_isSmall  hq) (by decide) rfl rfl (Nat.le_of_ble_eq_true rfl) 71 rfl (Qi.to (fun v' M' hv => ?_))
    obtain ⟨rfl, rfl⟩ := hv
    refine z_if_eq hX dX10_token_71 87 74 (by decide) rfl (fun hc => ?_) (fun hc => ?_)
    · rw [if_pos hc] at h34_
      refine z_aload_n hX dX10_token_87 rfl 88 rfl ?_
      refine z_aload_n hX dX10_token_88 rfl 89 rfl ?_
      obtain ⟨v35_, hq, h36_⟩ := zcI_of h34_
      refine z_callV hX vX10_word lX10_180 dX10_token_89 zs_98 rfl (mX10_word  hq) (by decide) rfl rfl (Nat.le_of_ble_eq_true rfl) 92 rfl (Qi.to (fun v' M' hv => ?_))
      obtain ⟨rfl, rfl⟩ := hv
      refine z_putI hX pX10_183 dX10_token_92 zs_98 (by decide) rfl 95 rfl ?_
      refine z_mem h36_ (fun M37_ h38_ => ?_)
      refine z_aload_n hX dX10_token_95 rfl 96 rfl ?_
      refine z_aload_n hX dX10_token_96 rfl 97 rfl ?_
      refine z_getI hX fX10_183 dX10_token_97 zs_98 (by decide) rfl 100 rfl ?_
      refine z_iconst hX dX10_token_100 qi_m1 101 rfl ?_
      refine z_icmp_eq hX dX10_token_101 108 104 (by decide) rfl (fun hc => ?_) (fun hc => ?_)
      · rw [if_pos hc] at h38_
        refine z_aload_n hX dX10_token_108 rfl 109 rfl ?_
        refine z_getI hX fX10_160 dX10_token_109 zs_98 (by decide) rfl 112 rfl ?_
        refine z_aload_n hX dX10_token_112 rfl 113 rfl ?_
        refine z_getI hX fX10_170 dX10_token_113 zs_98 (by decide) rfl 116 rfl ?_
        refine z_isub hX dX10_token_116 117 rfl ?_
        refine z_bipush hX dX10_token_117 qb_6 119 rfl ?_
        refine z_icmp_le hX dX10_token_119 126 122 (by decide) rfl (fun hc => ?_) (fun hc => ?_)
        · rw [if_pos hc] at h38_
          refine z_iconst hX dX10_token_126 qi_1 127 rfl ?_
          refine z_mask [true, false] ?_
          have hz := aX10_token_J127 hX h38_
          exact hz
        · rw [if_neg hc] at h38_
          refine z_iconst hX dX10_token_122 qi_5 123 rfl ?_
          refine z_goto hX dX10_token_123 127 (by decide) ?_
          refine z_mask [true, false] ?_
          have hz := aX10_token_J127 hX h38_
          exact hz
      · rw [if_neg hc] at h38_
        refine z_iconst hX dX10_token_104 qi_0 105 rfl ?_
        refine z_goto hX dX10_token_105 127 (by decide) ?_
        refine z_mask [true, false] ?_
        have hz := aX10_token_J127 hX h38_
        exact hz
    · rw [if_neg hc] at h34_
      refine z_aload_n hX dX10_token_74 rfl 75 rfl ?_
      refine z_dup hX dX10_token_75 rfl 76 rfl ?_
      refine z_getI hX fX10_160 dX10_token_76 zs_98 (by decide) rfl 79 rfl ?_
      refine z_iconst hX dX10_token_79 qi_1 80 rfl ?_
      refine z_iadd hX dX10_token_80 81 rfl ?_
      refine z_putI hX pX10_160 dX10_token_81 zs_98 (by decide) rfl 84 rfl ?_
      refine z_mem h34_ (fun M43_ h44_ => ?_)
      refine z_goto hX dX10_token_84 64 (by decide) ?_
      refine z_mask [true, false] ?_
      have hz := hrc64 _ h44_
      exact hz
def gX10_token_L0  (rc0 : zM → Option zM) (s : zM) : Option zM :=
  zcI (gX10_here s) (fun v1_ => (if v1_ = 10 then gX10_token_J18 rc0 s
  else zcI (gX10_here s) (fun v5_ => (if v5_ = 32 then gX10_token_J18 rc0 s
  else zlet (zI s 98 23 (s.1 98 22)) (fun M7_ => zcI (gX10_here M7_) (fun v9_ => (if v9_ = (-1) then zlet (zI M7_ 98 24 4) (fun M45_ => some M45_)
  else zcI (gX10_isSmall v9_ M7_) (fun v11_ => (if v11_ = 0 then zcI (gX10_isDigit v9_ M7_) (fun v13_ => (if v13_ = 0 then zcV (gX10_sign v9_ M7_) (fun M15_ => some M15_)
  else zlet (zI M7_ 98 24 2) (fun M17_ => zlet (zI M17_ 98 25 0) (fun M19_ => zfix zFu (gX10_token_L162 ) M19_))))
  else zfix zFu (gX10_token_L64 ) M7_)))))))))
set_option maxRecDepth 100000 in
set_option maxHeartbeats 2000000 in
theorem aX10_token_L0 {G : zG} {X : zX} (hX : zC G X cX10_token 2 RX10 none 6)    {res : zM}  : ∀ (N : Nat) (s : zM), zfix N (gX10_token_L0 ) s = some res → Z G X (zQv res) 0 [some (.ref 98), none] [] s := by
  intro N
  induction N with
  | zero => intro s h; cases h
  | succ N hrc0 =>
    intro s h
    replace h : gX10_token_L0  (zfix N (gX10_token_L0 )) s = some res := h
    unfold gX10_token_L0 at h
    refine z_aload_n hX dX10_token_0 rfl 1 rfl ?_
    obtain ⟨v1_, hq, h2_⟩ := zcI_of h
    refine z_callV hX vX10_here lX10_166 dX10_token_1 zs_98 rfl (mX10_here  hq) (by decide) rfl rfl (Nat.le_of_ble_eq_true rfl) 4 rfl (Qi.to (fun v' M' hv => ?_))
    obtain ⟨rfl, rfl⟩ := hv
    refine z_bipush hX dX10_token_4 qb_10 6 rfl ?_
    refine z_icmp_eq hX dX10_token_6 18 9 (by decide) rfl (fun hc => ?_) (fun hc => ?_)
    · rw [if_pos hc] at h2_
      refine z_mask [true, false] ?_
      have hz := aX10_token_J18 hX hrc0 h2_
      exact hz
    · rw [if_neg hc] at h2_
      refine z_aload_n hX dX10_token_9 rfl 10 rfl ?_
      obtain ⟨v5_, hq, h6_⟩ := zcI_of h2_
      refine z_callV hX vX10_here lX10_166 dX10_token_10 zs_98 rfl (mX10_here  hq) (by decide) rfl rfl (Nat.le_of_ble_eq_true rfl) 13 rfl (Qi.to (fun v' M' hv => ?_))
      obtain ⟨rfl, rfl⟩ := hv
      refine z_bipush hX dX10_token_13 qb_32 15 rfl ?_
      refine z_icmp_ne hX dX10_token_15 31 18 (by decide) rfl (fun hc => ?_) (fun hc => ?_)
      · rw [if_neg hc] at h6_
        refine z_aload_n hX dX10_token_31 rfl 32 rfl ?_
        refine z_aload_n hX dX10_token_32 rfl 33 rfl ?_
        refine z_getI hX fX10_160 dX10_token_33 zs_98 (by decide) rfl 36 rfl ?_
        refine z_putI hX pX10_170 dX10_token_36 zs_98 (by decide) rfl 39 rfl ?_
        refine z_mem h6_ (fun M7_ h8_ => ?_)
        refine z_aload_n hX dX10_token_39 rfl 40 rfl ?_
        obtain ⟨v9_, hq, h10_⟩ := zcI_of h8_
        refine z_callV hX vX10_here lX10_166 dX10_token_40 zs_98 rfl (mX10_here  hq) (by decide) rfl rfl (Nat.le_of_ble_eq_true rfl) 43 rfl (Qi.to (fun v' M' hv => ?_))
        obtain ⟨rfl, rfl⟩ := hv
        refine z_istore_n hX dX10_token_43 (by decide) 44 rfl ?_
        refine z_iload_n hX dX10_token_44 rfl 45 rfl ?_
        refine z_iconst hX dX10_token_45 qi_m1 46 rfl ?_
        refine z_icmp_ne hX dX10_token_46 57 49 (by decide) rfl (fun hc => ?_) (fun hc => ?_)
        · rw [if_neg hc] at h10_
          refine z_iload_n hX dX10_token_57 rfl 58 rfl ?_
          obtain ⟨v11_, hq, h12_⟩ := zcI_of h10_
          refine z_callS hX vX10_isSmall rfl lX10_176 dX10_token_58 (mX10_isSmall  hq) (by decide) rfl rfl (Nat.le_of_ble_eq_true rfl) 61 rfl (Qi.to (fun v' M' hv => ?_))
          obtain ⟨rfl, rfl⟩ := hv
          refine z_if_eq hX dX10_token_61 145 64 (by decide) rfl (fun hc => ?_) (fun hc => ?_)
          · rw [if_pos hc] at h12_
            refine z_iload_n hX dX10_token_145 rfl 146 rfl ?_
            obtain ⟨v13_, hq, h14_⟩ := zcI_of h12_
            refine z_callS hX vX10_isDigit rfl lX10_189 dX10_token_146 (mX10_isDigit  hq) (by decide) rfl rfl (Nat.le_of_ble_eq_true rfl) 149 rfl (Qi.to (fun v' M' hv => ?_))
            obtain ⟨rfl, rfl⟩ := hv
            refine z_if_eq hX dX10_token_149 220 152 (by decide) rfl (fun hc => ?_) (fun hc => ?_)
            · rw [if_pos hc] at h14_
              refine z_aload_n hX dX10_token_220 rfl 221 rfl ?_
              refine z_iload_n hX dX10_token_221 rfl 222 rfl ?_
              obtain ⟨M15_, hq, h16_⟩ := zcV_of h14_
              refine z_callV hX vX10_sign lX10_193 dX10_token_222 zs_98 rfl (mX10_sign  hq) (by decide) rfl rfl (Nat.le_of_ble_eq_true rfl) 225 rfl (Qv.to (fun M' hv => ?_))
              subst hv
              exact z_return hX dX10_token_225 (zend_v h16_)
            · rw [if_neg hc] at h14_
              refine z_aload_n hX dX10_token_152 rfl 153 rfl ?_
              refine z_iconst hX dX10_token_153 qi_2 154 rfl ?_
              refine z_putI hX pX10_173 dX10_token_154 zs_98 (by decide) rfl 157 rfl ?_
              refine z_mem h14_ (fun M17_ h18_ => ?_)
              refine z_aload_n hX dX10_token_157 rfl 158 rfl ?_
              refine z_iconst hX dX10_token_158 qi_0 159 rfl ?_
              refine z_putI hX pX10_183 dX10_token_159 zs_98 (by decide) rfl 162 rfl ?_
              refine z_mem h18_ (fun M19_ h20_ => ?_)
              refine z_mask [true, false] ?_
              have hz := aX10_token_L162 hX _ _ h20_
              exact hz
          · rw [if_neg hc] at h12_
            refine z_mask [true, false] ?_
            have hz := aX10_token_L64 hX _ _ h12_
            exact hz
        · rw [if_pos hc] at h10_
          refine z_aload_n hX dX10_token_49 rfl 50 rfl ?_
          refine z_iconst hX dX10_token_50 qi_4 51 rfl ?_
          refine z_putI hX pX10_173 dX10_token_51 zs_98 (by decide) rfl 54 rfl ?_
          refine z_mem h10_ (fun M45_ h46_ => ?_)
          refine z_goto hX dX10_token_54 225 (by decide) ?_
          exact z_return hX dX10_token_225 (zend_v h46_)
      · rw [if_pos hc] at h6_
        refine z_mask [true, false] ?_
        have hz := aX10_token_J18 hX hrc0 h6_
        exact hz
def gX10_token (M : zM) : Option zM :=
  zfix zFu (gX10_token_L0 ) M
set_option maxRecDepth 100000 in
set_option maxHeartbeats 2000000 in
theorem mX10_token {G : zG}  {M : zM}  {res : zM} (h : gX10_token M = some res) : Ct G 6 tX10_token [.ref 98] M (zQv res) := by
  unfold gX10_token at h
  refine Ct.of (y := yX10_token) rfl plX10 (Nat.le_of_ble_eq_true rfl) (fun X hX => ?_)
  replace hX : zC G X cX10_token 2 RX10 none 6 := hX
  show Z G X _ 0 [some (.ref 98), none] [] M
  refine z_mask [true, false] ?_
  have hz := aX10_token_L0 hX _ _ h
  exact hz
def gX10_half_L7 (a0 : Nat) (n0 : Nat) (x1 : Int32) (rc7 : (Int32 × zM) → Option zM) (s : (Int32 × zM)) : Option zM :=
  (if x1 ≤ s.1 then some s.2
  else zg (zok (x1 + s.1) n0) (zg (zok s.1 n0) (zlet (zI s.2 a0 (s.1 : Int32).toNatClampNeg (s.2.1 a0 ((x1 + s.1) : Int32).toNatClampNeg)) (fun M3_ => rc7 ((s.1 + 1), M3_)))))
set_option maxRecDepth 100000 in
set_option maxHeartbeats 2000000 in
theorem aX10_half_L7 {G : zG} {X : zX} {a0 : Nat} {n0 : Nat} {x1 : Int32} (hX : zC G X cX10_half 3 RX10 none 1) (ha0 : zs a0 = .inr (0, n0)) (hn0 : 0 < n0)   {res : zM}  : ∀ (N : Nat) (s : (Int32 × zM)), zfix N (gX10_half_L7 a0 n0 x1) s = some res → Z G X (zQv res) 7 [some (.ref a0), some (.int x1), some (.int s.1)] [] s.2 := by
  intro N
  induction N with
  | zero => intro s h; cases h
  | succ N hrc7 =>
    intro s h
    replace h : gX10_half_L7 a0 n0 x1 (zfix N (gX10_half_L7 a0 n0 x1)) s = some res := h
    unfold gX10_half_L7 at h
    refine z_iload_n hX dX10_half_7 rfl 8 rfl ?_
    refine z_iload_n hX dX10_half_8 rfl 9 rfl ?_
    refine z_icmp_ge hX dX10_half_9 26 12 (by decide) rfl (fun hc => ?_) (fun hc => ?_)
    · rw [if_pos hc] at h
      exact z_return hX dX10_half_26 (zend_v h)
    · rw [if_neg hc] at h
      refine z_aload_n hX dX10_half_12 rfl 13 rfl ?_
      refine z_iload_n hX dX10_half_13 rfl 14 rfl ?_
      refine z_aload_n hX dX10_half_14 rfl 15 rfl ?_
      refine z_iload_n hX dX10_half_15 rfl 16 rfl ?_
      refine z_iload_n hX dX10_half_16 rfl 17 rfl ?_
      refine z_iadd hX dX10_half_17 18 rfl ?_
      obtain ⟨hb, h1_⟩ := zgd h
      refine z_iald hX dX10_half_18 ha0 (zok_in hb) 19 rfl ?_
      obtain ⟨hb, h2_⟩ := zgd h1_
      refine z_iast hX dX10_half_19 ha0 (zok_in hb) 20 rfl ?_
      refine z_mem h2_ (fun M3_ h4_ => ?_)
      refine z_iinc (v := (s.1 + 1)) hX dX10_half_20 rfl (by rfl) (by decide) 23 rfl ?_
      refine z_goto hX dX10_half_23 7 (by decide) ?_
      refine z_mask [true, true, true] ?_
      have hz := hrc7 _ h4_
      exact hz
def gX10_half (a0 : Nat) (n0 : Nat) (M : zM) : Option zM :=
  zfix zFu (gX10_half_L7 a0 n0 ((Int32.ofNat n0) / 2)) (0, M)
set_option maxRecDepth 100000 in
set_option maxHeartbeats 2000000 in
theorem mX10_half {G : zG} {a0 : Nat} {n0 : Nat} {M : zM} (ha0 : zs a0 = .inr (0, n0)) (hn0 : 0 < n0) {res : zM} (h : gX10_half a0 n0 M = some res) : Ct G 1 tX10_half [.ref a0] M (zQv res) := by
  unfold gX10_half at h
  refine Ct.of (y := yX10_half) rfl plX10 (Nat.le_of_ble_eq_true rfl) (fun X hX => ?_)
  replace hX : zC G X cX10_half 3 RX10 none 1 := hX
  show Z G X _ 0 [some (.ref a0), none, none] [] M
  refine z_aload_n hX dX10_half_0 rfl 1 rfl ?_
  refine z_alen (v := (Int32.ofNat n0)) hX dX10_half_1 ha0 hn0 (by decide) rfl 2 rfl ?_
  refine z_iconst hX dX10_half_2 qi_2 3 rfl ?_
  refine z_idiv hX dX10_half_3 (by decide) 4 rfl ?_
  refine z_istore_n hX dX10_half_4 (by decide) 5 rfl ?_
  refine z_iconst hX dX10_half_5 qi_0 6 rfl ?_
  refine z_istore_n hX dX10_half_6 (by decide) 7 rfl ?_
  refine z_mask [true, true, true] ?_
  have hz := aX10_half_L7 hX ha0 hn0 _ _ h
  exact hz
def gX10_wrong (x1 : Int32) (M : zM) : Option zM :=
  (if (M.1 98 26) = 0 then zlet (zI M 98 26 x1) (fun M1_ => zlet (zI M1_ 98 27 (M1_.1 98 23)) (fun M3_ => some M3_))
  else some M)
set_option maxRecDepth 100000 in
set_option maxHeartbeats 2000000 in
theorem mX10_wrong {G : zG} {x1 : Int32} {M : zM}  {res : zM} (h : gX10_wrong x1 M = some res) : Ct G 1 tX10_wrong [.ref 98, .int x1] M (zQv res) := by
  unfold gX10_wrong at h
  refine Ct.of (y := yX10_wrong) rfl plX10 (Nat.le_of_ble_eq_true rfl) (fun X hX => ?_)
  replace hX : zC G X cX10_wrong 2 RX10 none 1 := hX
  show Z G X _ 0 [some (.ref 98), some (.int x1)] [] M
  refine z_aload_n hX dX10_wrong_0 rfl 1 rfl ?_
  refine z_getI hX fX10_208 dX10_wrong_1 zs_98 (by decide) rfl 4 rfl ?_
  refine z_if_eq hX dX10_wrong_4 8 7 (by decide) rfl (fun hc => ?_) (fun hc => ?_)
  · rw [if_pos hc] at h
    refine z_aload_n hX dX10_wrong_8 rfl 9 rfl ?_
    refine z_iload_n hX dX10_wrong_9 rfl 10 rfl ?_
    refine z_putI hX pX10_208 dX10_wrong_10 zs_98 (by decide) rfl 13 rfl ?_
    refine z_mem h (fun M1_ h2_ => ?_)
    refine z_aload_n hX dX10_wrong_13 rfl 14 rfl ?_
    refine z_aload_n hX dX10_wrong_14 rfl 15 rfl ?_
    refine z_getI hX fX10_170 dX10_wrong_15 zs_98 (by decide) rfl 18 rfl ?_
    refine z_putI hX pX10_211 dX10_wrong_18 zs_98 (by decide) rfl 21 rfl ?_
    refine z_mem h2_ (fun M3_ h4_ => ?_)
    exact z_return hX dX10_wrong_21 (zend_v h4_)
  · rw [if_neg hc] at h
    exact z_return hX dX10_wrong_7 (zend_v h)
def gX10_fresher (x1 : Int32) (M : zM) : Option Int32 :=
  zg (zok (9 + x1) 18) (some (M.1 100 ((9 + x1) : Int32).toNatClampNeg))
set_option maxRecDepth 100000 in
set_option maxHeartbeats 2000000 in
theorem mX10_fresher {G : zG} {x1 : Int32} {M : zM}  {res : Int32} (h : gX10_fresher x1 M = some res) : Ct G 1 tX10_fresher [.ref 98, .int x1] M (zQip M res) := by
  unfold gX10_fresher at h
  refine Ct.of (y := yX10_fresher) rfl plX10 (Nat.le_of_ble_eq_true rfl) (fun X hX => ?_)
  replace hX : zC G X cX10_fresher 2 RX10 (some .int) 1 := hX
  show Z G X _ 0 [some (.ref 98), some (.int x1)] [] M
  refine z_aload_n hX dX10_fresher_0 rfl 1 rfl ?_
  refine z_getF hX fX10_13 dX10_fresher_1 zs_98 (by decide) rfl 4 rfl ?_
  refine z_bipush hX dX10_fresher_4 qb_9 6 rfl ?_
  refine z_iload_n hX dX10_fresher_6 rfl 7 rfl ?_
  refine z_iadd hX dX10_fresher_7 8 rfl ?_
  obtain ⟨hb, h1_⟩ := zgd h
  refine z_iald hX dX10_fresher_8 zs_100 (zok_in hb) 9 rfl ?_
  exact z_ireturn hX dX10_fresher_9 (zend_ip h1_)
def gX10_isFull_J29 (x1 : Int32) (M : zM) : Option Int32 :=
  (if x1 = 2 then zcI (gX10_fresher 2 M) (fun v1_ => (if v1_ = 10 then some 1
  else some 0))
  else some 0)
set_option maxRecDepth 100000 in
set_option maxHeartbeats 2000000 in
theorem aX10_isFull_J29 {G : zG} {X : zX} {x1 : Int32} (hX : zC G X cX10_isFull 2 RX10 (some .boolean) 2)   {M : zM} {res : Int32}  (h : gX10_isFull_J29 x1 M = some res) : Z G X (zQip M res) 29 [some (.ref 98), some (.int x1)] [] M := by
  unfold gX10_isFull_J29 at h
  refine z_iload_n hX dX10_isFull_29 rfl 30 rfl ?_
  refine z_iconst hX dX10_isFull_30 qi_2 31 rfl ?_
  refine z_icmp_ne hX dX10_isFull_31 48 34 (by decide) rfl (fun hc => ?_) (fun hc => ?_)
  · rw [if_neg hc] at h
    refine z_iconst hX dX10_isFull_48 qi_0 49 rfl ?_
    exact z_zreturn hX dX10_isFull_49 (by decide) (zend_ip h)
  · rw [if_pos hc] at h
    refine z_aload_n hX dX10_isFull_34 rfl 35 rfl ?_
    refine z_iconst hX dX10_isFull_35 qi_2 36 rfl ?_
    obtain ⟨v1_, hq, h2_⟩ := zcI_of h
    refine z_callV hX vX10_fresher lX10_224 dX10_isFull_36 zs_98 rfl (mX10_fresher  hq) (by decide) rfl rfl (Nat.le_of_ble_eq_true rfl) 39 rfl (Qi.to (fun v' M' hv => ?_))
    obtain ⟨rfl, rfl⟩ := hv
    refine z_bipush hX dX10_isFull_39 qb_10 41 rfl ?_
    refine z_icmp_ne hX dX10_isFull_41 48 44 (by decide) rfl (fun hc => ?_) (fun hc => ?_)
    · rw [if_neg hc] at h2_
      refine z_iconst hX dX10_isFull_48 qi_0 49 rfl ?_
      exact z_zreturn hX dX10_isFull_49 (by decide) (zend_ip h2_)
    · rw [if_pos hc] at h2_
      refine z_iconst hX dX10_isFull_44 qi_1 45 rfl ?_
      refine z_goto hX dX10_isFull_45 49 (by decide) ?_
      exact z_zreturn hX dX10_isFull_49 (by decide) (zend_ip h2_)
def gX10_isFull_J14 (x1 : Int32) (M : zM) : Option Int32 :=
  (if x1 = 1 then zcI (gX10_fresher 1 M) (fun v3_ => (if v3_ = 8 then some 1
  else gX10_isFull_J29 x1 M))
  else gX10_isFull_J29 x1 M)
set_option maxRecDepth 100000 in
set_option maxHeartbeats 2000000 in
theorem aX10_isFull_J14 {G : zG} {X : zX} {x1 : Int32} (hX : zC G X cX10_isFull 2 RX10 (some .boolean) 2)   {M : zM} {res : Int32}  (h : gX10_isFull_J14 x1 M = some res) : Z G X (zQip M res) 14 [some (.ref 98), some (.int x1)] [] M := by
  unfold gX10_isFull_J14 at h
  refine z_iload_n hX dX10_isFull_14 rfl 15 rfl ?_
  refine z_iconst hX dX10_isFull_15 qi_1 16 rfl ?_
  refine z_icmp_ne hX dX10_isFull_16 29 19 (by decide) rfl (fun hc => ?_) (fun hc => ?_)
  · rw [if_neg hc] at h
    refine z_mask [true, true] ?_
    have hz := aX10_isFull_J29 hX h
    exact hz
  · rw [if_pos hc] at h
    refine z_aload_n hX dX10_isFull_19 rfl 20 rfl ?_
    refine z_iconst hX dX10_isFull_20 qi_1 21 rfl ?_
    obtain ⟨v3_, hq, h4_⟩ := zcI_of h
    refine z_callV hX vX10_fresher lX10_224 dX10_isFull_21 zs_98 rfl (mX10_fresher  hq) (by decide) rfl rfl (Nat.le_of_ble_eq_true rfl) 24 rfl (Qi.to (fun v' M' hv => ?_))
    obtain ⟨rfl, rfl⟩ := hv
    refine z_bipush hX dX10_isFull_24 qb_8 26 rfl ?_
    refine z_icmp_eq hX dX10_isFull_26 44 29 (by decide) rfl (fun hc => ?_) (fun hc => ?_)
    · rw [if_pos hc] at h4_
      refine z_iconst hX dX10_isFull_44 qi_1 45 rfl ?_
      refine z_goto hX dX10_isFull_45 49 (by decide) ?_
      exact z_zreturn hX dX10_isFull_49 (by decide) (zend_ip h4_)
    · rw [if_neg hc] at h4_
      refine z_mask [true, true] ?_
      have hz := aX10_isFull_J29 hX h4_
      exact hz
def gX10_isFull (x1 : Int32) (M : zM) : Option Int32 :=
  (if x1 = 0 then zcI (gX10_fresher 0 M) (fun v5_ => (if v5_ = 6 then some 1
  else gX10_isFull_J14 x1 M))
  else gX10_isFull_J14 x1 M)
set_option maxRecDepth 100000 in
set_option maxHeartbeats 2000000 in
theorem mX10_isFull {G : zG} {x1 : Int32} {M : zM}  {res : Int32} (h : gX10_isFull x1 M = some res) : Ct G 2 tX10_isFull [.ref 98, .int x1] M (zQip M res) := by
  unfold gX10_isFull at h
  refine Ct.of (y := yX10_isFull) rfl plX10 (Nat.le_of_ble_eq_true rfl) (fun X hX => ?_)
  replace hX : zC G X cX10_isFull 2 RX10 (some .boolean) 2 := hX
  show Z G X _ 0 [some (.ref 98), some (.int x1)] [] M
  refine z_iload_n hX dX10_isFull_0 rfl 1 rfl ?_
  refine z_if_ne hX dX10_isFull_1 14 4 (by decide) rfl (fun hc => ?_) (fun hc => ?_)
  · rw [if_neg hc] at h
    refine z_mask [true, true] ?_
    have hz := aX10_isFull_J14 hX h
    exact hz
  · rw [if_pos hc] at h
    refine z_aload_n hX dX10_isFull_4 rfl 5 rfl ?_
    refine z_iconst hX dX10_isFull_5 qi_0 6 rfl ?_
    obtain ⟨v5_, hq, h6_⟩ := zcI_of h
    refine z_callV hX vX10_fresher lX10_224 dX10_isFull_6 zs_98 rfl (mX10_fresher  hq) (by decide) rfl rfl (Nat.le_of_ble_eq_true rfl) 9 rfl (Qi.to (fun v' M' hv => ?_))
    obtain ⟨rfl, rfl⟩ := hv
    refine z_bipush hX dX10_isFull_9 qb_6 11 rfl ?_
    refine z_icmp_eq hX dX10_isFull_11 44 14 (by decide) rfl (fun hc => ?_) (fun hc => ?_)
    · rw [if_pos hc] at h6_
      refine z_iconst hX dX10_isFull_44 qi_1 45 rfl ?_
      refine z_goto hX dX10_isFull_45 49 (by decide) ?_
      exact z_zreturn hX dX10_isFull_49 (by decide) (zend_ip h6_)
    · rw [if_neg hc] at h6_
      refine z_mask [true, true] ?_
      have hz := aX10_isFull_J14 hX h6_
      exact hz
def gX10_found_L3 (a0 : Nat) (n0 : Nat) (x1 : Int32) (x2 : Int32) (x3 : Int32) (M : zM) (rc3 : Int32 → Option Int32) (s : Int32) : Option Int32 :=
  (if x2 ≤ s then some (-1)
  else zg (zok (x1 + s) n0) ((if (M.1 a0 ((x1 + s) : Int32).toNatClampNeg) = x3 then some s
  else rc3 (s + 1))))
set_option maxRecDepth 100000 in
set_option maxHeartbeats 2000000 in
theorem aX10_found_L3 {G : zG} {X : zX} {a0 : Nat} {n0 : Nat} {x1 : Int32} {x2 : Int32} {x3 : Int32} (hX : zC G X cX10_found 5 RX10 (some .int) 1) (ha0 : zs a0 = .inr (0, n0)) (hn0 : 0 < n0)  {M : zM} {res : Int32}  : ∀ (N : Nat) (s : Int32), zfix N (gX10_found_L3 a0 n0 x1 x2 x3 M) s = some res → Z G X (zQip M res) 3 [some (.ref a0), some (.int x1), some (.int x2), some (.int x3), some (.int s)] [] M := by
  intro N
  induction N with
  | zero => intro s h; cases h
  | succ N hrc3 =>
    intro s h
    replace h : gX10_found_L3 a0 n0 x1 x2 x3 M (zfix N (gX10_found_L3 a0 n0 x1 x2 x3 M)) s = some res := h
    unfold gX10_found_L3 at h
    refine z_iload hX dX10_found_3 rfl 5 rfl ?_
    refine z_iload_n hX dX10_found_5 rfl 6 rfl ?_
    refine z_icmp_ge hX dX10_found_6 28 9 (by decide) rfl (fun hc => ?_) (fun hc => ?_)
    · rw [if_pos hc] at h
      refine z_iconst hX dX10_found_28 qi_m1 29 rfl ?_
      exact z_ireturn hX dX10_found_29 (zend_ip h)
    · rw [if_neg hc] at h
      refine z_aload_n hX dX10_found_9 rfl 10 rfl ?_
      refine z_iload_n hX dX10_found_10 rfl 11 rfl ?_
      refine z_iload hX dX10_found_11 rfl 13 rfl ?_
      refine z_iadd hX dX10_found_13 14 rfl ?_
      obtain ⟨hb, h1_⟩ := zgd h
      refine z_iald hX dX10_found_14 ha0 (zok_in hb) 15 rfl ?_
      refine z_iload_n hX dX10_found_15 rfl 16 rfl ?_
      refine z_icmp_ne hX dX10_found_16 22 19 (by decide) rfl (fun hc => ?_) (fun hc => ?_)
      · rw [if_neg hc] at h1_
        refine z_iinc (v := (s + 1)) hX dX10_found_22 rfl (by rfl) (by decide) 25 rfl ?_
        refine z_goto hX dX10_found_25 3 (by decide) ?_
        refine z_mask [true, true, true, true, true] ?_
        have hz := hrc3 _ h1_
        exact hz
      · rw [if_pos hc] at h1_
        refine z_iload hX dX10_found_19 rfl 21 rfl ?_
        exact z_ireturn hX dX10_found_21 (zend_ip h1_)
def gX10_found (a0 : Nat) (n0 : Nat) (x1 : Int32) (x2 : Int32) (x3 : Int32) (M : zM) : Option Int32 :=
  zfix zFu (gX10_found_L3 a0 n0 x1 x2 x3 M) 0
set_option maxRecDepth 100000 in
set_option maxHeartbeats 2000000 in
theorem mX10_found {G : zG} {a0 : Nat} {n0 : Nat} {x1 : Int32} {x2 : Int32} {x3 : Int32} {M : zM} (ha0 : zs a0 = .inr (0, n0)) (hn0 : 0 < n0) {res : Int32} (h : gX10_found a0 n0 x1 x2 x3 M = some res) : Ct G 1 tX10_found [.ref a0, .int x1, .int x2, .int x3] M (zQip M res) := by
  unfold gX10_found at h
  refine Ct.of (y := yX10_found) rfl plX10 (Nat.le_of_ble_eq_true rfl) (fun X hX => ?_)
  replace hX : zC G X cX10_found 5 RX10 (some .int) 1 := hX
  show Z G X _ 0 [some (.ref a0), some (.int x1), some (.int x2), some (.int x3), none] [] M
  refine z_iconst hX dX10_found_0 qi_0 1 rfl ?_
  refine z_istore hX dX10_found_1 (by decide) 3 rfl ?_
  refine z_mask [true, true, true, true, true] ?_
  have hz := aX10_found_L3 hX ha0 hn0 _ _ h
  exact hz
def gX10_fresh_J44 (a1 : Nat) (n1 : Nat) (M : zM) : Option (Int32 × zM) :=
  (if (M.1 98 26) = 0 then zcV (gX10_token M) (fun M3_ => some ((M.1 98 25), M3_))
  else some (0, M))
set_option maxRecDepth 100000 in
set_option maxHeartbeats 2000000 in
theorem aX10_fresh_J44 {G : zG} {X : zX} {a1 : Nat} {n1 : Nat} (hX : zC G X cX10_fresh 5 RX10 (some .int) 7) (ha1 : zs a1 = .inr (0, n1)) (hn1 : 0 < n1)  {M : zM} {res : (Int32 × zM)}  (h : gX10_fresh_J44 a1 n1 M = some res) : Z G X (zQi res) 44 [some (.ref 98), none, none, none, none] [] M := by
  unfold gX10_fresh_J44 at h
  refine z_aload_n hX dX10_fresh_44 rfl 45 rfl ?_
  refine z_getI hX fX10_208 dX10_fresh_45 zs_98 (by decide) rfl 48 rfl ?_
  refine z_if_eq hX dX10_fresh_48 53 51 (by decide) rfl (fun hc => ?_) (fun hc => ?_)
  · rw [if_pos hc] at h
    refine z_aload_n hX dX10_fresh_53 rfl 54 rfl ?_
    refine z_getI hX fX10_183 dX10_fresh_54 zs_98 (by decide) rfl 57 rfl ?_
    refine z_istore hX dX10_fresh_57 (by decide) 59 rfl ?_
    refine z_aload_n hX dX10_fresh_59 rfl 60 rfl ?_
    obtain ⟨M3_, hq, h4_⟩ := zcV_of h
    refine z_callV hX vX10_token lX10_214 dX10_fresh_60 zs_98 rfl (mX10_token  hq) (by decide) rfl rfl (Nat.le_of_ble_eq_true rfl) 63 rfl (Qv.to (fun M' hv => ?_))
    subst hv
    refine z_iload hX dX10_fresh_63 rfl 65 rfl ?_
    exact z_ireturn hX dX10_fresh_65 (zend_i h4_)
  · rw [if_neg hc] at h
    refine z_iconst hX dX10_fresh_51 qi_0 52 rfl ?_
    exact z_ireturn hX dX10_fresh_52 (zend_i h)
def gX10_fresh (a1 : Nat) (n1 : Nat) (x2 : Int32) (x3 : Int32) (M : zM) : Option (Int32 × zM) :=
  (if (M.1 98 26) = 0 then (if (M.1 98 24) = 1 then zcI (gX10_found a1 n1 x2 x3 (M.1 98 25) M) (fun v1_ => (if v1_ = (-1) then gX10_fresh_J44 a1 n1 M
  else zcV (gX10_wrong 3 M) (fun M5_ => gX10_fresh_J44 a1 n1 M5_)))
  else zcV (gX10_wrong 1 M) (fun M7_ => gX10_fresh_J44 a1 n1 M7_))
  else some (0, M))
set_option maxRecDepth 100000 in
set_option maxHeartbeats 2000000 in
theorem mX10_fresh {G : zG} {a1 : Nat} {n1 : Nat} {x2 : Int32} {x3 : Int32} {M : zM} (ha1 : zs a1 = .inr (0, n1)) (hn1 : 0 < n1) {res : (Int32 × zM)} (h : gX10_fresh a1 n1 x2 x3 M = some res) : Ct G 7 tX10_fresh [.ref 98, .ref a1, .int x2, .int x3] M (zQi res) := by
  unfold gX10_fresh at h
  refine Ct.of (y := yX10_fresh) rfl plX10 (Nat.le_of_ble_eq_true rfl) (fun X hX => ?_)
  replace hX : zC G X cX10_fresh 5 RX10 (some .int) 7 := hX
  show Z G X _ 0 [some (.ref 98), some (.ref a1), some (.int x2), some (.int x3), none] [] M
  refine z_aload_n hX dX10_fresh_0 rfl 1 rfl ?_
  refine z_getI hX fX10_208 dX10_fresh_1 zs_98 (by decide) rfl 4 rfl ?_
  refine z_if_eq hX dX10_fresh_4 9 7 (by decide) rfl (fun hc => ?_) (fun hc => ?_)
  · rw [if_pos hc] at h
    refine z_aload_n hX dX10_fresh_9 rfl 10 rfl ?_
    refine z_getI hX fX10_173 dX10_fresh_10 zs_98 (by decide) rfl 13 rfl ?_
    refine z_iconst hX dX10_fresh_13 qi_1 14 rfl ?_
    refine z_icmp_eq hX dX10_fresh_14 25 17 (by decide) rfl (fun hc => ?_) (fun hc => ?_)
    · rw [if_pos hc] at h
      refine z_aload_n hX dX10_fresh_25 rfl 26 rfl ?_
      refine z_iload_n hX dX10_fresh_26 rfl 27 rfl ?_
      refine z_iload_n hX dX10_fresh_27 rfl 28 rfl ?_
      refine z_aload_n hX dX10_fresh_28 rfl 29 rfl ?_
      refine z_getI hX fX10_183 dX10_fresh_29 zs_98 (by decide) rfl 32 rfl ?_
      obtain ⟨v1_, hq, h2_⟩ := zcI_of h
      refine z_callS hX vX10_found rfl lX10_220 dX10_fresh_32 (mX10_found ha1 hn1 hq) (by decide) rfl rfl (Nat.le_of_ble_eq_true rfl) 35 rfl (Qi.to (fun v' M' hv => ?_))
      obtain ⟨rfl, rfl⟩ := hv
      refine z_iconst hX dX10_fresh_35 qi_m1 36 rfl ?_
      refine z_icmp_eq hX dX10_fresh_36 44 39 (by decide) rfl (fun hc => ?_) (fun hc => ?_)
      · rw [if_pos hc] at h2_
        refine z_mask [true, false, false, false, false] ?_
        have hz := aX10_fresh_J44 hX ha1 hn1 h2_
        exact hz
      · rw [if_neg hc] at h2_
        refine z_aload_n hX dX10_fresh_39 rfl 40 rfl ?_
        refine z_iconst hX dX10_fresh_40 qi_3 41 rfl ?_
        obtain ⟨M5_, hq, h6_⟩ := zcV_of h2_
        refine z_callV hX vX10_wrong lX10_217 dX10_fresh_41 zs_98 rfl (mX10_wrong  hq) (by decide) rfl rfl (Nat.le_of_ble_eq_true rfl) 44 rfl (Qv.to (fun M' hv => ?_))
        subst hv
        refine z_mask [true, false, false, false, false] ?_
        have hz := aX10_fresh_J44 hX ha1 hn1 h6_
        exact hz
    · rw [if_neg hc] at h
      refine z_aload_n hX dX10_fresh_17 rfl 18 rfl ?_
      refine z_iconst hX dX10_fresh_18 qi_1 19 rfl ?_
      obtain ⟨M7_, hq, h8_⟩ := zcV_of h
      refine z_callV hX vX10_wrong lX10_217 dX10_fresh_19 zs_98 rfl (mX10_wrong  hq) (by decide) rfl rfl (Nat.le_of_ble_eq_true rfl) 22 rfl (Qv.to (fun M' hv => ?_))
      subst hv
      refine z_goto hX dX10_fresh_22 44 (by decide) ?_
      refine z_mask [true, false, false, false, false] ?_
      have hz := aX10_fresh_J44 hX ha1 hn1 h8_
      exact hz
  · rw [if_neg hc] at h
    refine z_iconst hX dX10_fresh_7 qi_0 8 rfl ?_
    exact z_ireturn hX dX10_fresh_8 (zend_i h)
def gX10_numeral_J46 (x1 : Int32) (M : zM) : Option (Int32 × zM) :=
  (if (M.1 98 26) = 0 then zcV (gX10_token M) (fun M3_ => some ((M.1 98 25), M3_))
  else some (x1, M))
set_option maxRecDepth 100000 in
set_option maxHeartbeats 2000000 in
theorem aX10_numeral_J46 {G : zG} {X : zX} {x1 : Int32} (hX : zC G X cX10_numeral 4 RX10 (some .int) 7)   {M : zM} {res : (Int32 × zM)}  (h : gX10_numeral_J46 x1 M = some res) : Z G X (zQi res) 46 [some (.ref 98), some (.int x1), none, none] [] M := by
  unfold gX10_numeral_J46 at h
  refine z_aload_n hX dX10_numeral_46 rfl 47 rfl ?_
  refine z_getI hX fX10_208 dX10_numeral_47 zs_98 (by decide) rfl 50 rfl ?_
  refine z_if_eq hX dX10_numeral_50 55 53 (by decide) rfl (fun hc => ?_) (fun hc => ?_)
  · rw [if_pos hc] at h
    refine z_aload_n hX dX10_numeral_55 rfl 56 rfl ?_
    refine z_getI hX fX10_183 dX10_numeral_56 zs_98 (by decide) rfl 59 rfl ?_
    refine z_istore_n hX dX10_numeral_59 (by decide) 60 rfl ?_
    refine z_aload_n hX dX10_numeral_60 rfl 61 rfl ?_
    obtain ⟨M3_, hq, h4_⟩ := zcV_of h
    refine z_callV hX vX10_token lX10_214 dX10_numeral_61 zs_98 rfl (mX10_token  hq) (by decide) rfl rfl (Nat.le_of_ble_eq_true rfl) 64 rfl (Qv.to (fun M' hv => ?_))
    subst hv
    refine z_iload_n hX dX10_numeral_64 rfl 65 rfl ?_
    exact z_ireturn hX dX10_numeral_65 (zend_i h4_)
  · rw [if_neg hc] at h
    refine z_iload_n hX dX10_numeral_53 rfl 54 rfl ?_
    exact z_ireturn hX dX10_numeral_54 (zend_i h)
def gX10_numeral_J41 (x1 : Int32) (M : zM) : Option (Int32 × zM) :=
  zcV (gX10_wrong 2 M) (fun M1_ => gX10_numeral_J46 x1 M1_)
set_option maxRecDepth 100000 in
set_option maxHeartbeats 2000000 in
theorem aX10_numeral_J41 {G : zG} {X : zX} {x1 : Int32} (hX : zC G X cX10_numeral 4 RX10 (some .int) 7)   {M : zM} {res : (Int32 × zM)}  (h : gX10_numeral_J41 x1 M = some res) : Z G X (zQi res) 41 [some (.ref 98), some (.int x1), none, none] [] M := by
  unfold gX10_numeral_J41 at h
  refine z_aload_n hX dX10_numeral_41 rfl 42 rfl ?_
  refine z_iconst hX dX10_numeral_42 qi_2 43 rfl ?_
  obtain ⟨M1_, hq, h2_⟩ := zcV_of h
  refine z_callV hX vX10_wrong lX10_217 dX10_numeral_43 zs_98 rfl (mX10_wrong  hq) (by decide) rfl rfl (Nat.le_of_ble_eq_true rfl) 46 rfl (Qv.to (fun M' hv => ?_))
  subst hv
  refine z_mask [true, true, false, false] ?_
  have hz := aX10_numeral_J46 hX h2_
  exact hz
def gX10_numeral (x1 : Int32) (x2 : Int32) (M : zM) : Option (Int32 × zM) :=
  (if (M.1 98 26) = 0 then (if (M.1 98 24) = 2 then (if (M.1 98 25) < x1 then gX10_numeral_J41 x1 M
  else (if (M.1 98 25) ≤ x2 then gX10_numeral_J46 x1 M
  else gX10_numeral_J41 x1 M))
  else zcV (gX10_wrong 1 M) (fun M5_ => gX10_numeral_J46 x1 M5_))
  else some (x1, M))
set_option maxRecDepth 100000 in
set_option maxHeartbeats 2000000 in
theorem mX10_numeral {G : zG} {x1 : Int32} {x2 : Int32} {M : zM}  {res : (Int32 × zM)} (h : gX10_numeral x1 x2 M = some res) : Ct G 7 tX10_numeral [.ref 98, .int x1, .int x2] M (zQi res) := by
  unfold gX10_numeral at h
  refine Ct.of (y := yX10_numeral) rfl plX10 (Nat.le_of_ble_eq_true rfl) (fun X hX => ?_)
  replace hX : zC G X cX10_numeral 4 RX10 (some .int) 7 := hX
  show Z G X _ 0 [some (.ref 98), some (.int x1), some (.int x2), none] [] M
  refine z_aload_n hX dX10_numeral_0 rfl 1 rfl ?_
  refine z_getI hX fX10_208 dX10_numeral_1 zs_98 (by decide) rfl 4 rfl ?_
  refine z_if_eq hX dX10_numeral_4 9 7 (by decide) rfl (fun hc => ?_) (fun hc => ?_)
  · rw [if_pos hc] at h
    refine z_aload_n hX dX10_numeral_9 rfl 10 rfl ?_
    refine z_getI hX fX10_173 dX10_numeral_10 zs_98 (by decide) rfl 13 rfl ?_
    refine z_iconst hX dX10_numeral_13 qi_2 14 rfl ?_
    refine z_icmp_eq hX dX10_numeral_14 25 17 (by decide) rfl (fun hc => ?_) (fun hc => ?_)
    · rw [if_pos hc] at h
      refine z_aload_n hX dX10_numeral_25 rfl 26 rfl ?_
      refine z_getI hX fX10_183 dX10_numeral_26 zs_98 (by decide) rfl 29 rfl ?_
      refine z_iload_n hX dX10_numeral_29 rfl 30 rfl ?_
      refine z_icmp_lt hX dX10_numeral_30 41 33 (by decide) rfl (fun hc => ?_) (fun hc => ?_)
      · rw [if_pos hc] at h
        refine z_mask [true, true, false, false] ?_
        have hz := aX10_numeral_J41 hX h
        exact hz
      · rw [if_neg hc] at h
        refine z_aload_n hX dX10_numeral_33 rfl 34 rfl ?_
        refine z_getI hX fX10_183 dX10_numeral_34 zs_98 (by decide) rfl 37 rfl ?_
        refine z_iload_n hX dX10_numeral_37 rfl 38 rfl ?_
        refine z_icmp_le hX dX10_numeral_38 46 41 (by decide) rfl (fun hc => ?_) (fun hc => ?_)
        · rw [if_pos hc] at h
          refine z_mask [true, true, false, false] ?_
          have hz := aX10_numeral_J46 hX h
          exact hz
        · rw [if_neg hc] at h
          refine z_mask [true, true, false, false] ?_
          have hz := aX10_numeral_J41 hX h
          exact hz
    · rw [if_neg hc] at h
      refine z_aload_n hX dX10_numeral_17 rfl 18 rfl ?_
      refine z_iconst hX dX10_numeral_18 qi_1 19 rfl ?_
      obtain ⟨M5_, hq, h6_⟩ := zcV_of h
      refine z_callV hX vX10_wrong lX10_217 dX10_numeral_19 zs_98 rfl (mX10_wrong  hq) (by decide) rfl rfl (Nat.le_of_ble_eq_true rfl) 22 rfl (Qv.to (fun M' hv => ?_))
      subst hv
      refine z_goto hX dX10_numeral_22 46 (by decide) ?_
      refine z_mask [true, true, false, false] ?_
      have hz := aX10_numeral_J46 hX h6_
      exact hz
  · rw [if_neg hc] at h
    refine z_iload_n hX dX10_numeral_7 rfl 8 rfl ?_
    exact z_ireturn hX dX10_numeral_8 (zend_i h)
def gX10_reads (x1 : Int32) (x2 : Int32) (M : zM) : Option zM :=
  zg (zok (9 + x1) 18) (zlet (zI M 100 ((9 + x1) : Int32).toNatClampNeg x2) (fun M2_ => some M2_))
set_option maxRecDepth 100000 in
set_option maxHeartbeats 2000000 in
theorem mX10_reads {G : zG} {x1 : Int32} {x2 : Int32} {M : zM}  {res : zM} (h : gX10_reads x1 x2 M = some res) : Ct G 1 tX10_reads [.ref 98, .int x1, .int x2] M (zQv res) := by
  unfold gX10_reads at h
  refine Ct.of (y := yX10_reads) rfl plX10 (Nat.le_of_ble_eq_true rfl) (fun X hX => ?_)
  replace hX : zC G X cX10_reads 3 RX10 none 1 := hX
  show Z G X _ 0 [some (.ref 98), some (.int x1), some (.int x2)] [] M
  refine z_aload_n hX dX10_reads_0 rfl 1 rfl ?_
  refine z_getF hX fX10_13 dX10_reads_1 zs_98 (by decide) rfl 4 rfl ?_
  refine z_bipush hX dX10_reads_4 qb_9 6 rfl ?_
  refine z_iload_n hX dX10_reads_6 rfl 7 rfl ?_
  refine z_iadd hX dX10_reads_7 8 rfl ?_
  refine z_iload_n hX dX10_reads_8 rfl 9 rfl ?_
  obtain ⟨hb, h1_⟩ := zgd h
  refine z_iast hX dX10_reads_9 zs_100 (zok_in hb) 10 rfl ?_
  refine z_mem h1_ (fun M2_ h3_ => ?_)
  exact z_return hX dX10_reads_10 (zend_v h3_)
def gX10_isSign (x1 : Int32) (M : zM) : Option Int32 :=
  (if (M.1 98 26) = 0 then (if (M.1 98 24) = 3 then (if (M.1 98 25) = x1 then some 1
  else some 0)
  else some 0)
  else some 0)
set_option maxRecDepth 100000 in
set_option maxHeartbeats 2000000 in
theorem mX10_isSign {G : zG} {x1 : Int32} {M : zM}  {res : Int32} (h : gX10_isSign x1 M = some res) : Ct G 1 tX10_isSign [.ref 98, .int x1] M (zQip M res) := by
  unfold gX10_isSign at h
  refine Ct.of (y := yX10_isSign) rfl plX10 (Nat.le_of_ble_eq_true rfl) (fun X hX => ?_)
  replace hX : zC G X cX10_isSign 2 RX10 (some .boolean) 1 := hX
  show Z G X _ 0 [some (.ref 98), some (.int x1)] [] M
  refine z_aload_n hX dX10_isSign_0 rfl 1 rfl ?_
  refine z_getI hX fX10_208 dX10_isSign_1 zs_98 (by decide) rfl 4 rfl ?_
  refine z_if_ne hX dX10_isSign_4 27 7 (by decide) rfl (fun hc => ?_) (fun hc => ?_)
  · rw [if_neg hc] at h
    refine z_iconst hX dX10_isSign_27 qi_0 28 rfl ?_
    exact z_zreturn hX dX10_isSign_28 (by decide) (zend_ip h)
  · rw [if_pos hc] at h
    refine z_aload_n hX dX10_isSign_7 rfl 8 rfl ?_
    refine z_getI hX fX10_173 dX10_isSign_8 zs_98 (by decide) rfl 11 rfl ?_
    refine z_iconst hX dX10_isSign_11 qi_3 12 rfl ?_
    refine z_icmp_ne hX dX10_isSign_12 27 15 (by decide) rfl (fun hc => ?_) (fun hc => ?_)
    · rw [if_neg hc] at h
      refine z_iconst hX dX10_isSign_27 qi_0 28 rfl ?_
      exact z_zreturn hX dX10_isSign_28 (by decide) (zend_ip h)
    · rw [if_pos hc] at h
      refine z_aload_n hX dX10_isSign_15 rfl 16 rfl ?_
      refine z_getI hX fX10_183 dX10_isSign_16 zs_98 (by decide) rfl 19 rfl ?_
      refine z_iload_n hX dX10_isSign_19 rfl 20 rfl ?_
      refine z_icmp_ne hX dX10_isSign_20 27 23 (by decide) rfl (fun hc => ?_) (fun hc => ?_)
      · rw [if_neg hc] at h
        refine z_iconst hX dX10_isSign_27 qi_0 28 rfl ?_
        exact z_zreturn hX dX10_isSign_28 (by decide) (zend_ip h)
      · rw [if_pos hc] at h
        refine z_iconst hX dX10_isSign_23 qi_1 24 rfl ?_
        refine z_goto hX dX10_isSign_24 28 (by decide) ?_
        exact z_zreturn hX dX10_isSign_28 (by decide) (zend_ip h)
def gX10_goOn (M : zM) : Option zM :=
  (if (M.1 98 26) = 0 then zcV (gX10_token M) (fun M1_ => some M1_)
  else some M)
set_option maxRecDepth 100000 in
set_option maxHeartbeats 2000000 in
theorem mX10_goOn {G : zG}  {M : zM}  {res : zM} (h : gX10_goOn M = some res) : Ct G 7 tX10_goOn [.ref 98] M (zQv res) := by
  unfold gX10_goOn at h
  refine Ct.of (y := yX10_goOn) rfl plX10 (Nat.le_of_ble_eq_true rfl) (fun X hX => ?_)
  replace hX : zC G X cX10_goOn 1 RX10 none 7 := hX
  show Z G X _ 0 [some (.ref 98)] [] M
  refine z_aload_n hX dX10_goOn_0 rfl 1 rfl ?_
  refine z_getI hX fX10_208 dX10_goOn_1 zs_98 (by decide) rfl 4 rfl ?_
  refine z_if_ne hX dX10_goOn_4 11 7 (by decide) rfl (fun hc => ?_) (fun hc => ?_)
  · rw [if_neg hc] at h
    exact z_return hX dX10_goOn_11 (zend_v h)
  · rw [if_pos hc] at h
    refine z_aload_n hX dX10_goOn_7 rfl 8 rfl ?_
    obtain ⟨M1_, hq, h2_⟩ := zcV_of h
    refine z_callV hX vX10_token lX10_214 dX10_goOn_8 zs_98 rfl (mX10_token  hq) (by decide) rfl rfl (Nat.le_of_ble_eq_true rfl) 11 rfl (Qv.to (fun M' hv => ?_))
    subst hv
    exact z_return hX dX10_goOn_11 (zend_v h2_)
def gX10_manAhead_J69 (x1 : Int32) (M : zM) : Option (Int32 × zM) :=
  zcV (gX10_goOn M) (fun M1_ => (if (M1_.1 98 26) = 0 then some (x1, M1_)
  else some (0, M1_)))
set_option maxRecDepth 100000 in
set_option maxHeartbeats 2000000 in
theorem aX10_manAhead_J69 {G : zG} {X : zX} {x1 : Int32} (hX : zC G X cX10_manAhead 2 RX10 (some .int) 8)   {M : zM} {res : (Int32 × zM)}  (h : gX10_manAhead_J69 x1 M = some res) : Z G X (zQi res) 69 [some (.ref 98), some (.int x1)] [] M := by
  unfold gX10_manAhead_J69 at h
  refine z_aload_n hX dX10_manAhead_69 rfl 70 rfl ?_
  obtain ⟨M1_, hq, h2_⟩ := zcV_of h
  refine z_callV hX vX10_goOn lX10_228 dX10_manAhead_70 zs_98 rfl (mX10_goOn  hq) (by decide) rfl rfl (Nat.le_of_ble_eq_true rfl) 73 rfl (Qv.to (fun M' hv => ?_))
  subst hv
  refine z_aload_n hX dX10_manAhead_73 rfl 74 rfl ?_
  refine z_getI hX fX10_208 dX10_manAhead_74 zs_98 (by decide) rfl 77 rfl ?_
  refine z_if_eq hX dX10_manAhead_77 84 80 (by decide) rfl (fun hc => ?_) (fun hc => ?_)
  · rw [if_pos hc] at h2_
    refine z_iload_n hX dX10_manAhead_84 rfl 85 rfl ?_
    exact z_ireturn hX dX10_manAhead_85 (zend_i h2_)
  · rw [if_neg hc] at h2_
    refine z_iconst hX dX10_manAhead_80 qi_0 81 rfl ?_
    refine z_goto hX dX10_manAhead_81 85 (by decide) ?_
    exact z_ireturn hX dX10_manAhead_85 (zend_i h2_)
def gX10_manAhead_J51 (y0 : Int32) (M : zM) : Option (Int32 × zM) :=
  (if (M.1 98 26) = 0 then (if y0 = (-1) then zcV (gX10_wrong 4 M) (fun M3_ => gX10_manAhead_J69 y0 M3_)
  else gX10_manAhead_J69 y0 M)
  else gX10_manAhead_J69 y0 M)
set_option maxRecDepth 100000 in
set_option maxHeartbeats 2000000 in
theorem aX10_manAhead_J51 {G : zG} {X : zX} {y0 : Int32} (hX : zC G X cX10_manAhead 2 RX10 (some .int) 8)   {M : zM} {res : (Int32 × zM)}  (h : gX10_manAhead_J51 y0 M = some res) : Z G X (zQi res) 51 [some (.ref 98), none] [.int y0] M := by
  unfold gX10_manAhead_J51 at h
  refine z_istore_n hX dX10_manAhead_51 (by decide) 52 rfl ?_
  refine z_aload_n hX dX10_manAhead_52 rfl 53 rfl ?_
  refine z_getI hX fX10_208 dX10_manAhead_53 zs_98 (by decide) rfl 56 rfl ?_
  refine z_if_ne hX dX10_manAhead_56 69 59 (by decide) rfl (fun hc => ?_) (fun hc => ?_)
  · rw [if_neg hc] at h
    refine z_mask [true, true] ?_
    have hz := aX10_manAhead_J69 hX h
    exact hz
  · rw [if_pos hc] at h
    refine z_iload_n hX dX10_manAhead_59 rfl 60 rfl ?_
    refine z_iconst hX dX10_manAhead_60 qi_m1 61 rfl ?_
    refine z_icmp_ne hX dX10_manAhead_61 69 64 (by decide) rfl (fun hc => ?_) (fun hc => ?_)
    · rw [if_neg hc] at h
      refine z_mask [true, true] ?_
      have hz := aX10_manAhead_J69 hX h
      exact hz
    · rw [if_pos hc] at h
      refine z_aload_n hX dX10_manAhead_64 rfl 65 rfl ?_
      refine z_iconst hX dX10_manAhead_65 qi_4 66 rfl ?_
      obtain ⟨M3_, hq, h4_⟩ := zcV_of h
      refine z_callV hX vX10_wrong lX10_217 dX10_manAhead_66 zs_98 rfl (mX10_wrong  hq) (by decide) rfl rfl (Nat.le_of_ble_eq_true rfl) 69 rfl (Qv.to (fun M' hv => ?_))
      subst hv
      refine z_mask [true, true] ?_
      have hz := aX10_manAhead_J69 hX h4_
      exact hz
def gX10_manAhead_J22 (M : zM) : Option (Int32 × zM) :=
  (if (M.1 98 26) = 0 then zcI (gX10_fresher 0 M) (fun v5_ => zcI (gX10_found 101 12 6 v5_ (M.1 98 25) M) (fun v7_ => gX10_manAhead_J51 v7_ M))
  else gX10_manAhead_J51 0 M)
set_option maxRecDepth 100000 in
set_option maxHeartbeats 2000000 in
theorem aX10_manAhead_J22 {G : zG} {X : zX} (hX : zC G X cX10_manAhead 2 RX10 (some .int) 8)   {M : zM} {res : (Int32 × zM)}  (h : gX10_manAhead_J22 M = some res) : Z G X (zQi res) 22 [some (.ref 98), none] [] M := by
  unfold gX10_manAhead_J22 at h
  refine z_aload_n hX dX10_manAhead_22 rfl 23 rfl ?_
  refine z_getI hX fX10_208 dX10_manAhead_23 zs_98 (by decide) rfl 26 rfl ?_
  refine z_if_ne hX dX10_manAhead_26 50 29 (by decide) rfl (fun hc => ?_) (fun hc => ?_)
  · rw [if_neg hc] at h
    refine z_iconst hX dX10_manAhead_50 qi_0 51 rfl ?_
    refine z_mask [true, false] ?_
    have hz := aX10_manAhead_J51 hX h
    exact hz
  · rw [if_pos hc] at h
    refine z_aload_n hX dX10_manAhead_29 rfl 30 rfl ?_
    refine z_getF hX fX10_16 dX10_manAhead_30 zs_98 (by decide) rfl 33 rfl ?_
    refine z_bipush hX dX10_manAhead_33 qb_6 35 rfl ?_
    refine z_aload_n hX dX10_manAhead_35 rfl 36 rfl ?_
    refine z_iconst hX dX10_manAhead_36 qi_0 37 rfl ?_
    obtain ⟨v5_, hq, h6_⟩ := zcI_of h
    refine z_callV hX vX10_fresher lX10_224 dX10_manAhead_37 zs_98 rfl (mX10_fresher  hq) (by decide) rfl rfl (Nat.le_of_ble_eq_true rfl) 40 rfl (Qi.to (fun v' M' hv => ?_))
    obtain ⟨rfl, rfl⟩ := hv
    refine z_aload_n hX dX10_manAhead_40 rfl 41 rfl ?_
    refine z_getI hX fX10_183 dX10_manAhead_41 zs_98 (by decide) rfl 44 rfl ?_
    obtain ⟨v7_, hq, h8_⟩ := zcI_of h6_
    refine z_callS hX vX10_found rfl lX10_220 dX10_manAhead_44 (mX10_found zs_101 (by decide) hq) (by decide) rfl rfl (Nat.le_of_ble_eq_true rfl) 47 rfl (Qi.to (fun v' M' hv => ?_))
    obtain ⟨rfl, rfl⟩ := hv
    refine z_goto hX dX10_manAhead_47 51 (by decide) ?_
    refine z_mask [true, false] ?_
    have hz := aX10_manAhead_J51 hX h8_
    exact hz
def gX10_manAhead (M : zM) : Option (Int32 × zM) :=
  (if (M.1 98 26) = 0 then (if (M.1 98 24) = 1 then gX10_manAhead_J22 M
  else zcV (gX10_wrong 1 M) (fun M9_ => gX10_manAhead_J22 M9_))
  else some (0, M))
set_option maxRecDepth 100000 in
set_option maxHeartbeats 2000000 in
theorem mX10_manAhead {G : zG}  {M : zM}  {res : (Int32 × zM)} (h : gX10_manAhead M = some res) : Ct G 8 tX10_manAhead [.ref 98] M (zQi res) := by
  unfold gX10_manAhead at h
  refine Ct.of (y := yX10_manAhead) rfl plX10 (Nat.le_of_ble_eq_true rfl) (fun X hX => ?_)
  replace hX : zC G X cX10_manAhead 2 RX10 (some .int) 8 := hX
  show Z G X _ 0 [some (.ref 98), none] [] M
  refine z_aload_n hX dX10_manAhead_0 rfl 1 rfl ?_
  refine z_getI hX fX10_208 dX10_manAhead_1 zs_98 (by decide) rfl 4 rfl ?_
  refine z_if_eq hX dX10_manAhead_4 9 7 (by decide) rfl (fun hc => ?_) (fun hc => ?_)
  · rw [if_pos hc] at h
    refine z_aload_n hX dX10_manAhead_9 rfl 10 rfl ?_
    refine z_getI hX fX10_173 dX10_manAhead_10 zs_98 (by decide) rfl 13 rfl ?_
    refine z_iconst hX dX10_manAhead_13 qi_1 14 rfl ?_
    refine z_icmp_eq hX dX10_manAhead_14 22 17 (by decide) rfl (fun hc => ?_) (fun hc => ?_)
    · rw [if_pos hc] at h
      refine z_mask [true, false] ?_
      have hz := aX10_manAhead_J22 hX h
      exact hz
    · rw [if_neg hc] at h
      refine z_aload_n hX dX10_manAhead_17 rfl 18 rfl ?_
      refine z_iconst hX dX10_manAhead_18 qi_1 19 rfl ?_
      obtain ⟨M9_, hq, h10_⟩ := zcV_of h
      refine z_callV hX vX10_wrong lX10_217 dX10_manAhead_19 zs_98 rfl (mX10_wrong  hq) (by decide) rfl rfl (Nat.le_of_ble_eq_true rfl) 22 rfl (Qv.to (fun M' hv => ?_))
      subst hv
      refine z_mask [true, false] ?_
      have hz := aX10_manAhead_J22 hX h10_
      exact hz
  · rw [if_neg hc] at h
    refine z_iconst hX dX10_manAhead_7 qi_0 8 rfl ?_
    exact z_ireturn hX dX10_manAhead_8 (zend_i h)
