def gX8_pass_J98 (w : Nat) (x1 : Int32) (M : zM) : Option zM :=
  zcV (gX8_growHeat w x1 M) (fun M7_ => zlet (zI M7_ w 10 ((M7_.1 w 10) + 1)) (fun M9_ => some M9_))
set_option maxRecDepth 100000 in
set_option maxHeartbeats 2000000 in
theorem aX8_pass_J98 {G : zG} {X : zX} {w : Nat} {x1 : Int32} (hX : zC G X cX8_pass 3 RX8 none 5) (hw : isW w)  {M : zM} {res : zM}  (h : gX8_pass_J98 w x1 M = some res) : Z G X (zQv res) 98 [some (.ref w), some (.int x1), none] [] M := by
  unfold gX8_pass_J98 at h
  refine z_aload_n hX dX8_pass_98 rfl 99 rfl ?_
  refine z_iload_n hX dX8_pass_99 rfl 100 rfl ?_
  obtain ⟨M7_, hq, h8_⟩ := zcV_of h
  refine z_callV hX vX8_growHeat lX8_143 dX8_pass_100 (zsW0 hw) rfl (mX8_growHeat hw hq) (by decide) rfl rfl (Nat.le_of_ble_eq_true rfl) 103 rfl (Qv.to (fun M' hv => ?_))
  subst hv
  refine z_aload_n hX dX8_pass_103 rfl 104 rfl ?_
  refine z_dup hX dX8_pass_104 rfl 105 rfl ?_
  refine z_getI hX fX8_52 dX8_pass_105 (zsW0 hw) (by decide) rfl 108 rfl ?_
  refine z_iconst hX dX8_pass_108 qi_1 109 rfl ?_
  refine z_iadd hX dX8_pass_109 110 rfl ?_
  refine z_putI hX pX8_52 dX8_pass_110 (zsW0 hw) (by decide) rfl 113 rfl ?_
  refine z_mem h8_ (fun M9_ h10_ => ?_)
  exact z_return hX dX8_pass_113 (zend_v h10_)
def gX8_pass_J87 (w : Nat) (x1 : Int32) (M : zM) : Option zM :=
  (if (x1 &&& 8) = 0 then zcV (gX8_burnThings w M) (fun M11_ => gX8_pass_J98 w x1 M11_)
  else gX8_pass_J98 w x1 M)
set_option maxRecDepth 100000 in
set_option maxHeartbeats 2000000 in
theorem aX8_pass_J87 {G : zG} {X : zX} {w : Nat} {x1 : Int32} (hX : zC G X cX8_pass 3 RX8 none 5) (hw : isW w)  {M : zM} {res : zM}  (h : gX8_pass_J87 w x1 M = some res) : Z G X (zQv res) 87 [some (.ref w), some (.int x1), none] [] M := by
  unfold gX8_pass_J87 at h
  refine z_iload_n hX dX8_pass_87 rfl 88 rfl ?_
  refine z_bipush hX dX8_pass_88 qb_8 90 rfl ?_
  refine z_iand hX dX8_pass_90 91 rfl ?_
  refine z_if_ne hX dX8_pass_91 98 94 (by decide) rfl (fun hc => ?_) (fun hc => ?_)
  · rw [if_neg hc] at h
    refine z_mask [true, true, false] ?_
    have hz := aX8_pass_J98 hX hw h
    exact hz
  · rw [if_pos hc] at h
    refine z_aload_n hX dX8_pass_94 rfl 95 rfl ?_
    obtain ⟨M11_, hq, h12_⟩ := zcV_of h
    refine z_callV hX vX8_burnThings lX8_140 dX8_pass_95 (zsW0 hw) rfl (mX8_burnThings hw hq) (by decide) rfl rfl (Nat.le_of_ble_eq_true rfl) 98 rfl (Qv.to (fun M' hv => ?_))
    subst hv
    refine z_mask [true, true, false] ?_
    have hz := aX8_pass_J98 hX hw h12_
    exact hz
def gX8_pass_L53 (w : Nat) (x1 : Int32) (rc53 : (Int32 × zM) → Option zM) (s : (Int32 × zM)) : Option zM :=
  zgP (s.2.2.2 w 0) (fun p5_ => (if (s.2.1 p5_ 0) ≤ s.1 then gX8_pass_J87 w x1 s.2
  else (if 6 ≤ s.1 then gX8_pass_J87 w x1 s.2
  else zg (zok s.1 6) (zcV (gX8_moveMan w (s.2.1 (w + 1) (s.1 : Int32).toNatClampNeg) x1 s.2) (fun M14_ => rc53 ((s.1 + 1), M14_))))))
set_option maxRecDepth 100000 in
set_option maxHeartbeats 2000000 in
theorem aX8_pass_L53 {G : zG} {X : zX} {w : Nat} {x1 : Int32} (hX : zC G X cX8_pass 3 RX8 none 5) (hw : isW w)   {res : zM}  : ∀ (N : Nat) (s : (Int32 × zM)), zfix N (gX8_pass_L53 w x1) s = some res → Z G X (zQv res) 53 [some (.ref w), some (.int x1), some (.int s.1)] [] s.2 := by
  intro N
  induction N with
  | zero => intro s h; cases h
  | succ N hrc53 =>
    intro s h
    replace h : gX8_pass_L53 w x1 (zfix N (gX8_pass_L53 w x1)) s = some res := h
    unfold gX8_pass_L53 at h
    refine z_iload_n hX dX8_pass_53 rfl 54 rfl ?_
    refine z_aload_n hX dX8_pass_54 rfl 55 rfl ?_
    obtain ⟨p5_, hm, hp5_, h6_⟩ := zgP_of h
    refine z_getR hX fX8_40 dX8_pass_55 (zsW0 hw) (by decide) rfl hm 58 rfl ?_
    refine z_getI hX fX8_83 dX8_pass_58 (zsP0 hp5_) (by decide) rfl 61 rfl ?_
    refine z_icmp_ge hX dX8_pass_61 87 64 (by decide) rfl (fun hc => ?_) (fun hc => ?_)
    · rw [if_pos hc] at h6_
      refine z_mask [true, true, false] ?_
      have hz := aX8_pass_J87 hX hw h6_
      exact hz
    · rw [if_neg hc] at h6_
      refine z_iload_n hX dX8_pass_64 rfl 65 rfl ?_
      refine z_bipush hX dX8_pass_65 qb_6 67 rfl ?_
      refine z_icmp_ge hX dX8_pass_67 87 70 (by decide) rfl (fun hc => ?_) (fun hc => ?_)
      · rw [if_pos hc] at h6_
        refine z_mask [true, true, false] ?_
        have hz := aX8_pass_J87 hX hw h6_
        exact hz
      · rw [if_neg hc] at h6_
        refine z_aload_n hX dX8_pass_70 rfl 71 rfl ?_
        refine z_aload_n hX dX8_pass_71 rfl 72 rfl ?_
        refine z_getF hX fX8_9 dX8_pass_72 (zsW0 hw) (by decide) rfl 75 rfl ?_
        refine z_iload_n hX dX8_pass_75 rfl 76 rfl ?_
        obtain ⟨hb, h13_⟩ := zgd h6_
        refine z_iald hX dX8_pass_76 (zsW1 hw) (zok_in hb) 77 rfl ?_
        refine z_iload_n hX dX8_pass_77 rfl 78 rfl ?_
        obtain ⟨M14_, hq, h15_⟩ := zcV_of h13_
        refine z_callV hX vX8_moveMan lX8_136 dX8_pass_78 (zsW0 hw) rfl (mX8_moveMan hw hq) (by decide) rfl rfl (Nat.le_of_ble_eq_true rfl) 81 rfl (Qv.to (fun M' hv => ?_))
        subst hv
        refine z_iinc (v := (s.1 + 1)) hX dX8_pass_81 rfl (by rfl) (by decide) 84 rfl ?_
        refine z_goto hX dX8_pass_84 53 (by decide) ?_
        refine z_mask [true, true, true] ?_
        have hz := hrc53 _ h15_
        exact hz
def gX8_pass_J51 (w : Nat) (x1 : Int32) (M : zM) : Option zM :=
  zfix zFu (gX8_pass_L53 w x1) (0, M)
set_option maxRecDepth 100000 in
set_option maxHeartbeats 2000000 in
theorem aX8_pass_J51 {G : zG} {X : zX} {w : Nat} {x1 : Int32} (hX : zC G X cX8_pass 3 RX8 none 5) (hw : isW w)  {M : zM} {res : zM}  (h : gX8_pass_J51 w x1 M = some res) : Z G X (zQv res) 51 [some (.ref w), some (.int x1), none] [] M := by
  unfold gX8_pass_J51 at h
  refine z_iconst hX dX8_pass_51 qi_0 52 rfl ?_
  refine z_istore_n hX dX8_pass_52 (by decide) 53 rfl ?_
  refine z_mask [true, true, true] ?_
  have hz := aX8_pass_L53 hX hw _ _ h
  exact hz
def gX8_pass_L18 (w : Nat) (x1 : Int32) (rc18 : (Int32 × zM) → Option zM) (s : (Int32 × zM)) : Option zM :=
  zgP (s.2.2.2 w 0) (fun p3_ => (if (s.2.1 p3_ 0) ≤ s.1 then gX8_pass_J51 w x1 s.2
  else (if 6 ≤ s.1 then gX8_pass_J51 w x1 s.2
  else zg (zok s.1 6) (zcV (gX8_sendMan w (s.2.1 (w + 1) (s.1 : Int32).toNatClampNeg) s.2) (fun M17_ => rc18 ((s.1 + 1), M17_))))))
set_option maxRecDepth 100000 in
set_option maxHeartbeats 2000000 in
theorem aX8_pass_L18 {G : zG} {X : zX} {w : Nat} {x1 : Int32} (hX : zC G X cX8_pass 3 RX8 none 5) (hw : isW w)   {res : zM}  : ∀ (N : Nat) (s : (Int32 × zM)), zfix N (gX8_pass_L18 w x1) s = some res → Z G X (zQv res) 18 [some (.ref w), some (.int x1), some (.int s.1)] [] s.2 := by
  intro N
  induction N with
  | zero => intro s h; cases h
  | succ N hrc18 =>
    intro s h
    replace h : gX8_pass_L18 w x1 (zfix N (gX8_pass_L18 w x1)) s = some res := h
    unfold gX8_pass_L18 at h
    refine z_iload_n hX dX8_pass_18 rfl 19 rfl ?_
    refine z_aload_n hX dX8_pass_19 rfl 20 rfl ?_
    obtain ⟨p3_, hm, hp3_, h4_⟩ := zgP_of h
    refine z_getR hX fX8_40 dX8_pass_20 (zsW0 hw) (by decide) rfl hm 23 rfl ?_
    refine z_getI hX fX8_83 dX8_pass_23 (zsP0 hp3_) (by decide) rfl 26 rfl ?_
    refine z_icmp_ge hX dX8_pass_26 51 29 (by decide) rfl (fun hc => ?_) (fun hc => ?_)
    · rw [if_pos hc] at h4_
      refine z_mask [true, true, false] ?_
      have hz := aX8_pass_J51 hX hw h4_
      exact hz
    · rw [if_neg hc] at h4_
      refine z_iload_n hX dX8_pass_29 rfl 30 rfl ?_
      refine z_bipush hX dX8_pass_30 qb_6 32 rfl ?_
      refine z_icmp_ge hX dX8_pass_32 51 35 (by decide) rfl (fun hc => ?_) (fun hc => ?_)
      · rw [if_pos hc] at h4_
        refine z_mask [true, true, false] ?_
        have hz := aX8_pass_J51 hX hw h4_
        exact hz
      · rw [if_neg hc] at h4_
        refine z_aload_n hX dX8_pass_35 rfl 36 rfl ?_
        refine z_aload_n hX dX8_pass_36 rfl 37 rfl ?_
        refine z_getF hX fX8_9 dX8_pass_37 (zsW0 hw) (by decide) rfl 40 rfl ?_
        refine z_iload_n hX dX8_pass_40 rfl 41 rfl ?_
        obtain ⟨hb, h16_⟩ := zgd h4_
        refine z_iald hX dX8_pass_41 (zsW1 hw) (zok_in hb) 42 rfl ?_
        obtain ⟨M17_, hq, h18_⟩ := zcV_of h16_
        refine z_callV hX vX8_sendMan lX8_132 dX8_pass_42 (zsW0 hw) rfl (mX8_sendMan hw hq) (by decide) rfl rfl (Nat.le_of_ble_eq_true rfl) 45 rfl (Qv.to (fun M' hv => ?_))
        subst hv
        refine z_iinc (v := (s.1 + 1)) hX dX8_pass_45 rfl (by rfl) (by decide) 48 rfl ?_
        refine z_goto hX dX8_pass_48 18 (by decide) ?_
        refine z_mask [true, true, true] ?_
        have hz := hrc18 _ h18_
        exact hz
def gX8_pass_J16 (w : Nat) (x1 : Int32) (M : zM) : Option zM :=
  zfix zFu (gX8_pass_L18 w x1) (0, M)
set_option maxRecDepth 100000 in
set_option maxHeartbeats 2000000 in
theorem aX8_pass_J16 {G : zG} {X : zX} {w : Nat} {x1 : Int32} (hX : zC G X cX8_pass 3 RX8 none 5) (hw : isW w)  {M : zM} {res : zM}  (h : gX8_pass_J16 w x1 M = some res) : Z G X (zQv res) 16 [some (.ref w), some (.int x1), none] [] M := by
  unfold gX8_pass_J16 at h
  refine z_iconst hX dX8_pass_16 qi_0 17 rfl ?_
  refine z_istore_n hX dX8_pass_17 (by decide) 18 rfl ?_
  refine z_mask [true, true, true] ?_
  have hz := aX8_pass_L18 hX hw _ _ h
  exact hz
def gX8_pass (w : Nat) (x1 : Int32) (M : zM) : Option zM :=
  zlet (zI M w 15 0) (fun M1_ => (if (x1 &&& 16) = 0 then zcV (gX8_payLooks w M1_) (fun M19_ => gX8_pass_J16 w x1 M19_)
  else gX8_pass_J16 w x1 M1_))
set_option maxRecDepth 100000 in
set_option maxHeartbeats 2000000 in
theorem mX8_pass {G : zG} {w : Nat} {x1 : Int32} {M : zM} (hw : isW w) {res : zM} (h : gX8_pass w x1 M = some res) : Ct G 5 tX8_pass [.ref w, .int x1] M (zQv res) := by
  unfold gX8_pass at h
  refine Ct.of (y := yX8_pass) rfl plX8 (Nat.le_of_ble_eq_true rfl) (fun X hX => ?_)
  replace hX : zC G X cX8_pass 3 RX8 none 5 := hX
  show Z G X _ 0 [some (.ref w), some (.int x1), none] [] M
  refine z_aload_n hX dX8_pass_0 rfl 1 rfl ?_
  refine z_iconst hX dX8_pass_1 qi_0 2 rfl ?_
  refine z_putI hX pX8_71 dX8_pass_2 (zsW0 hw) (by decide) rfl 5 rfl ?_
  refine z_mem h (fun M1_ h2_ => ?_)
  refine z_iload_n hX dX8_pass_5 rfl 6 rfl ?_
  refine z_bipush hX dX8_pass_6 qb_16 8 rfl ?_
  refine z_iand hX dX8_pass_8 9 rfl ?_
  refine z_if_ne hX dX8_pass_9 16 12 (by decide) rfl (fun hc => ?_) (fun hc => ?_)
  · rw [if_neg hc] at h2_
    refine z_mask [true, true, false] ?_
    have hz := aX8_pass_J16 hX hw h2_
    exact hz
  · rw [if_pos hc] at h2_
    refine z_aload_n hX dX8_pass_12 rfl 13 rfl ?_
    obtain ⟨M19_, hq, h20_⟩ := zcV_of h2_
    refine z_callV hX vX8_payLooks lX8_129 dX8_pass_13 (zsW0 hw) rfl (mX8_payLooks hw hq) (by decide) rfl rfl (Nat.le_of_ble_eq_true rfl) 16 rfl (Qv.to (fun M' hv => ?_))
    subst hv
    refine z_mask [true, true, false] ?_
    have hz := aX8_pass_J16 hX hw h20_
    exact hz
def gX9_go_L29 (x1 : Int32) (rc29 : (Int32 × zM) → Option (Int32 × zM)) (s : (Int32 × zM)) : Option (Int32 × zM) :=
  (if x1 ≤ s.1 then (if x1 ≤ 0 then some ((s.2.1 55 10), s.2)
  else zlet (zI s.2 85 0 0) (fun M1_ => some ((M1_.1 55 10), M1_)))
  else zcV (gX8_pass 55 1 s.2) (fun M3_ => rc29 ((s.1 + 1), M3_)))
set_option maxRecDepth 100000 in
set_option maxHeartbeats 2000000 in
theorem aX9_go_L29 {G : zG} {X : zX} {x1 : Int32} (hX : zC G X cX9_go 3 RX9 (some .int) 6)    {res : (Int32 × zM)}  : ∀ (N : Nat) (s : (Int32 × zM)), zfix N (gX9_go_L29 x1) s = some res → Z G X (zQi res) 29 [some (.ref 0), some (.int x1), some (.int s.1)] [] s.2 := by
  intro N
  induction N with
  | zero => intro s h; cases h
  | succ N hrc29 =>
    intro s h
    replace h : gX9_go_L29 x1 (zfix N (gX9_go_L29 x1)) s = some res := h
    unfold gX9_go_L29 at h
    refine z_iload_n hX dX9_go_29 rfl 30 rfl ?_
    refine z_iload_n hX dX9_go_30 rfl 31 rfl ?_
    refine z_icmp_ge hX dX9_go_31 48 34 (by decide) rfl (fun hc => ?_) (fun hc => ?_)
    · rw [if_pos hc] at h
      refine z_iload_n hX dX9_go_48 rfl 49 rfl ?_
      refine z_if_le hX dX9_go_49 60 52 (by decide) rfl (fun hc => ?_) (fun hc => ?_)
      · rw [if_pos hc] at h
        refine z_aload_n hX dX9_go_60 rfl 61 rfl ?_
        refine z_getF hX fX9_41 dX9_go_61 zs_0 (by decide) rfl 64 rfl ?_
        refine z_getI hX fX9_215 dX9_go_64 zs_55 (by decide) rfl 67 rfl ?_
        exact z_ireturn hX dX9_go_67 (zend_i h)
      · rw [if_neg hc] at h
        refine z_aload_n hX dX9_go_52 rfl 53 rfl ?_
        refine z_getF hX fX9_54 dX9_go_53 zs_0 (by decide) rfl 56 rfl ?_
        refine z_iconst hX dX9_go_56 qi_0 57 rfl ?_
        refine z_putI hX pX9_107 dX9_go_57 zs_85 (by decide) rfl 60 rfl ?_
        refine z_mem h (fun M1_ h2_ => ?_)
        refine z_aload_n hX dX9_go_60 rfl 61 rfl ?_
        refine z_getF hX fX9_41 dX9_go_61 zs_0 (by decide) rfl 64 rfl ?_
        refine z_getI hX fX9_215 dX9_go_64 zs_55 (by decide) rfl 67 rfl ?_
        exact z_ireturn hX dX9_go_67 (zend_i h2_)
    · rw [if_neg hc] at h
      refine z_aload_n hX dX9_go_34 rfl 35 rfl ?_
      refine z_getF hX fX9_41 dX9_go_35 zs_0 (by decide) rfl 38 rfl ?_
      refine z_iconst hX dX9_go_38 qi_1 39 rfl ?_
      obtain ⟨M3_, hq, h4_⟩ := zcV_of h
      refine z_callV hX vX8_pass lX9_271 dX9_go_39 zs_55 rfl (mX8_pass isW_55 hq) (by decide) rfl rfl (Nat.le_of_ble_eq_true rfl) 42 rfl (Qv.to (fun M' hv => ?_))
      subst hv
      refine z_iinc (v := (s.1 + 1)) hX dX9_go_42 rfl (by rfl) (by decide) 45 rfl ?_
      refine z_goto hX dX9_go_45 29 (by decide) ?_
      refine z_mask [true, true, true] ?_
      have hz := hrc29 _ h4_
      exact hz
def gX9_go (x1 : Int32) (M : zM) : Option (Int32 × zM) :=
  (if x1 < 0 then some ((-1), M)
  else (if 99 < x1 then some ((-1), M)
  else (if ((M.1 55 10) + x1) ≤ 9900 then zfix zFu (gX9_go_L29 x1) (0, M)
  else some ((-1), M))))
set_option maxRecDepth 100000 in
set_option maxHeartbeats 2000000 in
theorem mX9_go {G : zG} {x1 : Int32} {M : zM}  {res : (Int32 × zM)} (h : gX9_go x1 M = some res) : Ct G 6 tX9_go [.ref 0, .int x1] M (zQi res) := by
  unfold gX9_go at h
  refine Ct.of (y := yX9_go) rfl plX9 (Nat.le_of_ble_eq_true rfl) (fun X hX => ?_)
  replace hX : zC G X cX9_go 3 RX9 (some .int) 6 := hX
  show Z G X _ 0 [some (.ref 0), some (.int x1), none] [] M
  refine z_iload_n hX dX9_go_0 rfl 1 rfl ?_
  refine z_if_lt hX dX9_go_1 25 4 (by decide) rfl (fun hc => ?_) (fun hc => ?_)
  · rw [if_pos hc] at h
    refine z_iconst hX dX9_go_25 qi_m1 26 rfl ?_
    exact z_ireturn hX dX9_go_26 (zend_i h)
  · rw [if_neg hc] at h
    refine z_iload_n hX dX9_go_4 rfl 5 rfl ?_
    refine z_bipush hX dX9_go_5 qb_99 7 rfl ?_
    refine z_icmp_gt hX dX9_go_7 25 10 (by decide) rfl (fun hc => ?_) (fun hc => ?_)
    · rw [if_pos hc] at h
      refine z_iconst hX dX9_go_25 qi_m1 26 rfl ?_
      exact z_ireturn hX dX9_go_26 (zend_i h)
    · rw [if_neg hc] at h
      refine z_aload_n hX dX9_go_10 rfl 11 rfl ?_
      refine z_getF hX fX9_41 dX9_go_11 zs_0 (by decide) rfl 14 rfl ?_
      refine z_getI hX fX9_215 dX9_go_14 zs_55 (by decide) rfl 17 rfl ?_
      refine z_iload_n hX dX9_go_17 rfl 18 rfl ?_
      refine z_iadd hX dX9_go_18 19 rfl ?_
      refine z_sipush hX dX9_go_19 qs_9900 22 rfl ?_
      refine z_icmp_le hX dX9_go_22 27 25 (by decide) rfl (fun hc => ?_) (fun hc => ?_)
      · rw [if_pos hc] at h
        refine z_iconst hX dX9_go_27 qi_0 28 rfl ?_
        refine z_istore_n hX dX9_go_28 (by decide) 29 rfl ?_
        refine z_mask [true, true, true] ?_
        have hz := aX9_go_L29 hX _ _ h
        exact hz
      · rw [if_neg hc] at h
        refine z_iconst hX dX9_go_25 qi_m1 26 rfl ?_
        exact z_ireturn hX dX9_go_26 (zend_i h)
def gX8_become_L100 (w : Nat) (v1 : Nat) (rc100 : (Int32 × zM) → Option zM) (s : (Int32 × zM)) : Option zM :=
  (if 6 ≤ s.1 then zlet (zcp s.2 (v1 + 8) (w + 8) (0 : Int32).toNatClampNeg (0 : Int32).toNatClampNeg (8 : Int32).toNatClampNeg) (fun M17_ => zlet (zcp M17_ (v1 + 9) (w + 9) (0 : Int32).toNatClampNeg (0 : Int32).toNatClampNeg (8 : Int32).toNatClampNeg) (fun M19_ => zlet (zI M19_ w 10 (M19_.1 v1 10)) (fun M21_ => zlet (zI M21_ w 11 (M21_.1 v1 11)) (fun M23_ => zlet (zI M23_ w 12 (M23_.1 v1 12)) (fun M25_ => zlet (zI M25_ w 13 (M25_.1 v1 13)) (fun M27_ => zlet (zI M27_ w 14 (M27_.1 v1 14)) (fun M29_ => zlet (zI M29_ w 15 (M29_.1 v1 15)) (fun M31_ => some M31_))))))))
  else zg (zok s.1 6) (zg (zok s.1 6) (zlet (zI s.2 (w + 7) (s.1 : Int32).toNatClampNeg (vp_nar .boolean (s.2.1 (v1 + 7) (s.1 : Int32).toNatClampNeg))) (fun M35_ => rc100 ((s.1 + 1), M35_)))))
set_option maxRecDepth 100000 in
set_option maxHeartbeats 2000000 in
theorem aX8_become_L100 {G : zG} {X : zX} {w : Nat} {v1 : Nat} (hX : zC G X cX8_become 3 RX8 none 1) (hw : isW w) (hv1 : isW v1)   {res : zM}  : ∀ (N : Nat) (s : (Int32 × zM)), zfix N (gX8_become_L100 w v1) s = some res → Z G X (zQv res) 100 [some (.ref w), some (.ref v1), some (.int s.1)] [] s.2 := by
  intro N
  induction N with
  | zero => intro s h; cases h
  | succ N hrc100 =>
    intro s h
    replace h : gX8_become_L100 w v1 (zfix N (gX8_become_L100 w v1)) s = some res := h
    unfold gX8_become_L100 at h
    refine z_iload_n hX dX8_become_100 rfl 101 rfl ?_
    refine z_bipush hX dX8_become_101 qb_6 103 rfl ?_
    refine z_icmp_ge hX dX8_become_103 124 106 (by decide) rfl (fun hc => ?_) (fun hc => ?_)
    · rw [if_pos hc] at h
      refine z_aload_n hX dX8_become_124 rfl 125 rfl ?_
      refine z_getF hX fX8_34 dX8_become_125 (zsW0 hv1) (by decide) rfl 128 rfl ?_
      refine z_iconst hX dX8_become_128 qi_0 129 rfl ?_
      refine z_aload_n hX dX8_become_129 rfl 130 rfl ?_
      refine z_getF hX fX8_34 dX8_become_130 (zsW0 hw) (by decide) rfl 133 rfl ?_
      refine z_iconst hX dX8_become_133 qi_0 134 rfl ?_
      refine z_bipush hX dX8_become_134 qb_8 136 rfl ?_
      refine z_copy hX dX8_become_136 lX8_74 (by decide) (zsW8 hv1) (zsW8 hw) (by decide) (by decide) (by decide) (Nat.le_of_ble_eq_true rfl) 139 rfl ?_
      refine z_mem h (fun M17_ h18_ => ?_)
      refine z_aload_n hX dX8_become_139 rfl 140 rfl ?_
      refine z_getF hX fX8_37 dX8_become_140 (zsW0 hv1) (by decide) rfl 143 rfl ?_
      refine z_iconst hX dX8_become_143 qi_0 144 rfl ?_
      refine z_aload_n hX dX8_become_144 rfl 145 rfl ?_
      refine z_getF hX fX8_37 dX8_become_145 (zsW0 hw) (by decide) rfl 148 rfl ?_
      refine z_iconst hX dX8_become_148 qi_0 149 rfl ?_
      refine z_bipush hX dX8_become_149 qb_8 151 rfl ?_
      refine z_copy hX dX8_become_151 lX8_74 (by decide) (zsW9 hv1) (zsW9 hw) (by decide) (by decide) (by decide) (Nat.le_of_ble_eq_true rfl) 154 rfl ?_
      refine z_mem h18_ (fun M19_ h20_ => ?_)
      refine z_aload_n hX dX8_become_154 rfl 155 rfl ?_
      refine z_aload_n hX dX8_become_155 rfl 156 rfl ?_
      refine z_getI hX fX8_52 dX8_become_156 (zsW0 hv1) (by decide) rfl 159 rfl ?_
      refine z_putI hX pX8_52 dX8_become_159 (zsW0 hw) (by decide) rfl 162 rfl ?_
      refine z_mem h20_ (fun M21_ h22_ => ?_)
      refine z_aload_n hX dX8_become_162 rfl 163 rfl ?_
      refine z_aload_n hX dX8_become_163 rfl 164 rfl ?_
      refine z_getI hX fX8_56 dX8_become_164 (zsW0 hv1) (by decide) rfl 167 rfl ?_
      refine z_putI hX pX8_56 dX8_become_167 (zsW0 hw) (by decide) rfl 170 rfl ?_
      refine z_mem h22_ (fun M23_ h24_ => ?_)
      refine z_aload_n hX dX8_become_170 rfl 171 rfl ?_
      refine z_aload_n hX dX8_become_171 rfl 172 rfl ?_
      refine z_getI hX fX8_62 dX8_become_172 (zsW0 hv1) (by decide) rfl 175 rfl ?_
      refine z_putI hX pX8_62 dX8_become_175 (zsW0 hw) (by decide) rfl 178 rfl ?_
      refine z_mem h24_ (fun M25_ h26_ => ?_)
      refine z_aload_n hX dX8_become_178 rfl 179 rfl ?_
      refine z_aload_n hX dX8_become_179 rfl 180 rfl ?_
      refine z_getI hX fX8_65 dX8_become_180 (zsW0 hv1) (by decide) rfl 183 rfl ?_
      refine z_putI hX pX8_65 dX8_become_183 (zsW0 hw) (by decide) rfl 186 rfl ?_
      refine z_mem h26_ (fun M27_ h28_ => ?_)
      refine z_aload_n hX dX8_become_186 rfl 187 rfl ?_
      refine z_aload_n hX dX8_become_187 rfl 188 rfl ?_
      refine z_getI hX fX8_68 dX8_become_188 (zsW0 hv1) (by decide) rfl 191 rfl ?_
      refine z_putI hX pX8_68 dX8_become_191 (zsW0 hw) (by decide) rfl 194 rfl ?_
      refine z_mem h28_ (fun M29_ h30_ => ?_)
      refine z_aload_n hX dX8_become_194 rfl 195 rfl ?_
      refine z_aload_n hX dX8_become_195 rfl 196 rfl ?_
      refine z_getI hX fX8_71 dX8_become_196 (zsW0 hv1) (by decide) rfl 199 rfl ?_
      refine z_putI hX pX8_71 dX8_become_199 (zsW0 hw) (by decide) rfl 202 rfl ?_
      refine z_mem h30_ (fun M31_ h32_ => ?_)
      exact z_return hX dX8_become_202 (zend_v h32_)
    · rw [if_neg hc] at h
      refine z_aload_n hX dX8_become_106 rfl 107 rfl ?_
      refine z_getF hX fX8_30 dX8_become_107 (zsW0 hw) (by decide) rfl 110 rfl ?_
      refine z_iload_n hX dX8_become_110 rfl 111 rfl ?_
      refine z_aload_n hX dX8_become_111 rfl 112 rfl ?_
      refine z_getF hX fX8_30 dX8_become_112 (zsW0 hv1) (by decide) rfl 115 rfl ?_
      refine z_iload_n hX dX8_become_115 rfl 116 rfl ?_
      obtain ⟨hb, h33_⟩ := zgd h
      refine z_zald hX dX8_become_116 (zsW7 hv1) (zok_in hb) 117 rfl ?_
      obtain ⟨hb, h34_⟩ := zgd h33_
      refine z_zast hX dX8_become_117 (zsW7 hw) (zok_in hb) 118 rfl ?_
      refine z_mem h34_ (fun M35_ h36_ => ?_)
      refine z_iinc (v := (s.1 + 1)) hX dX8_become_118 rfl (by rfl) (by decide) 121 rfl ?_
      refine z_goto hX dX8_become_121 100 (by decide) ?_
      refine z_mask [true, true, true] ?_
      have hz := hrc100 _ h36_
      exact hz
def gX8_become (w : Nat) (v1 : Nat) (M : zM) : Option zM :=
  zgP (M.2.2 v1 0) (fun p1_ => zlet (zF M w 0 p1_) (fun M3_ => zlet (zcp M3_ (v1 + 1) (w + 1) (0 : Int32).toNatClampNeg (0 : Int32).toNatClampNeg (6 : Int32).toNatClampNeg) (fun M5_ => zlet (zcp M5_ (v1 + 2) (w + 2) (0 : Int32).toNatClampNeg (0 : Int32).toNatClampNeg (6 : Int32).toNatClampNeg) (fun M7_ => zlet (zcp M7_ (v1 + 3) (w + 3) (0 : Int32).toNatClampNeg (0 : Int32).toNatClampNeg (6 : Int32).toNatClampNeg) (fun M9_ => zlet (zcp M9_ (v1 + 4) (w + 4) (0 : Int32).toNatClampNeg (0 : Int32).toNatClampNeg (6 : Int32).toNatClampNeg) (fun M11_ => zlet (zcp M11_ (v1 + 5) (w + 5) (0 : Int32).toNatClampNeg (0 : Int32).toNatClampNeg (6 : Int32).toNatClampNeg) (fun M13_ => zlet (zcp M13_ (v1 + 6) (w + 6) (0 : Int32).toNatClampNeg (0 : Int32).toNatClampNeg (6 : Int32).toNatClampNeg) (fun M15_ => zfix zFu (gX8_become_L100 w v1) (0, M15_)))))))))
set_option maxRecDepth 100000 in
set_option maxHeartbeats 2000000 in
theorem mX8_become {G : zG} {w : Nat} {v1 : Nat} {M : zM} (hw : isW w) (hv1 : isW v1) {res : zM} (h : gX8_become w v1 M = some res) : Ct G 1 tX8_become [.ref w, .ref v1] M (zQv res) := by
  unfold gX8_become at h
  refine Ct.of (y := yX8_become) rfl plX8 (Nat.le_of_ble_eq_true rfl) (fun X hX => ?_)
  replace hX : zC G X cX8_become 3 RX8 none 1 := hX
  show Z G X _ 0 [some (.ref w), some (.ref v1), none] [] M
  refine z_aload_n hX dX8_become_0 rfl 1 rfl ?_
  refine z_aload_n hX dX8_become_1 rfl 2 rfl ?_
  obtain ⟨p1_, hm, hp1_, h2_⟩ := zgP_of h
  refine z_getR hX fX8_40 dX8_become_2 (zsW0 hv1) (by decide) rfl hm 5 rfl ?_
  refine z_putR hX pX8_40 (fun _ => ⟨rfl, rfl⟩) dX8_become_5 (zsW0 hw) (by decide) rfl 8 rfl ?_
  refine z_mem h2_ (fun M3_ h4_ => ?_)
  refine z_aload_n hX dX8_become_8 rfl 9 rfl ?_
  refine z_getF hX fX8_9 dX8_become_9 (zsW0 hv1) (by decide) rfl 12 rfl ?_
  refine z_iconst hX dX8_become_12 qi_0 13 rfl ?_
  refine z_aload_n hX dX8_become_13 rfl 14 rfl ?_
  refine z_getF hX fX8_9 dX8_become_14 (zsW0 hw) (by decide) rfl 17 rfl ?_
  refine z_iconst hX dX8_become_17 qi_0 18 rfl ?_
  refine z_bipush hX dX8_become_18 qb_6 20 rfl ?_
  refine z_copy hX dX8_become_20 lX8_74 (by decide) (zsW1 hv1) (zsW1 hw) (by decide) (by decide) (by decide) (Nat.le_of_ble_eq_true rfl) 23 rfl ?_
  refine z_mem h4_ (fun M5_ h6_ => ?_)
  refine z_aload_n hX dX8_become_23 rfl 24 rfl ?_
  refine z_getF hX fX8_15 dX8_become_24 (zsW0 hv1) (by decide) rfl 27 rfl ?_
  refine z_iconst hX dX8_become_27 qi_0 28 rfl ?_
  refine z_aload_n hX dX8_become_28 rfl 29 rfl ?_
  refine z_getF hX fX8_15 dX8_become_29 (zsW0 hw) (by decide) rfl 32 rfl ?_
  refine z_iconst hX dX8_become_32 qi_0 33 rfl ?_
  refine z_bipush hX dX8_become_33 qb_6 35 rfl ?_
  refine z_copy hX dX8_become_35 lX8_74 (by decide) (zsW2 hv1) (zsW2 hw) (by decide) (by decide) (by decide) (Nat.le_of_ble_eq_true rfl) 38 rfl ?_
  refine z_mem h6_ (fun M7_ h8_ => ?_)
  refine z_aload_n hX dX8_become_38 rfl 39 rfl ?_
  refine z_getF hX fX8_18 dX8_become_39 (zsW0 hv1) (by decide) rfl 42 rfl ?_
  refine z_iconst hX dX8_become_42 qi_0 43 rfl ?_
  refine z_aload_n hX dX8_become_43 rfl 44 rfl ?_
  refine z_getF hX fX8_18 dX8_become_44 (zsW0 hw) (by decide) rfl 47 rfl ?_
  refine z_iconst hX dX8_become_47 qi_0 48 rfl ?_
  refine z_bipush hX dX8_become_48 qb_6 50 rfl ?_
  refine z_copy hX dX8_become_50 lX8_74 (by decide) (zsW3 hv1) (zsW3 hw) (by decide) (by decide) (by decide) (Nat.le_of_ble_eq_true rfl) 53 rfl ?_
  refine z_mem h8_ (fun M9_ h10_ => ?_)
  refine z_aload_n hX dX8_become_53 rfl 54 rfl ?_
  refine z_getF hX fX8_21 dX8_become_54 (zsW0 hv1) (by decide) rfl 57 rfl ?_
  refine z_iconst hX dX8_become_57 qi_0 58 rfl ?_
  refine z_aload_n hX dX8_become_58 rfl 59 rfl ?_
  refine z_getF hX fX8_21 dX8_become_59 (zsW0 hw) (by decide) rfl 62 rfl ?_
  refine z_iconst hX dX8_become_62 qi_0 63 rfl ?_
  refine z_bipush hX dX8_become_63 qb_6 65 rfl ?_
  refine z_copy hX dX8_become_65 lX8_74 (by decide) (zsW4 hv1) (zsW4 hw) (by decide) (by decide) (by decide) (Nat.le_of_ble_eq_true rfl) 68 rfl ?_
  refine z_mem h10_ (fun M11_ h12_ => ?_)
  refine z_aload_n hX dX8_become_68 rfl 69 rfl ?_
  refine z_getF hX fX8_24 dX8_become_69 (zsW0 hv1) (by decide) rfl 72 rfl ?_
  refine z_iconst hX dX8_become_72 qi_0 73 rfl ?_
  refine z_aload_n hX dX8_become_73 rfl 74 rfl ?_
  refine z_getF hX fX8_24 dX8_become_74 (zsW0 hw) (by decide) rfl 77 rfl ?_
  refine z_iconst hX dX8_become_77 qi_0 78 rfl ?_
  refine z_bipush hX dX8_become_78 qb_6 80 rfl ?_
  refine z_copy hX dX8_become_80 lX8_74 (by decide) (zsW5 hv1) (zsW5 hw) (by decide) (by decide) (by decide) (Nat.le_of_ble_eq_true rfl) 83 rfl ?_
  refine z_mem h12_ (fun M13_ h14_ => ?_)
  refine z_aload_n hX dX8_become_83 rfl 84 rfl ?_
  refine z_getF hX fX8_27 dX8_become_84 (zsW0 hv1) (by decide) rfl 87 rfl ?_
  refine z_iconst hX dX8_become_87 qi_0 88 rfl ?_
  refine z_aload_n hX dX8_become_88 rfl 89 rfl ?_
  refine z_getF hX fX8_27 dX8_become_89 (zsW0 hw) (by decide) rfl 92 rfl ?_
  refine z_iconst hX dX8_become_92 qi_0 93 rfl ?_
  refine z_bipush hX dX8_become_93 qb_6 95 rfl ?_
  refine z_copy hX dX8_become_95 lX8_74 (by decide) (zsW6 hv1) (zsW6 hw) (by decide) (by decide) (by decide) (Nat.le_of_ble_eq_true rfl) 98 rfl ?_
  refine z_mem h14_ (fun M15_ h16_ => ?_)
  refine z_iconst hX dX8_become_98 qi_0 99 rfl ?_
  refine z_istore_n hX dX8_become_99 (by decide) 100 rfl ?_
  refine z_mask [true, true, true] ?_
  have hz := aX8_become_L100 hX hw hv1 _ _ h16_
  exact hz
def gX9_keep (M : zM) : Option (Int32 × zM) :=
  zcV (gX8_become 75 55 M) (fun M1_ => zlet (zI M1_ 0 10 1) (fun M3_ => some ((M3_.1 55 10), M3_)))
set_option maxRecDepth 100000 in
set_option maxHeartbeats 2000000 in
theorem mX9_keep {G : zG}  {M : zM}  {res : (Int32 × zM)} (h : gX9_keep M = some res) : Ct G 2 tX9_keep [.ref 0] M (zQi res) := by
  unfold gX9_keep at h
  refine Ct.of (y := yX9_keep) rfl plX9 (Nat.le_of_ble_eq_true rfl) (fun X hX => ?_)
  replace hX : zC G X cX9_keep 1 RX9 (some .int) 2 := hX
  show Z G X _ 0 [some (.ref 0)] [] M
  refine z_aload_n hX dX9_keep_0 rfl 1 rfl ?_
  refine z_getF hX fX9_48 dX9_keep_1 zs_0 (by decide) rfl 4 rfl ?_
  refine z_aload_n hX dX9_keep_4 rfl 5 rfl ?_
  refine z_getF hX fX9_41 dX9_keep_5 zs_0 (by decide) rfl 8 rfl ?_
  obtain ⟨M1_, hq, h2_⟩ := zcV_of h
  refine z_callV hX vX8_become lX9_275 dX9_keep_8 zs_75 rfl (mX8_become isW_75 isW_55 hq) (by decide) rfl rfl (Nat.le_of_ble_eq_true rfl) 11 rfl (Qv.to (fun M' hv => ?_))
  subst hv
  refine z_aload_n hX dX9_keep_11 rfl 12 rfl ?_
  refine z_iconst hX dX9_keep_12 qi_1 13 rfl ?_
  refine z_putZ hX pX9_103 dX9_keep_13 zs_0 (by decide) rfl (by decide) 16 rfl ?_
  refine z_mem h2_ (fun M3_ h4_ => ?_)
  refine z_aload_n hX dX9_keep_16 rfl 17 rfl ?_
  refine z_getF hX fX9_41 dX9_keep_17 zs_0 (by decide) rfl 20 rfl ?_
  refine z_getI hX fX9_215 dX9_keep_20 zs_55 (by decide) rfl 23 rfl ?_
  exact z_ireturn hX dX9_keep_23 (zend_i h4_)
def gX9_back (M : zM) : Option (Int32 × zM) :=
  (if (M.1 0 10) = 0 then some ((-1), M)
  else zcV (gX8_become 55 75 M) (fun M1_ => zlet (zI M1_ 85 0 0) (fun M3_ => some ((M3_.1 55 10), M3_))))
set_option maxRecDepth 100000 in
set_option maxHeartbeats 2000000 in
theorem mX9_back {G : zG}  {M : zM}  {res : (Int32 × zM)} (h : gX9_back M = some res) : Ct G 2 tX9_back [.ref 0] M (zQi res) := by
  unfold gX9_back at h
  refine Ct.of (y := yX9_back) rfl plX9 (Nat.le_of_ble_eq_true rfl) (fun X hX => ?_)
  replace hX : zC G X cX9_back 1 RX9 (some .int) 2 := hX
  show Z G X _ 0 [some (.ref 0)] [] M
  refine z_aload_n hX dX9_back_0 rfl 1 rfl ?_
  refine z_getI hX fX9_103 dX9_back_1 zs_0 (by decide) rfl 4 rfl ?_
  refine z_if_ne hX dX9_back_4 9 7 (by decide) rfl (fun hc => ?_) (fun hc => ?_)
  · rw [if_neg hc] at h
    refine z_aload_n hX dX9_back_9 rfl 10 rfl ?_
    refine z_getF hX fX9_41 dX9_back_10 zs_0 (by decide) rfl 13 rfl ?_
    refine z_aload_n hX dX9_back_13 rfl 14 rfl ?_
    refine z_getF hX fX9_48 dX9_back_14 zs_0 (by decide) rfl 17 rfl ?_
    obtain ⟨M1_, hq, h2_⟩ := zcV_of h
    refine z_callV hX vX8_become lX9_275 dX9_back_17 zs_55 rfl (mX8_become isW_55 isW_75 hq) (by decide) rfl rfl (Nat.le_of_ble_eq_true rfl) 20 rfl (Qv.to (fun M' hv => ?_))
    subst hv
    refine z_aload_n hX dX9_back_20 rfl 21 rfl ?_
    refine z_getF hX fX9_54 dX9_back_21 zs_0 (by decide) rfl 24 rfl ?_
    refine z_iconst hX dX9_back_24 qi_0 25 rfl ?_
    refine z_putI hX pX9_107 dX9_back_25 zs_85 (by decide) rfl 28 rfl ?_
    refine z_mem h2_ (fun M3_ h4_ => ?_)
    refine z_aload_n hX dX9_back_28 rfl 29 rfl ?_
    refine z_getF hX fX9_41 dX9_back_29 zs_0 (by decide) rfl 32 rfl ?_
    refine z_getI hX fX9_215 dX9_back_32 zs_55 (by decide) rfl 35 rfl ?_
    exact z_ireturn hX dX9_back_35 (zend_i h4_)
  · rw [if_pos hc] at h
    refine z_iconst hX dX9_back_7 qi_m1 8 rfl ?_
    exact z_ireturn hX dX9_back_8 (zend_i h)
def gX9_isCount (x0 : Int32) (M : zM) : Option Int32 :=
  (if x0 < 0 then some 0
  else (if 99 < x0 then some 0
  else some 1))
set_option maxRecDepth 100000 in
set_option maxHeartbeats 2000000 in
theorem mX9_isCount {G : zG} {x0 : Int32} {M : zM}  {res : Int32} (h : gX9_isCount x0 M = some res) : Ct G 1 tX9_isCount [.int x0] M (zQip M res) := by
  unfold gX9_isCount at h
  refine Ct.of (y := yX9_isCount) rfl plX9 (Nat.le_of_ble_eq_true rfl) (fun X hX => ?_)
  replace hX : zC G X cX9_isCount 1 RX9 (some .boolean) 1 := hX
  show Z G X _ 0 [some (.int x0)] [] M
  refine z_iload_n hX dX9_isCount_0 rfl 1 rfl ?_
  refine z_if_lt hX dX9_isCount_1 14 4 (by decide) rfl (fun hc => ?_) (fun hc => ?_)
  · rw [if_pos hc] at h
    refine z_iconst hX dX9_isCount_14 qi_0 15 rfl ?_
    exact z_zreturn hX dX9_isCount_15 (by decide) (zend_ip h)
  · rw [if_neg hc] at h
    refine z_iload_n hX dX9_isCount_4 rfl 5 rfl ?_
    refine z_bipush hX dX9_isCount_5 qb_99 7 rfl ?_
    refine z_icmp_gt hX dX9_isCount_7 14 10 (by decide) rfl (fun hc => ?_) (fun hc => ?_)
    · rw [if_pos hc] at h
      refine z_iconst hX dX9_isCount_14 qi_0 15 rfl ?_
      exact z_zreturn hX dX9_isCount_15 (by decide) (zend_ip h)
    · rw [if_neg hc] at h
      refine z_iconst hX dX9_isCount_10 qi_1 11 rfl ?_
      refine z_goto hX dX9_isCount_11 15 (by decide) ?_
      exact z_zreturn hX dX9_isCount_15 (by decide) (zend_ip h)
def gX9_ahead_L31 (x1 : Int32) (x2 : Int32) (rc31 : (Int32 × zM) → Option (Int32 × zM)) (s : (Int32 × zM)) : Option (Int32 × zM) :=
  (if x1 ≤ s.1 then (if x2 = 0 then zcI (gX8_thingsThatAre 65 2 s.2) (fun v5_ => zcI (gX8_thingsThatAre 55 2 s.2) (fun v7_ => some ((v5_ - v7_), s.2)))
  else if x2 = 1 then zcI (gX8_thingsThatAre 65 3 s.2) (fun v9_ => zcI (gX8_thingsThatAre 55 3 s.2) (fun v11_ => some ((v9_ - v11_), s.2)))
  else if x2 = 2 then zcI (gX8_menThatAre 65 2 s.2) (fun v13_ => zcI (gX8_menThatAre 55 2 s.2) (fun v15_ => some ((v13_ - v15_), s.2)))
  else if x2 = 3 then some ((s.2.1 65 11), s.2)
  else some ((s.2.1 65 12), s.2))
  else zcV (gX8_pass 65 0 s.2) (fun M17_ => rc31 ((s.1 + 1), M17_)))
set_option maxRecDepth 100000 in
set_option maxHeartbeats 2000000 in
theorem aX9_ahead_L31 {G : zG} {X : zX} {x1 : Int32} {x2 : Int32} (hX : zC G X cX9_ahead 4 RX9 (some .int) 6)    {res : (Int32 × zM)}  : ∀ (N : Nat) (s : (Int32 × zM)), zfix N (gX9_ahead_L31 x1 x2) s = some res → Z G X (zQi res) 31 [some (.ref 0), some (.int x1), some (.int x2), some (.int s.1)] [] s.2 := by
  intro N
  induction N with
  | zero => intro s h; cases h
  | succ N hrc31 =>
    intro s h
    replace h : gX9_ahead_L31 x1 x2 (zfix N (gX9_ahead_L31 x1 x2)) s = some res := h
    unfold gX9_ahead_L31 at h
    refine z_iload_n hX dX9_ahead_31 rfl 32 rfl ?_
    refine z_iload_n hX dX9_ahead_32 rfl 33 rfl ?_
    refine z_icmp_ge hX dX9_ahead_33 50 36 (by decide) rfl (fun hc => ?_) (fun hc => ?_)
    · rw [if_pos hc] at h
      refine z_iload_n hX dX9_ahead_50 rfl 51 rfl ?_
      by_cases hc0 : x2 = 0
      · rw [if_pos hc0] at h
        refine z_tabIn hX dX9_ahead_51 (by rw [hc0]; decide) (by rw [hc0]; decide) (by rw [hc0]; rfl) 80 (by decide) ?_
        refine z_aload_n hX dX9_ahead_80 rfl 81 rfl ?_
        refine z_getF hX fX9_45 dX9_ahead_81 zs_0 (by decide) rfl 84 rfl ?_
        refine z_iconst hX dX9_ahead_84 qi_2 85 rfl ?_
        obtain ⟨v5_, hq, h6_⟩ := zcI_of h
        refine z_callV hX vX8_thingsThatAre lX9_218 dX9_ahead_85 zs_65 rfl (mX8_thingsThatAre isW_65 hq) (by decide) rfl rfl (Nat.le_of_ble_eq_true rfl) 88 rfl (Qi.to (fun v' M' hv => ?_))
        obtain ⟨rfl, rfl⟩ := hv
        refine z_aload_n hX dX9_ahead_88 rfl 89 rfl ?_
        refine z_getF hX fX9_41 dX9_ahead_89 zs_0 (by decide) rfl 92 rfl ?_
        refine z_iconst hX dX9_ahead_92 qi_2 93 rfl ?_
        obtain ⟨v7_, hq, h8_⟩ := zcI_of h6_
        refine z_callV hX vX8_thingsThatAre lX9_218 dX9_ahead_93 zs_55 rfl (mX8_thingsThatAre isW_55 hq) (by decide) rfl rfl (Nat.le_of_ble_eq_true rfl) 96 rfl (Qi.to (fun v' M' hv => ?_))
        obtain ⟨rfl, rfl⟩ := hv
        refine z_isub hX dX9_ahead_96 97 rfl ?_
        exact z_ireturn hX dX9_ahead_97 (zend_i h8_)
      rw [if_neg hc0] at h
      by_cases hc1 : x2 = 1
      · rw [if_pos hc1] at h
        refine z_tabIn hX dX9_ahead_51 (by rw [hc1]; decide) (by rw [hc1]; decide) (by rw [hc1]; rfl) 98 (by decide) ?_
        refine z_aload_n hX dX9_ahead_98 rfl 99 rfl ?_
        refine z_getF hX fX9_45 dX9_ahead_99 zs_0 (by decide) rfl 102 rfl ?_
        refine z_iconst hX dX9_ahead_102 qi_3 103 rfl ?_
        obtain ⟨v9_, hq, h10_⟩ := zcI_of h
        refine z_callV hX vX8_thingsThatAre lX9_218 dX9_ahead_103 zs_65 rfl (mX8_thingsThatAre isW_65 hq) (by decide) rfl rfl (Nat.le_of_ble_eq_true rfl) 106 rfl (Qi.to (fun v' M' hv => ?_))
        obtain ⟨rfl, rfl⟩ := hv
        refine z_aload_n hX dX9_ahead_106 rfl 107 rfl ?_
        refine z_getF hX fX9_41 dX9_ahead_107 zs_0 (by decide) rfl 110 rfl ?_
        refine z_iconst hX dX9_ahead_110 qi_3 111 rfl ?_
        obtain ⟨v11_, hq, h12_⟩ := zcI_of h10_
        refine z_callV hX vX8_thingsThatAre lX9_218 dX9_ahead_111 zs_55 rfl (mX8_thingsThatAre isW_55 hq) (by decide) rfl rfl (Nat.le_of_ble_eq_true rfl) 114 rfl (Qi.to (fun v' M' hv => ?_))
        obtain ⟨rfl, rfl⟩ := hv
        refine z_isub hX dX9_ahead_114 115 rfl ?_
        exact z_ireturn hX dX9_ahead_115 (zend_i h12_)
      rw [if_neg hc1] at h
      by_cases hc2 : x2 = 2
      · rw [if_pos hc2] at h
        refine z_tabIn hX dX9_ahead_51 (by rw [hc2]; decide) (by rw [hc2]; decide) (by rw [hc2]; rfl) 116 (by decide) ?_
        refine z_aload_n hX dX9_ahead_116 rfl 117 rfl ?_
        refine z_getF hX fX9_45 dX9_ahead_117 zs_0 (by decide) rfl 120 rfl ?_
        refine z_iconst hX dX9_ahead_120 qi_2 121 rfl ?_
        obtain ⟨v13_, hq, h14_⟩ := zcI_of h
        refine z_callV hX vX8_menThatAre lX9_221 dX9_ahead_121 zs_65 rfl (mX8_menThatAre isW_65 hq) (by decide) rfl rfl (Nat.le_of_ble_eq_true rfl) 124 rfl (Qi.to (fun v' M' hv => ?_))
        obtain ⟨rfl, rfl⟩ := hv
        refine z_aload_n hX dX9_ahead_124 rfl 125 rfl ?_
        refine z_getF hX fX9_41 dX9_ahead_125 zs_0 (by decide) rfl 128 rfl ?_
        refine z_iconst hX dX9_ahead_128 qi_2 129 rfl ?_
        obtain ⟨v15_, hq, h16_⟩ := zcI_of h14_
        refine z_callV hX vX8_menThatAre lX9_221 dX9_ahead_129 zs_55 rfl (mX8_menThatAre isW_55 hq) (by decide) rfl rfl (Nat.le_of_ble_eq_true rfl) 132 rfl (Qi.to (fun v' M' hv => ?_))
        obtain ⟨rfl, rfl⟩ := hv
        refine z_isub hX dX9_ahead_132 133 rfl ?_
        exact z_ireturn hX dX9_ahead_133 (zend_i h16_)
      rw [if_neg hc2] at h
      by_cases hc3 : x2 = 3
      · rw [if_pos hc3] at h
        refine z_tabIn hX dX9_ahead_51 (by rw [hc3]; decide) (by rw [hc3]; decide) (by rw [hc3]; rfl) 134 (by decide) ?_
        refine z_aload_n hX dX9_ahead_134 rfl 135 rfl ?_
        refine z_getF hX fX9_45 dX9_ahead_135 zs_0 (by decide) rfl 138 rfl ?_
        refine z_getI hX fX9_224 dX9_ahead_138 zs_65 (by decide) rfl 141 rfl ?_
        exact z_ireturn hX dX9_ahead_141 (zend_i h)
      rw [if_neg hc3] at h
      have hout : (x2 : Int32).toInt < 0 ∨ 3 < (x2 : Int32).toInt := zsw_out (fun k h1 h2 => by
        have hk : k = 0 ∨ k = 1 ∨ k = 2 ∨ k = 3 := by omega
        rcases hk with rfl | rfl | rfl | rfl
        · exact hc0
        · exact hc1
        · exact hc2
        · exact hc3)
      refine z_tabOut hX dX9_ahead_51 hout 142 (by decide) ?_
      refine z_aload_n hX dX9_ahead_142 rfl 143 rfl ?_
      refine z_getF hX fX9_45 dX9_ahead_143 zs_0 (by decide) rfl 146 rfl ?_
      refine z_getI hX fX9_227 dX9_ahead_146 zs_65 (by decide) rfl 149 rfl ?_
      exact z_ireturn hX dX9_ahead_149 (zend_i h)
    · rw [if_neg hc] at h
      refine z_aload_n hX dX9_ahead_36 rfl 37 rfl ?_
      refine z_getF hX fX9_45 dX9_ahead_37 zs_0 (by decide) rfl 40 rfl ?_
      refine z_iconst hX dX9_ahead_40 qi_0 41 rfl ?_
      obtain ⟨M17_, hq, h18_⟩ := zcV_of h
      refine z_callV hX vX8_pass lX9_271 dX9_ahead_41 zs_65 rfl (mX8_pass isW_65 hq) (by decide) rfl rfl (Nat.le_of_ble_eq_true rfl) 44 rfl (Qv.to (fun M' hv => ?_))
      subst hv
      refine z_iinc (v := (s.1 + 1)) hX dX9_ahead_44 rfl (by rfl) (by decide) 47 rfl ?_
      refine z_goto hX dX9_ahead_47 31 (by decide) ?_
      refine z_mask [true, true, true, true] ?_
      have hz := hrc31 _ h18_
      exact hz
def gX9_ahead (x1 : Int32) (x2 : Int32) (M : zM) : Option (Int32 × zM) :=
  zcI (gX9_isCount x1 M) (fun v1_ => (if v1_ = 0 then some ((-1), M)
  else (if x2 < 0 then some ((-1), M)
  else (if x2 ≤ 4 then zcV (gX8_become 65 55 M) (fun M3_ => zfix zFu (gX9_ahead_L31 x1 x2) (0, M3_))
  else some ((-1), M)))))
set_option maxRecDepth 100000 in
set_option maxHeartbeats 2000000 in
theorem mX9_ahead {G : zG} {x1 : Int32} {x2 : Int32} {M : zM}  {res : (Int32 × zM)} (h : gX9_ahead x1 x2 M = some res) : Ct G 6 tX9_ahead [.ref 0, .int x1, .int x2] M (zQi res) := by
  unfold gX9_ahead at h
  refine Ct.of (y := yX9_ahead) rfl plX9 (Nat.le_of_ble_eq_true rfl) (fun X hX => ?_)
  replace hX : zC G X cX9_ahead 4 RX9 (some .int) 6 := hX
  show Z G X _ 0 [some (.ref 0), some (.int x1), some (.int x2), none] [] M
  refine z_iload_n hX dX9_ahead_0 rfl 1 rfl ?_
  obtain ⟨v1_, hq, h2_⟩ := zcI_of h
  refine z_callS hX vX9_isCount rfl lX9_279 dX9_ahead_1 (mX9_isCount  hq) (by decide) rfl rfl (Nat.le_of_ble_eq_true rfl) 4 rfl (Qi.to (fun v' M' hv => ?_))
  obtain ⟨rfl, rfl⟩ := hv
  refine z_if_eq hX dX9_ahead_4 16 7 (by decide) rfl (fun hc => ?_) (fun hc => ?_)
  · rw [if_pos hc] at h2_
    refine z_iconst hX dX9_ahead_16 qi_m1 17 rfl ?_
    exact z_ireturn hX dX9_ahead_17 (zend_i h2_)
  · rw [if_neg hc] at h2_
    refine z_iload_n hX dX9_ahead_7 rfl 8 rfl ?_
    refine z_if_lt hX dX9_ahead_8 16 11 (by decide) rfl (fun hc => ?_) (fun hc => ?_)
    · rw [if_pos hc] at h2_
      refine z_iconst hX dX9_ahead_16 qi_m1 17 rfl ?_
      exact z_ireturn hX dX9_ahead_17 (zend_i h2_)
    · rw [if_neg hc] at h2_
      refine z_iload_n hX dX9_ahead_11 rfl 12 rfl ?_
      refine z_iconst hX dX9_ahead_12 qi_4 13 rfl ?_
      refine z_icmp_le hX dX9_ahead_13 18 16 (by decide) rfl (fun hc => ?_) (fun hc => ?_)
      · rw [if_pos hc] at h2_
        refine z_aload_n hX dX9_ahead_18 rfl 19 rfl ?_
        refine z_getF hX fX9_45 dX9_ahead_19 zs_0 (by decide) rfl 22 rfl ?_
        refine z_aload_n hX dX9_ahead_22 rfl 23 rfl ?_
        refine z_getF hX fX9_41 dX9_ahead_23 zs_0 (by decide) rfl 26 rfl ?_
        obtain ⟨M3_, hq, h4_⟩ := zcV_of h2_
        refine z_callV hX vX8_become lX9_275 dX9_ahead_26 zs_65 rfl (mX8_become isW_65 isW_55 hq) (by decide) rfl rfl (Nat.le_of_ble_eq_true rfl) 29 rfl (Qv.to (fun M' hv => ?_))
        subst hv
        refine z_iconst hX dX9_ahead_29 qi_0 30 rfl ?_
        refine z_istore_n hX dX9_ahead_30 (by decide) 31 rfl ?_
        refine z_mask [true, true, true, true] ?_
        have hz := aX9_ahead_L31 hX _ _ h4_
        exact hz
      · rw [if_neg hc] at h2_
        refine z_iconst hX dX9_ahead_16 qi_m1 17 rfl ?_
        exact z_ireturn hX dX9_ahead_17 (zend_i h2_)
def gX9_goes_L23 (x1 : Int32) (rc23 : (Int32 × zM) → Option (Int32 × zM)) (s : (Int32 × zM)) : Option (Int32 × zM) :=
  (if 99 < s.1 then some ((-2), s.2)
  else zcV (gX8_pass 65 0 s.2) (fun M5_ => (if ((((M5_.1 65 15) : Int32) >>> ((x1 : Int32) &&& 31)) &&& 1) = 0 then rc23 ((s.1 + 1), M5_)
  else some (s.1, M5_))))
set_option maxRecDepth 100000 in
set_option maxHeartbeats 2000000 in
theorem aX9_goes_L23 {G : zG} {X : zX} {x1 : Int32} (hX : zC G X cX9_goes 3 RX9 (some .int) 6)    {res : (Int32 × zM)}  : ∀ (N : Nat) (s : (Int32 × zM)), zfix N (gX9_goes_L23 x1) s = some res → Z G X (zQi res) 23 [some (.ref 0), some (.int x1), some (.int s.1)] [] s.2 := by
  intro N
  induction N with
  | zero => intro s h; cases h
  | succ N hrc23 =>
    intro s h
    replace h : gX9_goes_L23 x1 (zfix N (gX9_goes_L23 x1)) s = some res := h
    unfold gX9_goes_L23 at h
    refine z_iload_n hX dX9_goes_23 rfl 24 rfl ?_
    refine z_bipush hX dX9_goes_24 qb_99 26 rfl ?_
    refine z_icmp_gt hX dX9_goes_26 59 29 (by decide) rfl (fun hc => ?_) (fun hc => ?_)
    · rw [if_pos hc] at h
      refine z_bipush hX dX9_goes_59 qb_m2 61 rfl ?_
      exact z_ireturn hX dX9_goes_61 (zend_i h)
    · rw [if_neg hc] at h
      refine z_aload_n hX dX9_goes_29 rfl 30 rfl ?_
      refine z_getF hX fX9_45 dX9_goes_30 zs_0 (by decide) rfl 33 rfl ?_
      refine z_iconst hX dX9_goes_33 qi_0 34 rfl ?_
      obtain ⟨M5_, hq, h6_⟩ := zcV_of h
      refine z_callV hX vX8_pass lX9_271 dX9_goes_34 zs_65 rfl (mX8_pass isW_65 hq) (by decide) rfl rfl (Nat.le_of_ble_eq_true rfl) 37 rfl (Qv.to (fun M' hv => ?_))
      subst hv
      refine z_aload_n hX dX9_goes_37 rfl 38 rfl ?_
      refine z_getF hX fX9_45 dX9_goes_38 zs_0 (by decide) rfl 41 rfl ?_
      refine z_getI hX fX9_282 dX9_goes_41 zs_65 (by decide) rfl 44 rfl ?_
      refine z_iload_n hX dX9_goes_44 rfl 45 rfl ?_
      refine z_ishr hX dX9_goes_45 46 rfl ?_
      refine z_iconst hX dX9_goes_46 qi_1 47 rfl ?_
      refine z_iand hX dX9_goes_47 48 rfl ?_
      refine z_if_eq hX dX9_goes_48 53 51 (by decide) rfl (fun hc => ?_) (fun hc => ?_)
      · rw [if_pos hc] at h6_
        refine z_iinc (v := (s.1 + 1)) hX dX9_goes_53 rfl (by rfl) (by decide) 56 rfl ?_
        refine z_goto hX dX9_goes_56 23 (by decide) ?_
        refine z_mask [true, true, true] ?_
        have hz := hrc23 _ h6_
        exact hz
      · rw [if_neg hc] at h6_
        refine z_iload_n hX dX9_goes_51 rfl 52 rfl ?_
        exact z_ireturn hX dX9_goes_52 (zend_i h6_)
def gX9_goes (x1 : Int32) (M : zM) : Option (Int32 × zM) :=
  zcI (gX9_isMan x1 M) (fun v1_ => (if v1_ = 0 then some ((-1), M)
  else zcV (gX8_become 65 55 M) (fun M3_ => zfix zFu (gX9_goes_L23 x1) (1, M3_))))
set_option maxRecDepth 100000 in
set_option maxHeartbeats 2000000 in
theorem mX9_goes {G : zG} {x1 : Int32} {M : zM}  {res : (Int32 × zM)} (h : gX9_goes x1 M = some res) : Ct G 6 tX9_goes [.ref 0, .int x1] M (zQi res) := by
  unfold gX9_goes at h
  refine Ct.of (y := yX9_goes) rfl plX9 (Nat.le_of_ble_eq_true rfl) (fun X hX => ?_)
  replace hX : zC G X cX9_goes 3 RX9 (some .int) 6 := hX
  show Z G X _ 0 [some (.ref 0), some (.int x1), none] [] M
  refine z_aload_n hX dX9_goes_0 rfl 1 rfl ?_
  refine z_iload_n hX dX9_goes_1 rfl 2 rfl ?_
  obtain ⟨v1_, hq, h2_⟩ := zcI_of h
  refine z_callV hX vX9_isMan lX9_129 dX9_goes_2 zs_0 rfl (mX9_isMan  hq) (by decide) rfl rfl (Nat.le_of_ble_eq_true rfl) 5 rfl (Qi.to (fun v' M' hv => ?_))
  obtain ⟨rfl, rfl⟩ := hv
  refine z_if_ne hX dX9_goes_5 10 8 (by decide) rfl (fun hc => ?_) (fun hc => ?_)
  · rw [if_neg hc] at h2_
    refine z_aload_n hX dX9_goes_10 rfl 11 rfl ?_
    refine z_getF hX fX9_45 dX9_goes_11 zs_0 (by decide) rfl 14 rfl ?_
    refine z_aload_n hX dX9_goes_14 rfl 15 rfl ?_
    refine z_getF hX fX9_41 dX9_goes_15 zs_0 (by decide) rfl 18 rfl ?_
    obtain ⟨M3_, hq, h4_⟩ := zcV_of h2_
    refine z_callV hX vX8_become lX9_275 dX9_goes_18 zs_65 rfl (mX8_become isW_65 isW_55 hq) (by decide) rfl rfl (Nat.le_of_ble_eq_true rfl) 21 rfl (Qv.to (fun M' hv => ?_))
    subst hv
    refine z_iconst hX dX9_goes_21 qi_1 22 rfl ?_
    refine z_istore_n hX dX9_goes_22 (by decide) 23 rfl ?_
    refine z_mask [true, true, true] ?_
    have hz := aX9_goes_L23 hX _ _ h4_
    exact hz
  · rw [if_pos hc] at h2_
    refine z_iconst hX dX9_goes_8 qi_m1 9 rfl ?_
    exact z_ireturn hX dX9_goes_9 (zend_i h2_)
def gX9_out_L23 (x1 : Int32) (rc23 : (Int32 × zM) → Option (Int32 × zM)) (s : (Int32 × zM)) : Option (Int32 × zM) :=
  (if 99 < s.1 then some ((-2), s.2)
  else zg (zok x1 8) ((if (s.2.1 73 (x1 : Int32).toNatClampNeg) = 2 then some (s.1, s.2)
  else zcV (gX8_pass 65 0 s.2) (fun M6_ => rc23 ((s.1 + 1), M6_)))))
set_option maxRecDepth 100000 in
set_option maxHeartbeats 2000000 in
theorem aX9_out_L23 {G : zG} {X : zX} {x1 : Int32} (hX : zC G X cX9_out 3 RX9 (some .int) 6)    {res : (Int32 × zM)}  : ∀ (N : Nat) (s : (Int32 × zM)), zfix N (gX9_out_L23 x1) s = some res → Z G X (zQi res) 23 [some (.ref 0), some (.int x1), some (.int s.1)] [] s.2 := by
  intro N
  induction N with
  | zero => intro s h; cases h
  | succ N hrc23 =>
    intro s h
    replace h : gX9_out_L23 x1 (zfix N (gX9_out_L23 x1)) s = some res := h
    unfold gX9_out_L23 at h
    refine z_iload_n hX dX9_out_23 rfl 24 rfl ?_
    refine z_bipush hX dX9_out_24 qb_99 26 rfl ?_
    refine z_icmp_gt hX dX9_out_26 58 29 (by decide) rfl (fun hc => ?_) (fun hc => ?_)
    · rw [if_pos hc] at h
      refine z_bipush hX dX9_out_58 qb_m2 60 rfl ?_
      exact z_ireturn hX dX9_out_60 (zend_i h)
    · rw [if_neg hc] at h
      refine z_aload_n hX dX9_out_29 rfl 30 rfl ?_
      refine z_getF hX fX9_45 dX9_out_30 zs_0 (by decide) rfl 33 rfl ?_
      refine z_getF hX fX9_186 dX9_out_33 zs_65 (by decide) rfl 36 rfl ?_
      refine z_iload_n hX dX9_out_36 rfl 37 rfl ?_
      obtain ⟨hb, h5_⟩ := zgd h
      refine z_iald hX dX9_out_37 zs_73 (zok_in hb) 38 rfl ?_
      refine z_iconst hX dX9_out_38 qi_2 39 rfl ?_
      refine z_icmp_ne hX dX9_out_39 44 42 (by decide) rfl (fun hc => ?_) (fun hc => ?_)
      · rw [if_neg hc] at h5_
        refine z_aload_n hX dX9_out_44 rfl 45 rfl ?_
        refine z_getF hX fX9_45 dX9_out_45 zs_0 (by decide) rfl 48 rfl ?_
        refine z_iconst hX dX9_out_48 qi_0 49 rfl ?_
        obtain ⟨M6_, hq, h7_⟩ := zcV_of h5_
        refine z_callV hX vX8_pass lX9_271 dX9_out_49 zs_65 rfl (mX8_pass isW_65 hq) (by decide) rfl rfl (Nat.le_of_ble_eq_true rfl) 52 rfl (Qv.to (fun M' hv => ?_))
        subst hv
        refine z_iinc (v := (s.1 + 1)) hX dX9_out_52 rfl (by rfl) (by decide) 55 rfl ?_
        refine z_goto hX dX9_out_55 23 (by decide) ?_
        refine z_mask [true, true, true] ?_
        have hz := hrc23 _ h7_
        exact hz
      · rw [if_pos hc] at h5_
        refine z_iload_n hX dX9_out_42 rfl 43 rfl ?_
        exact z_ireturn hX dX9_out_43 (zend_i h5_)
def gX9_out (x1 : Int32) (M : zM) : Option (Int32 × zM) :=
  zcI (gX9_isThing x1 M) (fun v1_ => (if v1_ = 0 then some ((-1), M)
  else zcV (gX8_become 65 55 M) (fun M3_ => zfix zFu (gX9_out_L23 x1) (0, M3_))))
set_option maxRecDepth 100000 in
set_option maxHeartbeats 2000000 in
theorem mX9_out {G : zG} {x1 : Int32} {M : zM}  {res : (Int32 × zM)} (h : gX9_out x1 M = some res) : Ct G 6 tX9_out [.ref 0, .int x1] M (zQi res) := by
  unfold gX9_out at h
  refine Ct.of (y := yX9_out) rfl plX9 (Nat.le_of_ble_eq_true rfl) (fun X hX => ?_)
  replace hX : zC G X cX9_out 3 RX9 (some .int) 6 := hX
  show Z G X _ 0 [some (.ref 0), some (.int x1), none] [] M
  refine z_aload_n hX dX9_out_0 rfl 1 rfl ?_
  refine z_iload_n hX dX9_out_1 rfl 2 rfl ?_
  obtain ⟨v1_, hq, h2_⟩ := zcI_of h
  refine z_callV hX vX9_isThing lX9_174 dX9_out_2 zs_0 rfl (mX9_isThing  hq) (by decide) rfl rfl (Nat.le_of_ble_eq_true rfl) 5 rfl (Qi.to (fun v' M' hv => ?_))
  obtain ⟨rfl, rfl⟩ := hv
  refine z_if_ne hX dX9_out_5 10 8 (by decide) rfl (fun hc => ?_) (fun hc => ?_)
  · rw [if_neg hc] at h2_
    refine z_aload_n hX dX9_out_10 rfl 11 rfl ?_
    refine z_getF hX fX9_45 dX9_out_11 zs_0 (by decide) rfl 14 rfl ?_
    refine z_aload_n hX dX9_out_14 rfl 15 rfl ?_
    refine z_getF hX fX9_41 dX9_out_15 zs_0 (by decide) rfl 18 rfl ?_
    obtain ⟨M3_, hq, h4_⟩ := zcV_of h2_
    refine z_callV hX vX8_become lX9_275 dX9_out_18 zs_65 rfl (mX8_become isW_65 isW_55 hq) (by decide) rfl rfl (Nat.le_of_ble_eq_true rfl) 21 rfl (Qv.to (fun M' hv => ?_))
    subst hv
    refine z_iconst hX dX9_out_21 qi_0 22 rfl ?_
    refine z_istore_n hX dX9_out_22 (by decide) 23 rfl ?_
    refine z_mask [true, true, true] ?_
    have hz := aX9_out_L23 hX _ _ h4_
    exact hz
  · rw [if_pos hc] at h2_
    refine z_iconst hX dX9_out_8 qi_m1 9 rfl ?_
    exact z_ireturn hX dX9_out_9 (zend_i h2_)
def gX9_wayTried (x0 : Int32) (M : zM) : Option Int32 :=
  (if x0 = 1 then some 2
  else if x0 = 2 then some 0
  else if x0 = 3 then some 4
  else if x0 = 4 then some 8
  else if x0 = 5 then some 16
  else some 0)
set_option maxRecDepth 100000 in
set_option maxHeartbeats 2000000 in
theorem mX9_wayTried {G : zG} {x0 : Int32} {M : zM}  {res : Int32} (h : gX9_wayTried x0 M = some res) : Ct G 1 tX9_wayTried [.int x0] M (zQip M res) := by
  unfold gX9_wayTried at h
  refine Ct.of (y := yX9_wayTried) rfl plX9 (Nat.le_of_ble_eq_true rfl) (fun X hX => ?_)
  replace hX : zC G X cX9_wayTried 1 RX9 (some .int) 1 := hX
  show Z G X _ 0 [some (.int x0)] [] M
  refine z_iload_n hX dX9_wayTried_0 rfl 1 rfl ?_
  by_cases hc0 : x0 = 1
  · rw [if_pos hc0] at h
    refine z_tabIn hX dX9_wayTried_1 (by rw [hc0]; decide) (by rw [hc0]; decide) (by rw [hc0]; rfl) 36 (by decide) ?_
    refine z_iconst hX dX9_wayTried_36 qi_2 37 rfl ?_
    exact z_ireturn hX dX9_wayTried_37 (zend_ip h)
  rw [if_neg hc0] at h
  by_cases hc1 : x0 = 2
  · rw [if_pos hc1] at h
    refine z_tabIn hX dX9_wayTried_1 (by rw [hc1]; decide) (by rw [hc1]; decide) (by rw [hc1]; rfl) 46 (by decide) ?_
    refine z_iconst hX dX9_wayTried_46 qi_0 47 rfl ?_
    exact z_ireturn hX dX9_wayTried_47 (zend_ip h)
  rw [if_neg hc1] at h
  by_cases hc2 : x0 = 3
  · rw [if_pos hc2] at h
    refine z_tabIn hX dX9_wayTried_1 (by rw [hc2]; decide) (by rw [hc2]; decide) (by rw [hc2]; rfl) 38 (by decide) ?_
    refine z_iconst hX dX9_wayTried_38 qi_4 39 rfl ?_
    exact z_ireturn hX dX9_wayTried_39 (zend_ip h)
  rw [if_neg hc2] at h
  by_cases hc3 : x0 = 4
  · rw [if_pos hc3] at h
    refine z_tabIn hX dX9_wayTried_1 (by rw [hc3]; decide) (by rw [hc3]; decide) (by rw [hc3]; rfl) 40 (by decide) ?_
    refine z_bipush hX dX9_wayTried_40 qb_8 42 rfl ?_
    exact z_ireturn hX dX9_wayTried_42 (zend_ip h)
  rw [if_neg hc3] at h
  by_cases hc4 : x0 = 5
  · rw [if_pos hc4] at h
    refine z_tabIn hX dX9_wayTried_1 (by rw [hc4]; decide) (by rw [hc4]; decide) (by rw [hc4]; rfl) 43 (by decide) ?_
    refine z_bipush hX dX9_wayTried_43 qb_16 45 rfl ?_
    exact z_ireturn hX dX9_wayTried_45 (zend_ip h)
  rw [if_neg hc4] at h
  have hout : (x0 : Int32).toInt < 1 ∨ 5 < (x0 : Int32).toInt := zsw_out (fun k h1 h2 => by
    have hk : k = 1 ∨ k = 2 ∨ k = 3 ∨ k = 4 ∨ k = 5 := by omega
    rcases hk with rfl | rfl | rfl | rfl | rfl
    · exact hc0
    · exact hc1
    · exact hc2
    · exact hc3
    · exact hc4)
  refine z_tabOut hX dX9_wayTried_1 hout 46 (by decide) ?_
  refine z_iconst hX dX9_wayTried_46 qi_0 47 rfl ?_
  exact z_ireturn hX dX9_wayTried_47 (zend_ip h)
def gX9_tried_L73 (x3 : Int32) (x4 : Int32) (rc73 : (Int32 × zM) → Option (Int32 × zM)) (s : (Int32 × zM)) : Option (Int32 × zM) :=
  (if x3 ≤ s.1 then zcI (gX8_thingsThatAre 65 2 s.2) (fun v7_ => zcI (gX8_thingsThatAre 55 2 s.2) (fun v9_ => some ((v7_ - v9_), s.2)))
  else zcV (gX8_pass 65 x4 s.2) (fun M11_ => rc73 ((s.1 + 1), M11_)))
set_option maxRecDepth 100000 in
set_option maxHeartbeats 2000000 in
theorem aX9_tried_L73 {G : zG} {X : zX} {x3 : Int32} {x4 : Int32} (hX : zC G X cX9_tried 6 RX9 (some .int) 6)    {res : (Int32 × zM)}  : ∀ (N : Nat) (s : (Int32 × zM)), zfix N (gX9_tried_L73 x3 x4) s = some res → Z G X (zQi res) 73 [some (.ref 0), none, none, some (.int x3), some (.int x4), some (.int s.1)] [] s.2 := by
  intro N
  induction N with
  | zero => intro s h; cases h
  | succ N hrc73 =>
    intro s h
    replace h : gX9_tried_L73 x3 x4 (zfix N (gX9_tried_L73 x3 x4)) s = some res := h
    unfold gX9_tried_L73 at h
    refine z_iload hX dX9_tried_73 rfl 75 rfl ?_
    refine z_iload_n hX dX9_tried_75 rfl 76 rfl ?_
    refine z_icmp_ge hX dX9_tried_76 94 79 (by decide) rfl (fun hc => ?_) (fun hc => ?_)
    · rw [if_pos hc] at h
      refine z_aload_n hX dX9_tried_94 rfl 95 rfl ?_
      refine z_getF hX fX9_45 dX9_tried_95 zs_0 (by decide) rfl 98 rfl ?_
      refine z_iconst hX dX9_tried_98 qi_2 99 rfl ?_
      obtain ⟨v7_, hq, h8_⟩ := zcI_of h
      refine z_callV hX vX8_thingsThatAre lX9_218 dX9_tried_99 zs_65 rfl (mX8_thingsThatAre isW_65 hq) (by decide) rfl rfl (Nat.le_of_ble_eq_true rfl) 102 rfl (Qi.to (fun v' M' hv => ?_))
      obtain ⟨rfl, rfl⟩ := hv
      refine z_aload_n hX dX9_tried_102 rfl 103 rfl ?_
      refine z_getF hX fX9_41 dX9_tried_103 zs_0 (by decide) rfl 106 rfl ?_
      refine z_iconst hX dX9_tried_106 qi_2 107 rfl ?_
      obtain ⟨v9_, hq, h10_⟩ := zcI_of h8_
      refine z_callV hX vX8_thingsThatAre lX9_218 dX9_tried_107 zs_55 rfl (mX8_thingsThatAre isW_55 hq) (by decide) rfl rfl (Nat.le_of_ble_eq_true rfl) 110 rfl (Qi.to (fun v' M' hv => ?_))
      obtain ⟨rfl, rfl⟩ := hv
      refine z_isub hX dX9_tried_110 111 rfl ?_
      exact z_ireturn hX dX9_tried_111 (zend_i h10_)
    · rw [if_neg hc] at h
      refine z_aload_n hX dX9_tried_79 rfl 80 rfl ?_
      refine z_getF hX fX9_45 dX9_tried_80 zs_0 (by decide) rfl 83 rfl ?_
      refine z_iload hX dX9_tried_83 rfl 85 rfl ?_
      obtain ⟨M11_, hq, h12_⟩ := zcV_of h
      refine z_callV hX vX8_pass lX9_271 dX9_tried_85 zs_65 rfl (mX8_pass isW_65 hq) (by decide) rfl rfl (Nat.le_of_ble_eq_true rfl) 88 rfl (Qv.to (fun M' hv => ?_))
      subst hv
      refine z_iinc (v := (s.1 + 1)) hX dX9_tried_88 rfl (by rfl) (by decide) 91 rfl ?_
      refine z_goto hX dX9_tried_91 73 (by decide) ?_
      refine z_mask [true, false, false, true, true, true] ?_
      have hz := hrc73 _ h12_
      exact hz
def gX9_tried_J64 (x1 : Int32) (x3 : Int32) (M : zM) : Option (Int32 × zM) :=
  zcI (gX9_wayTried x1 M) (fun v5_ => zfix zFu (gX9_tried_L73 x3 v5_) (0, M))
set_option maxRecDepth 100000 in
set_option maxHeartbeats 2000000 in
theorem aX9_tried_J64 {G : zG} {X : zX} {x1 : Int32} {x3 : Int32} (hX : zC G X cX9_tried 6 RX9 (some .int) 6)   {M : zM} {res : (Int32 × zM)}  (h : gX9_tried_J64 x1 x3 M = some res) : Z G X (zQi res) 64 [some (.ref 0), some (.int x1), none, some (.int x3), none, none] [] M := by
  unfold gX9_tried_J64 at h
  refine z_iload_n hX dX9_tried_64 rfl 65 rfl ?_
  obtain ⟨v5_, hq, h6_⟩ := zcI_of h
  refine z_callS hX vX9_wayTried rfl lX9_285 dX9_tried_65 (mX9_wayTried  hq) (by decide) rfl rfl (Nat.le_of_ble_eq_true rfl) 68 rfl (Qi.to (fun v' M' hv => ?_))
  obtain ⟨rfl, rfl⟩ := hv
  refine z_istore hX dX9_tried_68 (by decide) 70 rfl ?_
  refine z_iconst hX dX9_tried_70 qi_0 71 rfl ?_
  refine z_istore hX dX9_tried_71 (by decide) 73 rfl ?_
  refine z_mask [true, false, false, true, true, true] ?_
  have hz := aX9_tried_L73 hX _ _ h6_
  exact hz
def gX9_tried_J38 (x1 : Int32) (x2 : Int32) (x3 : Int32) (M : zM) : Option (Int32 × zM) :=
  zcV (gX8_become 65 55 M) (fun M3_ => (if x1 = 2 then zg (zok x2 6) (zlet (zI M3_ 72 (x2 : Int32).toNatClampNeg (vp_nar .boolean 1)) (fun M14_ => gX9_tried_J64 x1 x3 M14_))
  else gX9_tried_J64 x1 x3 M3_))
set_option maxRecDepth 100000 in
set_option maxHeartbeats 2000000 in
theorem aX9_tried_J38 {G : zG} {X : zX} {x1 : Int32} {x2 : Int32} {x3 : Int32} (hX : zC G X cX9_tried 6 RX9 (some .int) 6)   {M : zM} {res : (Int32 × zM)}  (h : gX9_tried_J38 x1 x2 x3 M = some res) : Z G X (zQi res) 38 [some (.ref 0), some (.int x1), some (.int x2), some (.int x3), none, none] [] M := by
  unfold gX9_tried_J38 at h
  refine z_aload_n hX dX9_tried_38 rfl 39 rfl ?_
  refine z_getF hX fX9_45 dX9_tried_39 zs_0 (by decide) rfl 42 rfl ?_
  refine z_aload_n hX dX9_tried_42 rfl 43 rfl ?_
  refine z_getF hX fX9_41 dX9_tried_43 zs_0 (by decide) rfl 46 rfl ?_
  obtain ⟨M3_, hq, h4_⟩ := zcV_of h
  refine z_callV hX vX8_become lX9_275 dX9_tried_46 zs_65 rfl (mX8_become isW_65 isW_55 hq) (by decide) rfl rfl (Nat.le_of_ble_eq_true rfl) 49 rfl (Qv.to (fun M' hv => ?_))
  subst hv
  refine z_iload_n hX dX9_tried_49 rfl 50 rfl ?_
  refine z_iconst hX dX9_tried_50 qi_2 51 rfl ?_
  refine z_icmp_ne hX dX9_tried_51 64 54 (by decide) rfl (fun hc => ?_) (fun hc => ?_)
  · rw [if_neg hc] at h4_
    refine z_mask [true, true, false, true, false, false] ?_
    have hz := aX9_tried_J64 hX h4_
    exact hz
  · rw [if_pos hc] at h4_
    refine z_aload_n hX dX9_tried_54 rfl 55 rfl ?_
    refine z_getF hX fX9_45 dX9_tried_55 zs_0 (by decide) rfl 58 rfl ?_
    refine z_getF hX fX9_165 dX9_tried_58 zs_65 (by decide) rfl 61 rfl ?_
    refine z_iload_n hX dX9_tried_61 rfl 62 rfl ?_
    refine z_iconst hX dX9_tried_62 qi_1 63 rfl ?_
    obtain ⟨hb, h13_⟩ := zgd h4_
    refine z_zast hX dX9_tried_63 zs_72 (zok_in hb) 64 rfl ?_
    refine z_mem h13_ (fun M14_ h15_ => ?_)
    refine z_mask [true, true, false, true, false, false] ?_
    have hz := aX9_tried_J64 hX h15_
    exact hz
def gX9_tried (x1 : Int32) (x2 : Int32) (x3 : Int32) (M : zM) : Option (Int32 × zM) :=
  (if x1 < 0 then some ((-1), M)
  else (if 5 < x1 then some ((-1), M)
  else zcI (gX9_isCount x3 M) (fun v1_ => (if v1_ = 0 then some ((-1), M)
  else (if x1 = 2 then zcI (gX9_isMan x2 M) (fun v16_ => (if v16_ = 0 then some ((-1), M)
  else gX9_tried_J38 x1 x2 x3 M))
  else (if x2 = 0 then gX9_tried_J38 x1 x2 x3 M
  else some ((-1), M)))))))
set_option maxRecDepth 100000 in
set_option maxHeartbeats 2000000 in
theorem mX9_tried {G : zG} {x1 : Int32} {x2 : Int32} {x3 : Int32} {M : zM}  {res : (Int32 × zM)} (h : gX9_tried x1 x2 x3 M = some res) : Ct G 6 tX9_tried [.ref 0, .int x1, .int x2, .int x3] M (zQi res) := by
  unfold gX9_tried at h
  refine Ct.of (y := yX9_tried) rfl plX9 (Nat.le_of_ble_eq_true rfl) (fun X hX => ?_)
  replace hX : zC G X cX9_tried 6 RX9 (some .int) 6 := hX
  show Z G X _ 0 [some (.ref 0), some (.int x1), some (.int x2), some (.int x3), none, none] [] M
  refine z_iload_n hX dX9_tried_0 rfl 1 rfl ?_
  refine z_if_lt hX dX9_tried_1 36 4 (by decide) rfl (fun hc => ?_) (fun hc => ?_)
  · rw [if_pos hc] at h
    refine z_iconst hX dX9_tried_36 qi_m1 37 rfl ?_
    exact z_ireturn hX dX9_tried_37 (zend_i h)
  · rw [if_neg hc] at h
    refine z_iload_n hX dX9_tried_4 rfl 5 rfl ?_
    refine z_iconst hX dX9_tried_5 qi_5 6 rfl ?_
    refine z_icmp_gt hX dX9_tried_6 36 9 (by decide) rfl (fun hc => ?_) (fun hc => ?_)
    · rw [if_pos hc] at h
      refine z_iconst hX dX9_tried_36 qi_m1 37 rfl ?_
      exact z_ireturn hX dX9_tried_37 (zend_i h)
    · rw [if_neg hc] at h
      refine z_iload_n hX dX9_tried_9 rfl 10 rfl ?_
      obtain ⟨v1_, hq, h2_⟩ := zcI_of h
      refine z_callS hX vX9_isCount rfl lX9_279 dX9_tried_10 (mX9_isCount  hq) (by decide) rfl rfl (Nat.le_of_ble_eq_true rfl) 13 rfl (Qi.to (fun v' M' hv => ?_))
      obtain ⟨rfl, rfl⟩ := hv
      refine z_if_eq hX dX9_tried_13 36 16 (by decide) rfl (fun hc => ?_) (fun hc => ?_)
      · rw [if_pos hc] at h2_
        refine z_iconst hX dX9_tried_36 qi_m1 37 rfl ?_
        exact z_ireturn hX dX9_tried_37 (zend_i h2_)
      · rw [if_neg hc] at h2_
        refine z_iload_n hX dX9_tried_16 rfl 17 rfl ?_
        refine z_iconst hX dX9_tried_17 qi_2 18 rfl ?_
        refine z_icmp_ne hX dX9_tried_18 32 21 (by decide) rfl (fun hc => ?_) (fun hc => ?_)
        · rw [if_neg hc] at h2_
          refine z_iload_n hX dX9_tried_32 rfl 33 rfl ?_
          refine z_if_eq hX dX9_tried_33 38 36 (by decide) rfl (fun hc => ?_) (fun hc => ?_)
          · rw [if_pos hc] at h2_
            refine z_mask [true, true, true, true, false, false] ?_
            have hz := aX9_tried_J38 hX h2_
            exact hz
          · rw [if_neg hc] at h2_
            refine z_iconst hX dX9_tried_36 qi_m1 37 rfl ?_
            exact z_ireturn hX dX9_tried_37 (zend_i h2_)
        · rw [if_pos hc] at h2_
          refine z_aload_n hX dX9_tried_21 rfl 22 rfl ?_
          refine z_iload_n hX dX9_tried_22 rfl 23 rfl ?_
          obtain ⟨v16_, hq, h17_⟩ := zcI_of h2_
          refine z_callV hX vX9_isMan lX9_129 dX9_tried_23 zs_0 rfl (mX9_isMan  hq) (by decide) rfl rfl (Nat.le_of_ble_eq_true rfl) 26 rfl (Qi.to (fun v' M' hv => ?_))
          obtain ⟨rfl, rfl⟩ := hv
          refine z_if_ne hX dX9_tried_26 38 29 (by decide) rfl (fun hc => ?_) (fun hc => ?_)
          · rw [if_neg hc] at h17_
            refine z_mask [true, true, true, true, false, false] ?_
            have hz := aX9_tried_J38 hX h17_
            exact hz
          · rw [if_pos hc] at h17_
            refine z_goto hX dX9_tried_29 36 (by decide) ?_
            refine z_iconst hX dX9_tried_36 qi_m1 37 rfl ?_
            exact z_ireturn hX dX9_tried_37 (zend_i h17_)
def gX9_chance_L66 (x2 : Int32) (x3 : Int32) (x5 : Int32) (x6 : Int32) (rc36 : (Int32 × Int32 × Int32 × zM) → Option (Int32 × zM)) (rc66 : (Int32 × zM) → Option (Int32 × zM)) (s : (Int32 × zM)) : Option (Int32 × zM) :=
  (if x2 ≤ s.1 then zcI (gX8_thingsThatAre 65 2 s.2) (fun v5_ => (if v5_ < x3 then rc36 ((s.2.1 65 14), x5, (x6 + 1), s.2)
  else rc36 ((s.2.1 65 14), (x5 + 1), (x6 + 1), s.2)))
  else zcV (gX8_pass 65 1 s.2) (fun M7_ => rc66 ((s.1 + 1), M7_)))
set_option maxRecDepth 100000 in
set_option maxHeartbeats 2000000 in
theorem aX9_chance_L66 {G : zG} {X : zX} {x2 : Int32} {x3 : Int32} {x5 : Int32} {x6 : Int32} (hX : zC G X cX9_chance 8 RX9 (some .int) 6)  {rc36 : (Int32 × Int32 × Int32 × zM) → Option (Int32 × zM)}  {res : (Int32 × zM)} (hrc36 : ∀ s : (Int32 × Int32 × Int32 × zM), rc36 s = some res → Z G X (zQi res) 36 [some (.ref 0), none, some (.int x2), some (.int x3), some (.int s.1), some (.int s.2.1), some (.int s.2.2.1), none] [] s.2.2.2) : ∀ (N : Nat) (s : (Int32 × zM)), zfix N (gX9_chance_L66 x2 x3 x5 x6 rc36) s = some res → Z G X (zQi res) 66 [some (.ref 0), none, some (.int x2), some (.int x3), none, some (.int x5), some (.int x6), some (.int s.1)] [] s.2 := by
  intro N
  induction N with
  | zero => intro s h; cases h
  | succ N hrc66 =>
    intro s h
    replace h : gX9_chance_L66 x2 x3 x5 x6 rc36 (zfix N (gX9_chance_L66 x2 x3 x5 x6 rc36)) s = some res := h
    unfold gX9_chance_L66 at h
    refine z_iload hX dX9_chance_66 rfl 68 rfl ?_
    refine z_iload_n hX dX9_chance_68 rfl 69 rfl ?_
    refine z_icmp_ge hX dX9_chance_69 86 72 (by decide) rfl (fun hc => ?_) (fun hc => ?_)
    · rw [if_pos hc] at h
      refine z_aload_n hX dX9_chance_86 rfl 87 rfl ?_
      refine z_getF hX fX9_45 dX9_chance_87 zs_0 (by decide) rfl 90 rfl ?_
      refine z_getI hX fX9_288 dX9_chance_90 zs_65 (by decide) rfl 93 rfl ?_
      refine z_istore hX dX9_chance_93 (by decide) 95 rfl ?_
      refine z_aload_n hX dX9_chance_95 rfl 96 rfl ?_
      refine z_getF hX fX9_45 dX9_chance_96 zs_0 (by decide) rfl 99 rfl ?_
      refine z_iconst hX dX9_chance_99 qi_2 100 rfl ?_
      obtain ⟨v5_, hq, h6_⟩ := zcI_of h
      refine z_callV hX vX8_thingsThatAre lX9_218 dX9_chance_100 zs_65 rfl (mX8_thingsThatAre isW_65 hq) (by decide) rfl rfl (Nat.le_of_ble_eq_true rfl) 103 rfl (Qi.to (fun v' M' hv => ?_))
      obtain ⟨rfl, rfl⟩ := hv
      refine z_iload_n hX dX9_chance_103 rfl 104 rfl ?_
      refine z_icmp_lt hX dX9_chance_104 110 107 (by decide) rfl (fun hc => ?_) (fun hc => ?_)
      · rw [if_pos hc] at h6_
        refine z_iinc (v := (x6 + 1)) hX dX9_chance_110 rfl (by rfl) (by decide) 113 rfl ?_
        refine z_goto hX dX9_chance_113 36 (by decide) ?_
        refine z_mask [true, false, true, true, true, true, true, false] ?_
        have hz := hrc36 _ h6_
        exact hz
      · rw [if_neg hc] at h6_
        refine z_iinc (v := (x5 + 1)) hX dX9_chance_107 rfl (by rfl) (by decide) 110 rfl ?_
        refine z_iinc (v := (x6 + 1)) hX dX9_chance_110 rfl (by rfl) (by decide) 113 rfl ?_
        refine z_goto hX dX9_chance_113 36 (by decide) ?_
        refine z_mask [true, false, true, true, true, true, true, false] ?_
        have hz := hrc36 _ h6_
        exact hz
    · rw [if_neg hc] at h
      refine z_aload_n hX dX9_chance_72 rfl 73 rfl ?_
      refine z_getF hX fX9_45 dX9_chance_73 zs_0 (by decide) rfl 76 rfl ?_
      refine z_iconst hX dX9_chance_76 qi_1 77 rfl ?_
      obtain ⟨M7_, hq, h8_⟩ := zcV_of h
      refine z_callV hX vX8_pass lX9_271 dX9_chance_77 zs_65 rfl (mX8_pass isW_65 hq) (by decide) rfl rfl (Nat.le_of_ble_eq_true rfl) 80 rfl (Qv.to (fun M' hv => ?_))
      subst hv
      refine z_iinc (v := (s.1 + 1)) hX dX9_chance_80 rfl (by rfl) (by decide) 83 rfl ?_
      refine z_goto hX dX9_chance_83 66 (by decide) ?_
      refine z_mask [true, false, true, true, false, true, true, true] ?_
      have hz := hrc66 _ h8_
      exact hz
def gX9_chance_L36 (x2 : Int32) (x3 : Int32) (rc36 : (Int32 × Int32 × Int32 × zM) → Option (Int32 × zM)) (s : (Int32 × Int32 × Int32 × zM)) : Option (Int32 × zM) :=
  (if 10 ≤ s.2.2.1 then some (s.2.1, s.2.2.2)
  else zcV (gX8_become 65 55 s.2.2.2) (fun M1_ => zlet (zI M1_ 65 14 s.1) (fun M3_ => zfix zFu (gX9_chance_L66 x2 x3 s.2.1 s.2.2.1 rc36) (0, M3_))))
set_option maxRecDepth 100000 in
set_option maxHeartbeats 2000000 in
theorem aX9_chance_L36 {G : zG} {X : zX} {x2 : Int32} {x3 : Int32} (hX : zC G X cX9_chance 8 RX9 (some .int) 6)    {res : (Int32 × zM)}  : ∀ (N : Nat) (s : (Int32 × Int32 × Int32 × zM)), zfix N (gX9_chance_L36 x2 x3) s = some res → Z G X (zQi res) 36 [some (.ref 0), none, some (.int x2), some (.int x3), some (.int s.1), some (.int s.2.1), some (.int s.2.2.1), none] [] s.2.2.2 := by
  intro N
  induction N with
  | zero => intro s h; cases h
  | succ N hrc36 =>
    intro s h
    replace h : gX9_chance_L36 x2 x3 (zfix N (gX9_chance_L36 x2 x3)) s = some res := h
    unfold gX9_chance_L36 at h
    refine z_iload hX dX9_chance_36 rfl 38 rfl ?_
    refine z_bipush hX dX9_chance_38 qb_10 40 rfl ?_
    refine z_icmp_ge hX dX9_chance_40 116 43 (by decide) rfl (fun hc => ?_) (fun hc => ?_)
    · rw [if_pos hc] at h
      refine z_iload hX dX9_chance_116 rfl 118 rfl ?_
      exact z_ireturn hX dX9_chance_118 (zend_i h)
    · rw [if_neg hc] at h
      refine z_aload_n hX dX9_chance_43 rfl 44 rfl ?_
      refine z_getF hX fX9_45 dX9_chance_44 zs_0 (by decide) rfl 47 rfl ?_
      refine z_aload_n hX dX9_chance_47 rfl 48 rfl ?_
      refine z_getF hX fX9_41 dX9_chance_48 zs_0 (by decide) rfl 51 rfl ?_
      obtain ⟨M1_, hq, h2_⟩ := zcV_of h
      refine z_callV hX vX8_become lX9_275 dX9_chance_51 zs_65 rfl (mX8_become isW_65 isW_55 hq) (by decide) rfl rfl (Nat.le_of_ble_eq_true rfl) 54 rfl (Qv.to (fun M' hv => ?_))
      subst hv
      refine z_aload_n hX dX9_chance_54 rfl 55 rfl ?_
      refine z_getF hX fX9_45 dX9_chance_55 zs_0 (by decide) rfl 58 rfl ?_
      refine z_iload hX dX9_chance_58 rfl 60 rfl ?_
      refine z_putI hX pX9_288 dX9_chance_60 zs_65 (by decide) rfl 63 rfl ?_
      refine z_mem h2_ (fun M3_ h4_ => ?_)
      refine z_iconst hX dX9_chance_63 qi_0 64 rfl ?_
      refine z_istore hX dX9_chance_64 (by decide) 66 rfl ?_
      refine z_mask [true, false, true, true, false, true, true, true] ?_
      have hz := aX9_chance_L66 hX hrc36 _ _ h4_
      exact hz
def gX9_chance (x1 : Int32) (x2 : Int32) (x3 : Int32) (M : zM) : Option (Int32 × zM) :=
  (if x1 < 0 then some ((-1), M)
  else (if x2 < 1 then some ((-1), M)
  else (if 99 < x2 then some ((-1), M)
  else (if x3 < 0 then some ((-1), M)
  else (if x3 ≤ 8 then zfix zFu (gX9_chance_L36 x2 x3) (x1, 0, 0, M)
  else some ((-1), M))))))
set_option maxRecDepth 100000 in
set_option maxHeartbeats 2000000 in
theorem mX9_chance {G : zG} {x1 : Int32} {x2 : Int32} {x3 : Int32} {M : zM}  {res : (Int32 × zM)} (h : gX9_chance x1 x2 x3 M = some res) : Ct G 6 tX9_chance [.ref 0, .int x1, .int x2, .int x3] M (zQi res) := by
  unfold gX9_chance at h
  refine Ct.of (y := yX9_chance) rfl plX9 (Nat.le_of_ble_eq_true rfl) (fun X hX => ?_)
  replace hX : zC G X cX9_chance 8 RX9 (some .int) 6 := hX
  show Z G X _ 0 [some (.ref 0), some (.int x1), some (.int x2), some (.int x3), none, none, none, none] [] M
  refine z_iload_n hX dX9_chance_0 rfl 1 rfl ?_
  refine z_if_lt hX dX9_chance_1 25 4 (by decide) rfl (fun hc => ?_) (fun hc => ?_)
  · rw [if_pos hc] at h
    refine z_iconst hX dX9_chance_25 qi_m1 26 rfl ?_
    exact z_ireturn hX dX9_chance_26 (zend_i h)
  · rw [if_neg hc] at h
    refine z_iload_n hX dX9_chance_4 rfl 5 rfl ?_
    refine z_iconst hX dX9_chance_5 qi_1 6 rfl ?_
    refine z_icmp_lt hX dX9_chance_6 25 9 (by decide) rfl (fun hc => ?_) (fun hc => ?_)
    · rw [if_pos hc] at h
      refine z_iconst hX dX9_chance_25 qi_m1 26 rfl ?_
      exact z_ireturn hX dX9_chance_26 (zend_i h)
    · rw [if_neg hc] at h
      refine z_iload_n hX dX9_chance_9 rfl 10 rfl ?_
      refine z_bipush hX dX9_chance_10 qb_99 12 rfl ?_
      refine z_icmp_gt hX dX9_chance_12 25 15 (by decide) rfl (fun hc => ?_) (fun hc => ?_)
      · rw [if_pos hc] at h
        refine z_iconst hX dX9_chance_25 qi_m1 26 rfl ?_
        exact z_ireturn hX dX9_chance_26 (zend_i h)
      · rw [if_neg hc] at h
        refine z_iload_n hX dX9_chance_15 rfl 16 rfl ?_
        refine z_if_lt hX dX9_chance_16 25 19 (by decide) rfl (fun hc => ?_) (fun hc => ?_)
        · rw [if_pos hc] at h
          refine z_iconst hX dX9_chance_25 qi_m1 26 rfl ?_
          exact z_ireturn hX dX9_chance_26 (zend_i h)
        · rw [if_neg hc] at h
          refine z_iload_n hX dX9_chance_19 rfl 20 rfl ?_
          refine z_bipush hX dX9_chance_20 qb_8 22 rfl ?_
          refine z_icmp_le hX dX9_chance_22 27 25 (by decide) rfl (fun hc => ?_) (fun hc => ?_)
          · rw [if_pos hc] at h
            refine z_iload_n hX dX9_chance_27 rfl 28 rfl ?_
            refine z_istore hX dX9_chance_28 (by decide) 30 rfl ?_
            refine z_iconst hX dX9_chance_30 qi_0 31 rfl ?_
            refine z_istore hX dX9_chance_31 (by decide) 33 rfl ?_
            refine z_iconst hX dX9_chance_33 qi_0 34 rfl ?_
            refine z_istore hX dX9_chance_34 (by decide) 36 rfl ?_
            refine z_mask [true, false, true, true, true, true, true, false] ?_
            have hz := aX9_chance_L36 hX _ _ h
            exact hz
          · rw [if_neg hc] at h
            refine z_iconst hX dX9_chance_25 qi_m1 26 rfl ?_
            exact z_ireturn hX dX9_chance_26 (zend_i h)
def gX9_premiumOf_L21 (x1 : Int32) (x2 : Int32) (rc21 : (Int32 × zM) → Option (Int32 × zM)) (s : (Int32 × zM)) : Option (Int32 × zM) :=
  (if 200 < s.1 then some ((-2), s.2)
  else zcIM (gX8_dares 55 x1 x2 s.1 s.2) (fun v2_ M3_ => (if v2_ = 0 then rc21 ((s.1 + 1), M3_)
  else some (s.1, M3_))))
set_option maxRecDepth 100000 in
set_option maxHeartbeats 2000000 in
theorem aX9_premiumOf_L21 {G : zG} {X : zX} {x1 : Int32} {x2 : Int32} (hX : zC G X cX9_premiumOf 4 RX9 (some .int) 4)    {res : (Int32 × zM)}  : ∀ (N : Nat) (s : (Int32 × zM)), zfix N (gX9_premiumOf_L21 x1 x2) s = some res → Z G X (zQi res) 21 [some (.ref 0), some (.int x1), some (.int x2), some (.int s.1)] [] s.2 := by
  intro N
  induction N with
  | zero => intro s h; cases h
  | succ N hrc21 =>
    intro s h
    replace h : gX9_premiumOf_L21 x1 x2 (zfix N (gX9_premiumOf_L21 x1 x2)) s = some res := h
    unfold gX9_premiumOf_L21 at h
    refine z_iload_n hX dX9_premiumOf_21 rfl 22 rfl ?_
    refine z_sipush hX dX9_premiumOf_22 qs_200 25 rfl ?_
    refine z_icmp_gt hX dX9_premiumOf_25 49 28 (by decide) rfl (fun hc => ?_) (fun hc => ?_)
    · rw [if_pos hc] at h
      refine z_bipush hX dX9_premiumOf_49 qb_m2 51 rfl ?_
      exact z_ireturn hX dX9_premiumOf_51 (zend_i h)
    · rw [if_neg hc] at h
      refine z_aload_n hX dX9_premiumOf_28 rfl 29 rfl ?_
      refine z_getF hX fX9_41 dX9_premiumOf_29 zs_0 (by decide) rfl 32 rfl ?_
      refine z_iload_n hX dX9_premiumOf_32 rfl 33 rfl ?_
      refine z_iload_n hX dX9_premiumOf_33 rfl 34 rfl ?_
      refine z_iload_n hX dX9_premiumOf_34 rfl 35 rfl ?_
      obtain ⟨v2_, M3_, hq, h4_⟩ := zcIM_of h
      refine z_callV hX vX8_dares lX9_294 dX9_premiumOf_35 zs_55 rfl (mX8_dares isW_55 hq) (by decide) rfl rfl (Nat.le_of_ble_eq_true rfl) 38 rfl (Qi.to (fun v' M' hv => ?_))
      cases hv
      refine z_if_eq hX dX9_premiumOf_38 43 41 (by decide) rfl (fun hc => ?_) (fun hc => ?_)
      · rw [if_pos hc] at h4_
        refine z_iinc (v := (s.1 + 1)) hX dX9_premiumOf_43 rfl (by rfl) (by decide) 46 rfl ?_
        refine z_goto hX dX9_premiumOf_46 21 (by decide) ?_
        refine z_mask [true, true, true, true] ?_
        have hz := hrc21 _ h4_
        exact hz
      · rw [if_neg hc] at h4_
        refine z_iload_n hX dX9_premiumOf_41 rfl 42 rfl ?_
        exact z_ireturn hX dX9_premiumOf_42 (zend_i h4_)
def gX9_premiumOf (x1 : Int32) (x2 : Int32) (M : zM) : Option (Int32 × zM) :=
  (if x2 < 0 then some ((-2), M)
  else zg (zok x1 6) ((if (M.1 59 (x1 : Int32).toNatClampNeg) = 0 then zfix zFu (gX9_premiumOf_L21 x1 x2) (0, M)
  else some ((-2), M))))
set_option maxRecDepth 100000 in
set_option maxHeartbeats 2000000 in
theorem mX9_premiumOf {G : zG} {x1 : Int32} {x2 : Int32} {M : zM}  {res : (Int32 × zM)} (h : gX9_premiumOf x1 x2 M = some res) : Ct G 4 tX9_premiumOf [.ref 0, .int x1, .int x2] M (zQi res) := by
  unfold gX9_premiumOf at h
  refine Ct.of (y := yX9_premiumOf) rfl plX9 (Nat.le_of_ble_eq_true rfl) (fun X hX => ?_)
  replace hX : zC G X cX9_premiumOf 4 RX9 (some .int) 4 := hX
  show Z G X _ 0 [some (.ref 0), some (.int x1), some (.int x2), none] [] M
  refine z_iload_n hX dX9_premiumOf_0 rfl 1 rfl ?_
  refine z_if_lt hX dX9_premiumOf_1 16 4 (by decide) rfl (fun hc => ?_) (fun hc => ?_)
  · rw [if_pos hc] at h
    refine z_bipush hX dX9_premiumOf_16 qb_m2 18 rfl ?_
    exact z_ireturn hX dX9_premiumOf_18 (zend_i h)
  · rw [if_neg hc] at h
    refine z_aload_n hX dX9_premiumOf_4 rfl 5 rfl ?_
    refine z_getF hX fX9_41 dX9_premiumOf_5 zs_0 (by decide) rfl 8 rfl ?_
    refine z_getF hX fX9_152 dX9_premiumOf_8 zs_55 (by decide) rfl 11 rfl ?_
    refine z_iload_n hX dX9_premiumOf_11 rfl 12 rfl ?_
    obtain ⟨hb, h1_⟩ := zgd h
    refine z_iald hX dX9_premiumOf_12 zs_59 (zok_in hb) 13 rfl ?_
    refine z_if_eq hX dX9_premiumOf_13 19 16 (by decide) rfl (fun hc => ?_) (fun hc => ?_)
    · rw [if_pos hc] at h1_
      refine z_iconst hX dX9_premiumOf_19 qi_0 20 rfl ?_
      refine z_istore_n hX dX9_premiumOf_20 (by decide) 21 rfl ?_
      refine z_mask [true, true, true, true] ?_
      have hz := aX9_premiumOf_L21 hX _ _ h1_
      exact hz
    · rw [if_neg hc] at h1_
      refine z_bipush hX dX9_premiumOf_16 qb_m2 18 rfl ?_
      exact z_ireturn hX dX9_premiumOf_18 (zend_i h1_)
def gX9_premium (x1 : Int32) (M : zM) : Option (Int32 × zM) :=
  zcI (gX9_isMan x1 M) (fun v1_ => (if v1_ = 0 then some ((-1), M)
  else zcI (gX8_freeThing 55 M) (fun v3_ => zcIM (gX9_premiumOf x1 v3_ M) (fun v5_ M6_ => some (v5_, M6_)))))
set_option maxRecDepth 100000 in
set_option maxHeartbeats 2000000 in
theorem mX9_premium {G : zG} {x1 : Int32} {M : zM}  {res : (Int32 × zM)} (h : gX9_premium x1 M = some res) : Ct G 5 tX9_premium [.ref 0, .int x1] M (zQi res) := by
  unfold gX9_premium at h
  refine Ct.of (y := yX9_premium) rfl plX9 (Nat.le_of_ble_eq_true rfl) (fun X hX => ?_)
  replace hX : zC G X cX9_premium 2 RX9 (some .int) 5 := hX
  show Z G X _ 0 [some (.ref 0), some (.int x1)] [] M
  refine z_aload_n hX dX9_premium_0 rfl 1 rfl ?_
  refine z_iload_n hX dX9_premium_1 rfl 2 rfl ?_
  obtain ⟨v1_, hq, h2_⟩ := zcI_of h
  refine z_callV hX vX9_isMan lX9_129 dX9_premium_2 zs_0 rfl (mX9_isMan  hq) (by decide) rfl rfl (Nat.le_of_ble_eq_true rfl) 5 rfl (Qi.to (fun v' M' hv => ?_))
  obtain ⟨rfl, rfl⟩ := hv
  refine z_if_eq hX dX9_premium_5 23 8 (by decide) rfl (fun hc => ?_) (fun hc => ?_)
  · rw [if_pos hc] at h2_
    refine z_iconst hX dX9_premium_23 qi_m1 24 rfl ?_
    exact z_ireturn hX dX9_premium_24 (zend_i h2_)
  · rw [if_neg hc] at h2_
    refine z_aload_n hX dX9_premium_8 rfl 9 rfl ?_
    refine z_iload_n hX dX9_premium_9 rfl 10 rfl ?_
    refine z_aload_n hX dX9_premium_10 rfl 11 rfl ?_
    refine z_getF hX fX9_41 dX9_premium_11 zs_0 (by decide) rfl 14 rfl ?_
    obtain ⟨v3_, hq, h4_⟩ := zcI_of h2_
    refine z_callV hX vX8_freeThing lX9_194 dX9_premium_14 zs_55 rfl (mX8_freeThing isW_55 hq) (by decide) rfl rfl (Nat.le_of_ble_eq_true rfl) 17 rfl (Qi.to (fun v' M' hv => ?_))
    obtain ⟨rfl, rfl⟩ := hv
    obtain ⟨v5_, M6_, hq, h7_⟩ := zcIM_of h4_
    refine z_callV hX vX9_premiumOf lX9_291 dX9_premium_17 zs_0 rfl (mX9_premiumOf  hq) (by decide) rfl rfl (Nat.le_of_ble_eq_true rfl) 20 rfl (Qi.to (fun v' M' hv => ?_))
    cases hv
    refine z_goto hX dX9_premium_20 24 (by decide) ?_
    exact z_ireturn hX dX9_premium_24 (zend_i h7_)
def gX9_putInOrder_L13 (a0 : Nat) (n0 : Nat) (x2 : Int32) (rc13 : (Int32 × zM) → Option zM) (s : (Int32 × zM)) : Option zM :=
  (if s.1 ≤ 0 then zg (zok s.1 n0) (zlet (zI s.2 a0 (s.1 : Int32).toNatClampNeg x2) (fun M2_ => some M2_))
  else zg (zok (s.1 - 1) n0) ((if (s.2.1 a0 ((s.1 - 1) : Int32).toNatClampNeg) ≤ x2 then zg (zok s.1 n0) (zlet (zI s.2 a0 (s.1 : Int32).toNatClampNeg x2) (fun M6_ => some M6_))
  else zg (zok (s.1 - 1) n0) (zg (zok s.1 n0) (zlet (zI s.2 a0 (s.1 : Int32).toNatClampNeg (s.2.1 a0 ((s.1 - 1) : Int32).toNatClampNeg)) (fun M10_ => rc13 ((s.1 + (-1)), M10_)))))))
set_option maxRecDepth 100000 in
set_option maxHeartbeats 2000000 in
theorem aX9_putInOrder_L13 {G : zG} {X : zX} {a0 : Nat} {n0 : Nat} {x2 : Int32} (hX : zC G X cX9_putInOrder 4 RX9 none 1) (ha0 : zs a0 = .inr (0, n0)) (hn0 : 0 < n0)   {res : zM}  : ∀ (N : Nat) (s : (Int32 × zM)), zfix N (gX9_putInOrder_L13 a0 n0 x2) s = some res → Z G X (zQv res) 13 [some (.ref a0), none, some (.int x2), some (.int s.1)] [] s.2 := by
  intro N
  induction N with
  | zero => intro s h; cases h
  | succ N hrc13 =>
    intro s h
    replace h : gX9_putInOrder_L13 a0 n0 x2 (zfix N (gX9_putInOrder_L13 a0 n0 x2)) s = some res := h
    unfold gX9_putInOrder_L13 at h
    refine z_iload_n hX dX9_putInOrder_13 rfl 14 rfl ?_
    refine z_if_le hX dX9_putInOrder_14 40 17 (by decide) rfl (fun hc => ?_) (fun hc => ?_)
    · rw [if_pos hc] at h
      refine z_aload_n hX dX9_putInOrder_40 rfl 41 rfl ?_
      refine z_iload_n hX dX9_putInOrder_41 rfl 42 rfl ?_
      refine z_iload_n hX dX9_putInOrder_42 rfl 43 rfl ?_
      obtain ⟨hb, h1_⟩ := zgd h
      refine z_iast hX dX9_putInOrder_43 ha0 (zok_in hb) 44 rfl ?_
      refine z_mem h1_ (fun M2_ h3_ => ?_)
      exact z_return hX dX9_putInOrder_44 (zend_v h3_)
    · rw [if_neg hc] at h
      refine z_aload_n hX dX9_putInOrder_17 rfl 18 rfl ?_
      refine z_iload_n hX dX9_putInOrder_18 rfl 19 rfl ?_
      refine z_iconst hX dX9_putInOrder_19 qi_1 20 rfl ?_
      refine z_isub hX dX9_putInOrder_20 21 rfl ?_
      obtain ⟨hb, h4_⟩ := zgd h
      refine z_iald hX dX9_putInOrder_21 ha0 (zok_in hb) 22 rfl ?_
      refine z_iload_n hX dX9_putInOrder_22 rfl 23 rfl ?_
      refine z_icmp_le hX dX9_putInOrder_23 40 26 (by decide) rfl (fun hc => ?_) (fun hc => ?_)
      · rw [if_pos hc] at h4_
        refine z_aload_n hX dX9_putInOrder_40 rfl 41 rfl ?_
        refine z_iload_n hX dX9_putInOrder_41 rfl 42 rfl ?_
        refine z_iload_n hX dX9_putInOrder_42 rfl 43 rfl ?_
        obtain ⟨hb, h5_⟩ := zgd h4_
        refine z_iast hX dX9_putInOrder_43 ha0 (zok_in hb) 44 rfl ?_
        refine z_mem h5_ (fun M6_ h7_ => ?_)
        exact z_return hX dX9_putInOrder_44 (zend_v h7_)
      · rw [if_neg hc] at h4_
        refine z_aload_n hX dX9_putInOrder_26 rfl 27 rfl ?_
        refine z_iload_n hX dX9_putInOrder_27 rfl 28 rfl ?_
        refine z_aload_n hX dX9_putInOrder_28 rfl 29 rfl ?_
        refine z_iload_n hX dX9_putInOrder_29 rfl 30 rfl ?_
        refine z_iconst hX dX9_putInOrder_30 qi_1 31 rfl ?_
        refine z_isub hX dX9_putInOrder_31 32 rfl ?_
        obtain ⟨hb, h8_⟩ := zgd h4_
        refine z_iald hX dX9_putInOrder_32 ha0 (zok_in hb) 33 rfl ?_
        obtain ⟨hb, h9_⟩ := zgd h8_
        refine z_iast hX dX9_putInOrder_33 ha0 (zok_in hb) 34 rfl ?_
        refine z_mem h9_ (fun M10_ h11_ => ?_)
        refine z_iinc (v := (s.1 + (-1))) hX dX9_putInOrder_34 rfl (by rfl) (by decide) 37 rfl ?_
        refine z_goto hX dX9_putInOrder_37 13 (by decide) ?_
        refine z_mask [true, false, true, true] ?_
        have hz := hrc13 _ h11_
        exact hz
def gX9_putInOrder (a0 : Nat) (n0 : Nat) (x1 : Int32) (x2 : Int32) (M : zM) : Option zM :=
  (if x1 < 0 then some M
  else (if x1 < (Int32.ofNat n0) then zfix zFu (gX9_putInOrder_L13 a0 n0 x2) (x1, M)
  else some M))
set_option maxRecDepth 100000 in
set_option maxHeartbeats 2000000 in
theorem mX9_putInOrder {G : zG} {a0 : Nat} {n0 : Nat} {x1 : Int32} {x2 : Int32} {M : zM} (ha0 : zs a0 = .inr (0, n0)) (hn0 : 0 < n0) {res : zM} (h : gX9_putInOrder a0 n0 x1 x2 M = some res) : Ct G 1 tX9_putInOrder [.ref a0, .int x1, .int x2] M (zQv res) := by
  unfold gX9_putInOrder at h
  refine Ct.of (y := yX9_putInOrder) rfl plX9 (Nat.le_of_ble_eq_true rfl) (fun X hX => ?_)
  replace hX : zC G X cX9_putInOrder 4 RX9 none 1 := hX
  show Z G X _ 0 [some (.ref a0), some (.int x1), some (.int x2), none] [] M
  refine z_iload_n hX dX9_putInOrder_0 rfl 1 rfl ?_
  refine z_if_lt hX dX9_putInOrder_1 10 4 (by decide) rfl (fun hc => ?_) (fun hc => ?_)
  · rw [if_pos hc] at h
    exact z_return hX dX9_putInOrder_10 (zend_v h)
  · rw [if_neg hc] at h
    refine z_iload_n hX dX9_putInOrder_4 rfl 5 rfl ?_
    refine z_aload_n hX dX9_putInOrder_5 rfl 6 rfl ?_
    refine z_alen (v := (Int32.ofNat n0)) hX dX9_putInOrder_6 ha0 hn0 (by decide) rfl 7 rfl ?_
    refine z_icmp_lt hX dX9_putInOrder_7 11 10 (by decide) rfl (fun hc => ?_) (fun hc => ?_)
    · rw [if_pos hc] at h
      refine z_iload_n hX dX9_putInOrder_11 rfl 12 rfl ?_
      refine z_istore_n hX dX9_putInOrder_12 (by decide) 13 rfl ?_
      refine z_mask [true, false, true, true] ?_
      have hz := aX9_putInOrder_L13 hX ha0 hn0 _ _ h
      exact hz
    · rw [if_neg hc] at h
      exact z_return hX dX9_putInOrder_10 (zend_v h)
def gX9_sortPremiums_J52 (x1 : Int32) (x2 : Int32) (x3 : Int32) (y0 : Int32) (rc12 : (Int32 × Int32 × zM) → Option (Int32 × zM)) (M : zM) : Option (Int32 × zM) :=
  (if y0 < 0 then rc12 (x2, (x3 + 1), M)
  else zcV (gX9_putInOrder 4 6 x2 y0 M) (fun M9_ => rc12 ((x2 + 1), (x3 + 1), M9_)))
set_option maxRecDepth 100000 in
set_option maxHeartbeats 2000000 in
theorem aX9_sortPremiums_J52 {G : zG} {X : zX} {x1 : Int32} {x2 : Int32} {x3 : Int32} {y0 : Int32} (hX : zC G X cX9_sortPremiums 5 RX9 (some .int) 5)  {rc12 : (Int32 × Int32 × zM) → Option (Int32 × zM)} {M : zM} {res : (Int32 × zM)} (hrc12 : ∀ s : (Int32 × Int32 × zM), rc12 s = some res → Z G X (zQi res) 12 [some (.ref 0), some (.int x1), some (.int s.1), some (.int s.2.1), none] [] s.2.2) (h : gX9_sortPremiums_J52 x1 x2 x3 y0 rc12 M = some res) : Z G X (zQi res) 52 [some (.ref 0), some (.int x1), some (.int x2), some (.int x3), none] [.int y0] M := by
  unfold gX9_sortPremiums_J52 at h
  refine z_istore hX dX9_sortPremiums_52 (by decide) 54 rfl ?_
  refine z_iload hX dX9_sortPremiums_54 rfl 56 rfl ?_
  refine z_if_lt hX dX9_sortPremiums_56 72 59 (by decide) rfl (fun hc => ?_) (fun hc => ?_)
  · rw [if_pos hc] at h
    refine z_iinc (v := (x3 + 1)) hX dX9_sortPremiums_72 rfl (by rfl) (by decide) 75 rfl ?_
    refine z_goto hX dX9_sortPremiums_75 12 (by decide) ?_
    refine z_mask [true, true, true, true, false] ?_
    have hz := hrc12 _ h
    exact hz
  · rw [if_neg hc] at h
    refine z_aload_n hX dX9_sortPremiums_59 rfl 60 rfl ?_
    refine z_getF hX fX9_79 dX9_sortPremiums_60 zs_0 (by decide) rfl 63 rfl ?_
    refine z_iload_n hX dX9_sortPremiums_63 rfl 64 rfl ?_
    refine z_iload hX dX9_sortPremiums_64 rfl 66 rfl ?_
    obtain ⟨M9_, hq, h10_⟩ := zcV_of h
    refine z_callS hX vX9_putInOrder rfl lX9_301 dX9_sortPremiums_66 (mX9_putInOrder zs_4 (by decide) hq) (by decide) rfl rfl (Nat.le_of_ble_eq_true rfl) 69 rfl (Qv.to (fun M' hv => ?_))
    subst hv
    refine z_iinc (v := (x2 + 1)) hX dX9_sortPremiums_69 rfl (by rfl) (by decide) 72 rfl ?_
    refine z_iinc (v := (x3 + 1)) hX dX9_sortPremiums_72 rfl (by rfl) (by decide) 75 rfl ?_
    refine z_goto hX dX9_sortPremiums_75 12 (by decide) ?_
    refine z_mask [true, true, true, true, false] ?_
    have hz := hrc12 _ h10_
    exact hz
def gX9_sortPremiums_L12 (x1 : Int32) (rc12 : (Int32 × Int32 × zM) → Option (Int32 × zM)) (s : (Int32 × Int32 × zM)) : Option (Int32 × zM) :=
  zgP (s.2.2.2.2 0 2) (fun p3_ => (if (s.2.2.1 p3_ 0) ≤ s.2.1 then some (s.1, s.2.2)
  else (if 6 ≤ s.2.1 then some (s.1, s.2.2)
  else zg (zok s.2.1 6) ((if (s.2.2.1 62 (s.2.1 : Int32).toNatClampNeg) = 0 then zcIM (gX9_premiumOf s.2.1 x1 s.2.2) (fun v6_ M7_ => gX9_sortPremiums_J52 x1 s.1 s.2.1 v6_ rc12 M7_)
  else gX9_sortPremiums_J52 x1 s.1 s.2.1 (-2) rc12 s.2.2)))))
set_option maxRecDepth 100000 in
set_option maxHeartbeats 2000000 in
theorem aX9_sortPremiums_L12 {G : zG} {X : zX} {x1 : Int32} (hX : zC G X cX9_sortPremiums 5 RX9 (some .int) 5)    {res : (Int32 × zM)}  : ∀ (N : Nat) (s : (Int32 × Int32 × zM)), zfix N (gX9_sortPremiums_L12 x1) s = some res → Z G X (zQi res) 12 [some (.ref 0), some (.int x1), some (.int s.1), some (.int s.2.1), none] [] s.2.2 := by
  intro N
  induction N with
  | zero => intro s h; cases h
  | succ N hrc12 =>
    intro s h
    replace h : gX9_sortPremiums_L12 x1 (zfix N (gX9_sortPremiums_L12 x1)) s = some res := h
    unfold gX9_sortPremiums_L12 at h
    refine z_iload_n hX dX9_sortPremiums_12 rfl 13 rfl ?_
    refine z_aload_n hX dX9_sortPremiums_13 rfl 14 rfl ?_
    obtain ⟨p3_, hm, hp3_, h4_⟩ := zgP_of h
    refine z_getR hX fX9_18 dX9_sortPremiums_14 zs_0 (by decide) rfl hm 17 rfl ?_
    refine z_getI hX fX9_116 dX9_sortPremiums_17 (zsP0 hp3_) (by decide) rfl 20 rfl ?_
    refine z_icmp_ge hX dX9_sortPremiums_20 78 23 (by decide) rfl (fun hc => ?_) (fun hc => ?_)
    · rw [if_pos hc] at h4_
      refine z_iload_n hX dX9_sortPremiums_78 rfl 79 rfl ?_
      exact z_ireturn hX dX9_sortPremiums_79 (zend_i h4_)
    · rw [if_neg hc] at h4_
      refine z_iload_n hX dX9_sortPremiums_23 rfl 24 rfl ?_
      refine z_bipush hX dX9_sortPremiums_24 qb_6 26 rfl ?_
      refine z_icmp_ge hX dX9_sortPremiums_26 78 29 (by decide) rfl (fun hc => ?_) (fun hc => ?_)
      · rw [if_pos hc] at h4_
        refine z_iload_n hX dX9_sortPremiums_78 rfl 79 rfl ?_
        exact z_ireturn hX dX9_sortPremiums_79 (zend_i h4_)
      · rw [if_neg hc] at h4_
        refine z_aload_n hX dX9_sortPremiums_29 rfl 30 rfl ?_
        refine z_getF hX fX9_41 dX9_sortPremiums_30 zs_0 (by decide) rfl 33 rfl ?_
        refine z_getF hX fX9_165 dX9_sortPremiums_33 zs_55 (by decide) rfl 36 rfl ?_
        refine z_iload_n hX dX9_sortPremiums_36 rfl 37 rfl ?_
        obtain ⟨hb, h5_⟩ := zgd h4_
        refine z_zald hX dX9_sortPremiums_37 zs_62 (zok_in hb) 38 rfl ?_
        refine z_if_eq hX dX9_sortPremiums_38 46 41 (by decide) rfl (fun hc => ?_) (fun hc => ?_)
        · rw [if_pos hc] at h5_
          refine z_aload_n hX dX9_sortPremiums_46 rfl 47 rfl ?_
          refine z_iload_n hX dX9_sortPremiums_47 rfl 48 rfl ?_
          refine z_iload_n hX dX9_sortPremiums_48 rfl 49 rfl ?_
          obtain ⟨v6_, M7_, hq, h8_⟩ := zcIM_of h5_
          refine z_callV hX vX9_premiumOf lX9_291 dX9_sortPremiums_49 zs_0 rfl (mX9_premiumOf  hq) (by decide) rfl rfl (Nat.le_of_ble_eq_true rfl) 52 rfl (Qi.to (fun v' M' hv => ?_))
          cases hv
          refine z_mask [true, true, true, true, false] ?_
          have hz := aX9_sortPremiums_J52 hX hrc12 h8_
          exact hz
        · rw [if_neg hc] at h5_
          refine z_bipush hX dX9_sortPremiums_41 qb_m2 43 rfl ?_
          refine z_goto hX dX9_sortPremiums_43 52 (by decide) ?_
          refine z_mask [true, true, true, true, false] ?_
          have hz := aX9_sortPremiums_J52 hX hrc12 h5_
          exact hz
def gX9_sortPremiums (M : zM) : Option (Int32 × zM) :=
  zcI (gX8_freeThing 55 M) (fun v1_ => zfix zFu (gX9_sortPremiums_L12 v1_) (0, 0, M))
set_option maxRecDepth 100000 in
set_option maxHeartbeats 2000000 in
theorem mX9_sortPremiums {G : zG}  {M : zM}  {res : (Int32 × zM)} (h : gX9_sortPremiums M = some res) : Ct G 5 tX9_sortPremiums [.ref 0] M (zQi res) := by
  unfold gX9_sortPremiums at h
  refine Ct.of (y := yX9_sortPremiums) rfl plX9 (Nat.le_of_ble_eq_true rfl) (fun X hX => ?_)
  replace hX : zC G X cX9_sortPremiums 5 RX9 (some .int) 5 := hX
  show Z G X _ 0 [some (.ref 0), none, none, none, none] [] M
  refine z_aload_n hX dX9_sortPremiums_0 rfl 1 rfl ?_
  refine z_getF hX fX9_41 dX9_sortPremiums_1 zs_0 (by decide) rfl 4 rfl ?_
  obtain ⟨v1_, hq, h2_⟩ := zcI_of h
  refine z_callV hX vX8_freeThing lX9_194 dX9_sortPremiums_4 zs_55 rfl (mX8_freeThing isW_55 hq) (by decide) rfl rfl (Nat.le_of_ble_eq_true rfl) 7 rfl (Qi.to (fun v' M' hv => ?_))
  obtain ⟨rfl, rfl⟩ := hv
  refine z_istore_n hX dX9_sortPremiums_7 (by decide) 8 rfl ?_
  refine z_iconst hX dX9_sortPremiums_8 qi_0 9 rfl ?_
  refine z_istore_n hX dX9_sortPremiums_9 (by decide) 10 rfl ?_
  refine z_iconst hX dX9_sortPremiums_10 qi_0 11 rfl ?_
  refine z_istore_n hX dX9_sortPremiums_11 (by decide) 12 rfl ?_
  refine z_mask [true, true, true, true, false] ?_
  have hz := aX9_sortPremiums_L12 hX _ _ h2_
  exact hz
