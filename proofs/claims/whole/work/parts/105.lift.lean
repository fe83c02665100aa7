def gX9_undoToMan (x1 : Int32) (x2 : Int32) (x3 : Int32) (M : zM) : Option zM :=
  (if x1 = 0 then zlet (zI M 55 12 ((M.1 55 12) + x3)) (fun M10_ => zg (zok x2 6) (zg (zok x2 6) (zlet (zI M10_ 58 (x2 : Int32).toNatClampNeg ((M10_.1 58 (x2 : Int32).toNatClampNeg) - x3)) (fun M14_ => some M14_))))
  else (if x1 = 2 then zg (zok x2 6) ((if (M.1 62 (x2 : Int32).toNatClampNeg) = 0 then zg (zok x2 6) (zlet (zI M 62 (x2 : Int32).toNatClampNeg (vp_nar .boolean 1)) (fun M8_ => some M8_))
  else zg (zok x2 6) (zlet (zI M 62 (x2 : Int32).toNatClampNeg (vp_nar .boolean 0)) (fun M5_ => some M5_))))
  else zcV (gX8_changePlaces 55 x2 x3 M) (fun M1_ => some M1_)))
set_option maxRecDepth 100000 in
set_option maxHeartbeats 2000000 in
theorem mX9_undoToMan {G : zG} {x1 : Int32} {x2 : Int32} {x3 : Int32} {M : zM}  {res : zM} (h : gX9_undoToMan x1 x2 x3 M = some res) : Ct G 4 tX9_undoToMan [.ref 0, .int x1, .int x2, .int x3] M (zQv res) := by
  unfold gX9_undoToMan at h
  refine Ct.of (y := yX9_undoToMan) rfl plX9 (Nat.le_of_ble_eq_true rfl) (fun X hX => ?_)
  replace hX : zC G X cX9_undoToMan 4 RX9 none 4 := hX
  show Z G X _ 0 [some (.ref 0), some (.int x1), some (.int x2), some (.int x3)] [] M
  refine z_iload_n hX dX9_undoToMan_0 rfl 1 rfl ?_
  refine z_if_ne hX dX9_undoToMan_1 33 4 (by decide) rfl (fun hc => ?_) (fun hc => ?_)
  · rw [if_neg hc] at h
    refine z_iload_n hX dX9_undoToMan_33 rfl 34 rfl ?_
    refine z_iconst hX dX9_undoToMan_34 qi_2 35 rfl ?_
    refine z_icmp_ne hX dX9_undoToMan_35 67 38 (by decide) rfl (fun hc => ?_) (fun hc => ?_)
    · rw [if_neg hc] at h
      refine z_aload_n hX dX9_undoToMan_67 rfl 68 rfl ?_
      refine z_getF hX fX9_41 dX9_undoToMan_68 zs_0 (by decide) rfl 71 rfl ?_
      refine z_iload_n hX dX9_undoToMan_71 rfl 72 rfl ?_
      refine z_iload_n hX dX9_undoToMan_72 rfl 73 rfl ?_
      obtain ⟨M1_, hq, h2_⟩ := zcV_of h
      refine z_callV hX vX8_changePlaces lX9_247 dX9_undoToMan_73 zs_55 rfl (mX8_changePlaces isW_55 hq) (by decide) rfl rfl (Nat.le_of_ble_eq_true rfl) 76 rfl (Qv.to (fun M' hv => ?_))
      subst hv
      exact z_return hX dX9_undoToMan_76 (zend_v h2_)
    · rw [if_pos hc] at h
      refine z_aload_n hX dX9_undoToMan_38 rfl 39 rfl ?_
      refine z_getF hX fX9_41 dX9_undoToMan_39 zs_0 (by decide) rfl 42 rfl ?_
      refine z_getF hX fX9_165 dX9_undoToMan_42 zs_55 (by decide) rfl 45 rfl ?_
      refine z_iload_n hX dX9_undoToMan_45 rfl 46 rfl ?_
      refine z_aload_n hX dX9_undoToMan_46 rfl 47 rfl ?_
      refine z_getF hX fX9_41 dX9_undoToMan_47 zs_0 (by decide) rfl 50 rfl ?_
      refine z_getF hX fX9_165 dX9_undoToMan_50 zs_55 (by decide) rfl 53 rfl ?_
      refine z_iload_n hX dX9_undoToMan_53 rfl 54 rfl ?_
      obtain ⟨hb, h3_⟩ := zgd h
      refine z_zald hX dX9_undoToMan_54 zs_62 (zok_in hb) 55 rfl ?_
      refine z_if_ne hX dX9_undoToMan_55 62 58 (by decide) rfl (fun hc => ?_) (fun hc => ?_)
      · rw [if_neg hc] at h3_
        refine z_iconst hX dX9_undoToMan_62 qi_0 63 rfl ?_
        obtain ⟨hb, h4_⟩ := zgd h3_
        refine z_zast hX dX9_undoToMan_63 zs_62 (zok_in hb) 64 rfl ?_
        refine z_mem h4_ (fun M5_ h6_ => ?_)
        refine z_goto hX dX9_undoToMan_64 76 (by decide) ?_
        exact z_return hX dX9_undoToMan_76 (zend_v h6_)
      · rw [if_pos hc] at h3_
        refine z_iconst hX dX9_undoToMan_58 qi_1 59 rfl ?_
        refine z_goto hX dX9_undoToMan_59 63 (by decide) ?_
        obtain ⟨hb, h7_⟩ := zgd h3_
        refine z_zast hX dX9_undoToMan_63 zs_62 (zok_in hb) 64 rfl ?_
        refine z_mem h7_ (fun M8_ h9_ => ?_)
        refine z_goto hX dX9_undoToMan_64 76 (by decide) ?_
        exact z_return hX dX9_undoToMan_76 (zend_v h9_)
  · rw [if_pos hc] at h
    refine z_aload_n hX dX9_undoToMan_4 rfl 5 rfl ?_
    refine z_getF hX fX9_41 dX9_undoToMan_5 zs_0 (by decide) rfl 8 rfl ?_
    refine z_dup hX dX9_undoToMan_8 rfl 9 rfl ?_
    refine z_getI hX fX9_227 dX9_undoToMan_9 zs_55 (by decide) rfl 12 rfl ?_
    refine z_iload_n hX dX9_undoToMan_12 rfl 13 rfl ?_
    refine z_iadd hX dX9_undoToMan_13 14 rfl ?_
    refine z_putI hX pX9_227 dX9_undoToMan_14 zs_55 (by decide) rfl 17 rfl ?_
    refine z_mem h (fun M10_ h11_ => ?_)
    refine z_aload_n hX dX9_undoToMan_17 rfl 18 rfl ?_
    refine z_getF hX fX9_41 dX9_undoToMan_18 zs_0 (by decide) rfl 21 rfl ?_
    refine z_getF hX fX9_149 dX9_undoToMan_21 zs_55 (by decide) rfl 24 rfl ?_
    refine z_iload_n hX dX9_undoToMan_24 rfl 25 rfl ?_
    refine z_dup2 hX dX9_undoToMan_25 rfl rfl 26 rfl ?_
    obtain ⟨hb, h12_⟩ := zgd h11_
    refine z_iald hX dX9_undoToMan_26 zs_58 (zok_in hb) 27 rfl ?_
    refine z_iload_n hX dX9_undoToMan_27 rfl 28 rfl ?_
    refine z_isub hX dX9_undoToMan_28 29 rfl ?_
    obtain ⟨hb, h13_⟩ := zgd h12_
    refine z_iast hX dX9_undoToMan_29 zs_58 (zok_in hb) 30 rfl ?_
    refine z_mem h13_ (fun M14_ h15_ => ?_)
    refine z_goto hX dX9_undoToMan_30 76 (by decide) ?_
    exact z_return hX dX9_undoToMan_76 (zend_v h15_)
def gX9_undoWetting (x1 : Int32) (x2 : Int32) (M : zM) : Option zM :=
  zcI (gX9_isThing x1 M) (fun v1_ => (if v1_ = 0 then some M
  else zg (zok x1 8) (zlet (zI M 64 (x1 : Int32).toNatClampNeg x2) (fun M4_ => some M4_))))
set_option maxRecDepth 100000 in
set_option maxHeartbeats 2000000 in
theorem mX9_undoWetting {G : zG} {x1 : Int32} {x2 : Int32} {M : zM}  {res : zM} (h : gX9_undoWetting x1 x2 M = some res) : Ct G 2 tX9_undoWetting [.ref 0, .int x1, .int x2] M (zQv res) := by
  unfold gX9_undoWetting at h
  refine Ct.of (y := yX9_undoWetting) rfl plX9 (Nat.le_of_ble_eq_true rfl) (fun X hX => ?_)
  replace hX : zC G X cX9_undoWetting 3 RX9 none 2 := hX
  show Z G X _ 0 [some (.ref 0), some (.int x1), some (.int x2)] [] M
  refine z_aload_n hX dX9_undoWetting_0 rfl 1 rfl ?_
  refine z_iload_n hX dX9_undoWetting_1 rfl 2 rfl ?_
  obtain ⟨v1_, hq, h2_⟩ := zcI_of h
  refine z_callV hX vX9_isThing lX9_174 dX9_undoWetting_2 zs_0 rfl (mX9_isThing  hq) (by decide) rfl rfl (Nat.le_of_ble_eq_true rfl) 5 rfl (Qi.to (fun v' M' hv => ?_))
  obtain ⟨rfl, rfl⟩ := hv
  refine z_if_eq hX dX9_undoWetting_5 18 8 (by decide) rfl (fun hc => ?_) (fun hc => ?_)
  · rw [if_pos hc] at h2_
    exact z_return hX dX9_undoWetting_18 (zend_v h2_)
  · rw [if_neg hc] at h2_
    refine z_aload_n hX dX9_undoWetting_8 rfl 9 rfl ?_
    refine z_getF hX fX9_41 dX9_undoWetting_9 zs_0 (by decide) rfl 12 rfl ?_
    refine z_getF hX fX9_183 dX9_undoWetting_12 zs_55 (by decide) rfl 15 rfl ?_
    refine z_iload_n hX dX9_undoWetting_15 rfl 16 rfl ?_
    refine z_iload_n hX dX9_undoWetting_16 rfl 17 rfl ?_
    obtain ⟨hb, h3_⟩ := zgd h2_
    refine z_iast hX dX9_undoWetting_17 zs_64 (zok_in hb) 18 rfl ?_
    refine z_mem h3_ (fun M4_ h5_ => ?_)
    exact z_return hX dX9_undoWetting_18 (zend_v h5_)
def gX9_undo (M : zM) : Option (Int32 × zM) :=
  (if (M.1 85 0) < 1 then some ((-1), M)
  else (if (M.1 85 0) ≤ 20 then zlet (zI M 85 0 ((M.1 85 0) - 1)) (fun M1_ => zg (zok (M1_.1 85 0) 20) (zlet ((M1_.1 86 ((M1_.1 85 0) : Int32).toNatClampNeg)) (fun x4_ => zg (zok (M1_.1 85 0) 20) (zlet ((M1_.1 87 ((M1_.1 85 0) : Int32).toNatClampNeg)) (fun x7_ => zg (zok (M1_.1 85 0) 20) (zlet ((M1_.1 88 ((M1_.1 85 0) : Int32).toNatClampNeg)) (fun x10_ => (if x4_ = 3 then zcV (gX9_undoWetting x7_ x10_ M1_) (fun M16_ => some ((M16_.1 85 0), M16_))
  else zcI (gX9_isMan x7_ M1_) (fun v12_ => (if v12_ = 0 then some ((M1_.1 85 0), M1_)
  else zcV (gX9_undoToMan x4_ x7_ x10_ M1_) (fun M14_ => some ((M14_.1 85 0), M14_))))))))))))
  else some ((-1), M)))
set_option maxRecDepth 100000 in
set_option maxHeartbeats 2000000 in
theorem mX9_undo {G : zG}  {M : zM}  {res : (Int32 × zM)} (h : gX9_undo M = some res) : Ct G 5 tX9_undo [.ref 0] M (zQi res) := by
  unfold gX9_undo at h
  refine Ct.of (y := yX9_undo) rfl plX9 (Nat.le_of_ble_eq_true rfl) (fun X hX => ?_)
  replace hX : zC G X cX9_undo 4 RX9 (some .int) 5 := hX
  show Z G X _ 0 [some (.ref 0), none, none, none] [] M
  refine z_aload_n hX dX9_undo_0 rfl 1 rfl ?_
  refine z_getF hX fX9_54 dX9_undo_1 zs_0 (by decide) rfl 4 rfl ?_
  refine z_getI hX fX9_107 dX9_undo_4 zs_85 (by decide) rfl 7 rfl ?_
  refine z_iconst hX dX9_undo_7 qi_1 8 rfl ?_
  refine z_icmp_lt hX dX9_undo_8 23 11 (by decide) rfl (fun hc => ?_) (fun hc => ?_)
  · rw [if_pos hc] at h
    refine z_iconst hX dX9_undo_23 qi_m1 24 rfl ?_
    exact z_ireturn hX dX9_undo_24 (zend_i h)
  · rw [if_neg hc] at h
    refine z_aload_n hX dX9_undo_11 rfl 12 rfl ?_
    refine z_getF hX fX9_54 dX9_undo_12 zs_0 (by decide) rfl 15 rfl ?_
    refine z_getI hX fX9_107 dX9_undo_15 zs_85 (by decide) rfl 18 rfl ?_
    refine z_bipush hX dX9_undo_18 qb_20 20 rfl ?_
    refine z_icmp_le hX dX9_undo_20 25 23 (by decide) rfl (fun hc => ?_) (fun hc => ?_)
    · rw [if_pos hc] at h
      refine z_aload_n hX dX9_undo_25 rfl 26 rfl ?_
      refine z_getF hX fX9_54 dX9_undo_26 zs_0 (by decide) rfl 29 rfl ?_
      refine z_dup hX dX9_undo_29 rfl 30 rfl ?_
      refine z_getI hX fX9_107 dX9_undo_30 zs_85 (by decide) rfl 33 rfl ?_
      refine z_iconst hX dX9_undo_33 qi_1 34 rfl ?_
      refine z_isub hX dX9_undo_34 35 rfl ?_
      refine z_putI hX pX9_107 dX9_undo_35 zs_85 (by decide) rfl 38 rfl ?_
      refine z_mem h (fun M1_ h2_ => ?_)
      refine z_aload_n hX dX9_undo_38 rfl 39 rfl ?_
      refine z_getF hX fX9_54 dX9_undo_39 zs_0 (by decide) rfl 42 rfl ?_
      refine z_getF hX fX9_256 dX9_undo_42 zs_85 (by decide) rfl 45 rfl ?_
      refine z_aload_n hX dX9_undo_45 rfl 46 rfl ?_
      refine z_getF hX fX9_54 dX9_undo_46 zs_0 (by decide) rfl 49 rfl ?_
      refine z_getI hX fX9_107 dX9_undo_49 zs_85 (by decide) rfl 52 rfl ?_
      obtain ⟨hb, h3_⟩ := zgd h2_
      refine z_iald hX dX9_undo_52 zs_86 (zok_in hb) 53 rfl ?_
      refine z_topi h3_ (fun x4_ h5_ => ?_)
      refine z_istore_n hX dX9_undo_53 (by decide) 54 rfl ?_
      refine z_aload_n hX dX9_undo_54 rfl 55 rfl ?_
      refine z_getF hX fX9_54 dX9_undo_55 zs_0 (by decide) rfl 58 rfl ?_
      refine z_getF hX fX9_259 dX9_undo_58 zs_85 (by decide) rfl 61 rfl ?_
      refine z_aload_n hX dX9_undo_61 rfl 62 rfl ?_
      refine z_getF hX fX9_54 dX9_undo_62 zs_0 (by decide) rfl 65 rfl ?_
      refine z_getI hX fX9_107 dX9_undo_65 zs_85 (by decide) rfl 68 rfl ?_
      obtain ⟨hb, h6_⟩ := zgd h5_
      refine z_iald hX dX9_undo_68 zs_87 (zok_in hb) 69 rfl ?_
      refine z_topi h6_ (fun x7_ h8_ => ?_)
      refine z_istore_n hX dX9_undo_69 (by decide) 70 rfl ?_
      refine z_aload_n hX dX9_undo_70 rfl 71 rfl ?_
      refine z_getF hX fX9_54 dX9_undo_71 zs_0 (by decide) rfl 74 rfl ?_
      refine z_getF hX fX9_262 dX9_undo_74 zs_85 (by decide) rfl 77 rfl ?_
      refine z_aload_n hX dX9_undo_77 rfl 78 rfl ?_
      refine z_getF hX fX9_54 dX9_undo_78 zs_0 (by decide) rfl 81 rfl ?_
      refine z_getI hX fX9_107 dX9_undo_81 zs_85 (by decide) rfl 84 rfl ?_
      obtain ⟨hb, h9_⟩ := zgd h8_
      refine z_iald hX dX9_undo_84 zs_88 (zok_in hb) 85 rfl ?_
      refine z_topi h9_ (fun x10_ h11_ => ?_)
      refine z_istore_n hX dX9_undo_85 (by decide) 86 rfl ?_
      refine z_iload_n hX dX9_undo_86 rfl 87 rfl ?_
      refine z_iconst hX dX9_undo_87 qi_3 88 rfl ?_
      refine z_icmp_ne hX dX9_undo_88 100 91 (by decide) rfl (fun hc => ?_) (fun hc => ?_)
      · rw [if_neg hc] at h11_
        refine z_aload_n hX dX9_undo_100 rfl 101 rfl ?_
        refine z_iload_n hX dX9_undo_101 rfl 102 rfl ?_
        obtain ⟨v12_, hq, h13_⟩ := zcI_of h11_
        refine z_callV hX vX9_isMan lX9_129 dX9_undo_102 zs_0 rfl (mX9_isMan  hq) (by decide) rfl rfl (Nat.le_of_ble_eq_true rfl) 105 rfl (Qi.to (fun v' M' hv => ?_))
        obtain ⟨rfl, rfl⟩ := hv
        refine z_if_eq hX dX9_undo_105 115 108 (by decide) rfl (fun hc => ?_) (fun hc => ?_)
        · rw [if_pos hc] at h13_
          refine z_aload_n hX dX9_undo_115 rfl 116 rfl ?_
          refine z_getF hX fX9_54 dX9_undo_116 zs_0 (by decide) rfl 119 rfl ?_
          refine z_getI hX fX9_107 dX9_undo_119 zs_85 (by decide) rfl 122 rfl ?_
          exact z_ireturn hX dX9_undo_122 (zend_i h13_)
        · rw [if_neg hc] at h13_
          refine z_aload_n hX dX9_undo_108 rfl 109 rfl ?_
          refine z_iload_n hX dX9_undo_109 rfl 110 rfl ?_
          refine z_iload_n hX dX9_undo_110 rfl 111 rfl ?_
          refine z_iload_n hX dX9_undo_111 rfl 112 rfl ?_
          obtain ⟨M14_, hq, h15_⟩ := zcV_of h13_
          refine z_callV hX vX9_undoToMan lX9_268 dX9_undo_112 zs_0 rfl (mX9_undoToMan  hq) (by decide) rfl rfl (Nat.le_of_ble_eq_true rfl) 115 rfl (Qv.to (fun M' hv => ?_))
          subst hv
          refine z_aload_n hX dX9_undo_115 rfl 116 rfl ?_
          refine z_getF hX fX9_54 dX9_undo_116 zs_0 (by decide) rfl 119 rfl ?_
          refine z_getI hX fX9_107 dX9_undo_119 zs_85 (by decide) rfl 122 rfl ?_
          exact z_ireturn hX dX9_undo_122 (zend_i h15_)
      · rw [if_pos hc] at h11_
        refine z_aload_n hX dX9_undo_91 rfl 92 rfl ?_
        refine z_iload_n hX dX9_undo_92 rfl 93 rfl ?_
        refine z_iload_n hX dX9_undo_93 rfl 94 rfl ?_
        obtain ⟨M16_, hq, h17_⟩ := zcV_of h11_
        refine z_callV hX vX9_undoWetting lX9_265 dX9_undo_94 zs_0 rfl (mX9_undoWetting  hq) (by decide) rfl rfl (Nat.le_of_ble_eq_true rfl) 97 rfl (Qv.to (fun M' hv => ?_))
        subst hv
        refine z_goto hX dX9_undo_97 115 (by decide) ?_
        refine z_aload_n hX dX9_undo_115 rfl 116 rfl ?_
        refine z_getF hX fX9_54 dX9_undo_116 zs_0 (by decide) rfl 119 rfl ?_
        refine z_getI hX fX9_107 dX9_undo_119 zs_85 (by decide) rfl 122 rfl ?_
        exact z_ireturn hX dX9_undo_122 (zend_i h17_)
    · rw [if_neg hc] at h
      refine z_iconst hX dX9_undo_23 qi_m1 24 rfl ?_
      exact z_ireturn hX dX9_undo_24 (zend_i h)
def gX8_comesTrue_J14 (w : Nat) (z1 : Int64) (M : zM) : Option (Int32 × zM) :=
  (if (lg_cmp z1 100) < 0 then some (0, M)
  else some (1, M))
set_option maxRecDepth 100000 in
set_option maxHeartbeats 2000000 in
theorem aX8_comesTrue_J14 {G : zG} {X : zX} {w : Nat} {z1 : Int64} (hX : zC G X cX8_comesTrue 4 RX8 (some .boolean) 1) (hw : isW w)  {M : zM} {res : (Int32 × zM)}  (h : gX8_comesTrue_J14 w z1 M = some res) : Z G X (zQi res) 14 [none, some (.long z1), none, none] [] M := by
  unfold gX8_comesTrue_J14 at h
  refine z_lload_n hX dX8_comesTrue_14 rfl 15 rfl ?_
  refine z_ldc2 hX dX8_comesTrue_15 kX8_199 18 rfl ?_
  refine z_lcmp hX dX8_comesTrue_18 19 rfl ?_
  refine z_if_lt hX dX8_comesTrue_19 26 22 (by decide) rfl (fun hc => ?_) (fun hc => ?_)
  · rw [if_pos hc] at h
    refine z_iconst hX dX8_comesTrue_26 qi_0 27 rfl ?_
    exact z_zreturn hX dX8_comesTrue_27 (by decide) (zend_i h)
  · rw [if_neg hc] at h
    refine z_iconst hX dX8_comesTrue_22 qi_1 23 rfl ?_
    refine z_goto hX dX8_comesTrue_23 27 (by decide) ?_
    exact z_zreturn hX dX8_comesTrue_27 (by decide) (zend_i h)
def gX8_comesTrue (w : Nat) (z1 : Int64) (x3 : Int32) (M : zM) : Option (Int32 × zM) :=
  (if (lg_cmp z1 0) ≤ 0 then gX8_comesTrue_J14 w z1 M
  else (if (lg_cmp z1 100) < 0 then (if (x3 &&& 1) = 0 then (if (lg_cmp z1 50) < 0 then some (0, M)
  else some (1, M))
  else zlet (zI M w 14 ((((M.1 w 14) * 1103515245) + 12345) &&& 2147483647)) (fun M1_ => (if 0 ≤ (lg_cmp ((((((M1_.1 w 14) : Int32) >>> ((16 : Int32) &&& 31)) - (((M1_.1 w 14) : Int32) >>> ((16 : Int32) &&& 31)) / 100 * 100) : Int32).toInt64) z1) then some (0, M1_)
  else some (1, M1_))))
  else gX8_comesTrue_J14 w z1 M))
set_option maxRecDepth 100000 in
set_option maxHeartbeats 2000000 in
theorem mX8_comesTrue {G : zG} {w : Nat} {z1 : Int64} {x3 : Int32} {M : zM} (hw : isW w) {res : (Int32 × zM)} (h : gX8_comesTrue w z1 x3 M = some res) : Ct G 1 tX8_comesTrue [.ref w, .long z1, .int x3] M (zQi res) := by
  unfold gX8_comesTrue at h
  refine Ct.of (y := yX8_comesTrue) rfl plX8 (Nat.le_of_ble_eq_true rfl) (fun X hX => ?_)
  replace hX : zC G X cX8_comesTrue 4 RX8 (some .boolean) 1 := hX
  show Z G X _ 0 [some (.ref w), some (.long z1), none, some (.int x3)] [] M
  refine z_lload_n hX dX8_comesTrue_0 rfl 1 rfl ?_
  refine z_lconst hX dX8_comesTrue_1 ql_0 2 rfl ?_
  refine z_lcmp hX dX8_comesTrue_2 3 rfl ?_
  refine z_if_le hX dX8_comesTrue_3 14 6 (by decide) rfl (fun hc => ?_) (fun hc => ?_)
  · rw [if_pos hc] at h
    refine z_mask [false, true, false, false] ?_
    have hz := aX8_comesTrue_J14 hX hw h
    exact hz
  · rw [if_neg hc] at h
    refine z_lload_n hX dX8_comesTrue_6 rfl 7 rfl ?_
    refine z_ldc2 hX dX8_comesTrue_7 kX8_199 10 rfl ?_
    refine z_lcmp hX dX8_comesTrue_10 11 rfl ?_
    refine z_if_lt hX dX8_comesTrue_11 28 14 (by decide) rfl (fun hc => ?_) (fun hc => ?_)
    · rw [if_pos hc] at h
      refine z_iload_n hX dX8_comesTrue_28 rfl 29 rfl ?_
      refine z_iconst hX dX8_comesTrue_29 qi_1 30 rfl ?_
      refine z_iand hX dX8_comesTrue_30 31 rfl ?_
      refine z_if_ne hX dX8_comesTrue_31 48 34 (by decide) rfl (fun hc => ?_) (fun hc => ?_)
      · rw [if_neg hc] at h
        refine z_aload_n hX dX8_comesTrue_48 rfl 49 rfl ?_
        refine z_aload_n hX dX8_comesTrue_49 rfl 50 rfl ?_
        refine z_getI hX fX8_68 dX8_comesTrue_50 (zsW0 hw) (by decide) rfl 53 rfl ?_
        refine z_ldc hX dX8_comesTrue_53 kX8_203 55 rfl ?_
        refine z_imul hX dX8_comesTrue_55 56 rfl ?_
        refine z_sipush hX dX8_comesTrue_56 qs_12345 59 rfl ?_
        refine z_iadd hX dX8_comesTrue_59 60 rfl ?_
        refine z_ldc hX dX8_comesTrue_60 kX8_204 62 rfl ?_
        refine z_iand hX dX8_comesTrue_62 63 rfl ?_
        refine z_putI hX pX8_68 dX8_comesTrue_63 (zsW0 hw) (by decide) rfl 66 rfl ?_
        refine z_mem h (fun M1_ h2_ => ?_)
        refine z_aload_n hX dX8_comesTrue_66 rfl 67 rfl ?_
        refine z_getI hX fX8_68 dX8_comesTrue_67 (zsW0 hw) (by decide) rfl 70 rfl ?_
        refine z_bipush hX dX8_comesTrue_70 qb_16 72 rfl ?_
        refine z_ishr hX dX8_comesTrue_72 73 rfl ?_
        refine z_bipush hX dX8_comesTrue_73 qb_100 75 rfl ?_
        refine z_irem hX dX8_comesTrue_75 (by decide) 76 rfl ?_
        refine z_i2l hX dX8_comesTrue_76 77 rfl ?_
        refine z_lload_n hX dX8_comesTrue_77 rfl 78 rfl ?_
        refine z_lcmp hX dX8_comesTrue_78 79 rfl ?_
        refine z_if_ge hX dX8_comesTrue_79 86 82 (by decide) rfl (fun hc => ?_) (fun hc => ?_)
        · rw [if_pos hc] at h2_
          refine z_iconst hX dX8_comesTrue_86 qi_0 87 rfl ?_
          exact z_zreturn hX dX8_comesTrue_87 (by decide) (zend_i h2_)
        · rw [if_neg hc] at h2_
          refine z_iconst hX dX8_comesTrue_82 qi_1 83 rfl ?_
          refine z_goto hX dX8_comesTrue_83 87 (by decide) ?_
          exact z_zreturn hX dX8_comesTrue_87 (by decide) (zend_i h2_)
      · rw [if_pos hc] at h
        refine z_lload_n hX dX8_comesTrue_34 rfl 35 rfl ?_
        refine z_ldc2 hX dX8_comesTrue_35 kX8_201 38 rfl ?_
        refine z_lcmp hX dX8_comesTrue_38 39 rfl ?_
        refine z_if_lt hX dX8_comesTrue_39 46 42 (by decide) rfl (fun hc => ?_) (fun hc => ?_)
        · rw [if_pos hc] at h
          refine z_iconst hX dX8_comesTrue_46 qi_0 47 rfl ?_
          exact z_zreturn hX dX8_comesTrue_47 (by decide) (zend_i h)
        · rw [if_neg hc] at h
          refine z_iconst hX dX8_comesTrue_42 qi_1 43 rfl ?_
          refine z_goto hX dX8_comesTrue_43 47 (by decide) ?_
          exact z_zreturn hX dX8_comesTrue_47 (by decide) (zend_i h)
    · rw [if_neg hc] at h
      refine z_mask [false, true, false, false] ?_
      have hz := aX8_comesTrue_J14 hX hw h
      exact hz
def gX8_growHeat_J37 (w : Nat) (x2 : Int32) (M : zM) : Option zM :=
  zlet (zI M w 11 (if ((M.1 w 11) + x2) < 999 then ((M.1 w 11) + x2) else 999)) (fun M5_ => some M5_)
set_option maxRecDepth 100000 in
set_option maxHeartbeats 2000000 in
theorem aX8_growHeat_J37 {G : zG} {X : zX} {w : Nat} {x2 : Int32} (hX : zC G X cX8_growHeat 3 RX8 none 2) (hw : isW w)  {M : zM} {res : zM}  (h : gX8_growHeat_J37 w x2 M = some res) : Z G X (zQv res) 37 [some (.ref w), none, some (.int x2)] [] M := by
  unfold gX8_growHeat_J37 at h
  refine z_aload_n hX dX8_growHeat_37 rfl 38 rfl ?_
  refine z_sipush hX dX8_growHeat_38 qs_999 41 rfl ?_
  refine z_aload_n hX dX8_growHeat_41 rfl 42 rfl ?_
  refine z_getI hX fX8_56 dX8_growHeat_42 (zsW0 hw) (by decide) rfl 45 rfl ?_
  refine z_iload_n hX dX8_growHeat_45 rfl 46 rfl ?_
  refine z_iadd hX dX8_growHeat_46 47 rfl ?_
  refine z_min hX dX8_growHeat_47 lX8_181 (by decide) (Nat.le_of_ble_eq_true rfl) 50 rfl ?_
  refine z_putI hX pX8_56 dX8_growHeat_50 (zsW0 hw) (by decide) rfl 53 rfl ?_
  refine z_mem h (fun M5_ h6_ => ?_)
  exact z_return hX dX8_growHeat_53 (zend_v h6_)
def gX8_growHeat (w : Nat) (x1 : Int32) (M : zM) : Option zM :=
  zgP (M.2.2 w 0) (fun p1_ => zlet ((M.1 (p1_ + 12) (1 : Int32).toNatClampNeg)) (fun x3_ => (if (x1 &&& 2) = 0 then zgP (M.2.2 w 0) (fun p7_ => zcIM (gX8_comesTrue w (((M.1 (p7_ + 12) (2 : Int32).toNatClampNeg) : Int32).toInt64) x1 M) (fun v9_ M10_ => (if v9_ = 0 then gX8_growHeat_J37 w x3_ M10_
  else gX8_growHeat_J37 w (x3_ + 5) M10_)))
  else gX8_growHeat_J37 w x3_ M)))
set_option maxRecDepth 100000 in
set_option maxHeartbeats 2000000 in
theorem mX8_growHeat {G : zG} {w : Nat} {x1 : Int32} {M : zM} (hw : isW w) {res : zM} (h : gX8_growHeat w x1 M = some res) : Ct G 2 tX8_growHeat [.ref w, .int x1] M (zQv res) := by
  unfold gX8_growHeat at h
  refine Ct.of (y := yX8_growHeat) rfl plX8 (Nat.le_of_ble_eq_true rfl) (fun X hX => ?_)
  replace hX : zC G X cX8_growHeat 3 RX8 none 2 := hX
  show Z G X _ 0 [some (.ref w), some (.int x1), none] [] M
  refine z_aload_n hX dX8_growHeat_0 rfl 1 rfl ?_
  obtain ⟨p1_, hm, hp1_, h2_⟩ := zgP_of h
  refine z_getR hX fX8_40 dX8_growHeat_1 (zsW0 hw) (by decide) rfl hm 4 rfl ?_
  refine z_getF hX fX8_59 dX8_growHeat_4 (zsP0 hp1_) (by decide) rfl 7 rfl ?_
  refine z_iconst hX dX8_growHeat_7 qi_1 8 rfl ?_
  refine z_iald hX dX8_growHeat_8 (zsP12 hp1_) (zok_in (by decide)) 9 rfl ?_
  refine z_topi h2_ (fun x3_ h4_ => ?_)
  refine z_istore_n hX dX8_growHeat_9 (by decide) 10 rfl ?_
  refine z_iload_n hX dX8_growHeat_10 rfl 11 rfl ?_
  refine z_iconst hX dX8_growHeat_11 qi_2 12 rfl ?_
  refine z_iand hX dX8_growHeat_12 13 rfl ?_
  refine z_if_ne hX dX8_growHeat_13 37 16 (by decide) rfl (fun hc => ?_) (fun hc => ?_)
  · rw [if_neg hc] at h4_
    refine z_mask [true, false, true] ?_
    have hz := aX8_growHeat_J37 hX hw h4_
    exact hz
  · rw [if_pos hc] at h4_
    refine z_aload_n hX dX8_growHeat_16 rfl 17 rfl ?_
    refine z_aload_n hX dX8_growHeat_17 rfl 18 rfl ?_
    obtain ⟨p7_, hm, hp7_, h8_⟩ := zgP_of h4_
    refine z_getR hX fX8_40 dX8_growHeat_18 (zsW0 hw) (by decide) rfl hm 21 rfl ?_
    refine z_getF hX fX8_59 dX8_growHeat_21 (zsP0 hp7_) (by decide) rfl 24 rfl ?_
    refine z_iconst hX dX8_growHeat_24 qi_2 25 rfl ?_
    refine z_iald hX dX8_growHeat_25 (zsP12 hp7_) (zok_in (by decide)) 26 rfl ?_
    refine z_i2l hX dX8_growHeat_26 27 rfl ?_
    refine z_iload_n hX dX8_growHeat_27 rfl 28 rfl ?_
    obtain ⟨v9_, M10_, hq, h11_⟩ := zcIM_of h8_
    refine z_callV hX vX8_comesTrue lX8_177 dX8_growHeat_28 (zsW0 hw) rfl (mX8_comesTrue hw hq) (by decide) rfl rfl (Nat.le_of_ble_eq_true rfl) 31 rfl (Qi.to (fun v' M' hv => ?_))
    cases hv
    refine z_if_eq hX dX8_growHeat_31 37 34 (by decide) rfl (fun hc => ?_) (fun hc => ?_)
    · rw [if_pos hc] at h11_
      refine z_mask [true, false, true] ?_
      have hz := aX8_growHeat_J37 hX hw h11_
      exact hz
    · rw [if_neg hc] at h11_
      refine z_iinc (v := (x3_ + 5)) hX dX8_growHeat_34 rfl (by rfl) (by decide) 37 rfl ?_
      refine z_mask [true, false, true] ?_
      have hz := aX8_growHeat_J37 hX hw h11_
      exact hz
def gX8_burnThings_L2 (w : Nat) (rc2 : (Int32 × zM) → Option zM) (s : (Int32 × zM)) : Option zM :=
  zgP (s.2.2.2 w 0) (fun p1_ => (if (s.2.1 p1_ 5) ≤ s.1 then some s.2
  else (if 8 ≤ s.1 then some s.2
  else zg (zok s.1 8) ((if (s.2.1 (w + 8) (s.1 : Int32).toNatClampNeg) = 0 then zg (zok s.1 8) ((if (s.2.1 (w + 9) (s.1 : Int32).toNatClampNeg) = (s.2.1 w 10) then zg (zok s.1 8) (zlet (zI s.2 (w + 8) (s.1 : Int32).toNatClampNeg 3) (fun M6_ => rc2 ((s.1 + 1), M6_)))
  else rc2 ((s.1 + 1), s.2)))
  else rc2 ((s.1 + 1), s.2))))))
set_option maxRecDepth 100000 in
set_option maxHeartbeats 2000000 in
theorem aX8_burnThings_L2 {G : zG} {X : zX} {w : Nat} (hX : zC G X cX8_burnThings 2 RX8 none 1) (hw : isW w)   {res : zM}  : ∀ (N : Nat) (s : (Int32 × zM)), zfix N (gX8_burnThings_L2 w) s = some res → Z G X (zQv res) 2 [some (.ref w), some (.int s.1)] [] s.2 := by
  intro N
  induction N with
  | zero => intro s h; cases h
  | succ N hrc2 =>
    intro s h
    replace h : gX8_burnThings_L2 w (zfix N (gX8_burnThings_L2 w)) s = some res := h
    unfold gX8_burnThings_L2 at h
    refine z_iload_n hX dX8_burnThings_2 rfl 3 rfl ?_
    refine z_aload_n hX dX8_burnThings_3 rfl 4 rfl ?_
    obtain ⟨p1_, hm, hp1_, h2_⟩ := zgP_of h
    refine z_getR hX fX8_40 dX8_burnThings_4 (zsW0 hw) (by decide) rfl hm 7 rfl ?_
    refine z_getI hX fX8_80 dX8_burnThings_7 (zsP0 hp1_) (by decide) rfl 10 rfl ?_
    refine z_icmp_ge hX dX8_burnThings_10 54 13 (by decide) rfl (fun hc => ?_) (fun hc => ?_)
    · rw [if_pos hc] at h2_
      exact z_return hX dX8_burnThings_54 (zend_v h2_)
    · rw [if_neg hc] at h2_
      refine z_iload_n hX dX8_burnThings_13 rfl 14 rfl ?_
      refine z_bipush hX dX8_burnThings_14 qb_8 16 rfl ?_
      refine z_icmp_ge hX dX8_burnThings_16 54 19 (by decide) rfl (fun hc => ?_) (fun hc => ?_)
      · rw [if_pos hc] at h2_
        exact z_return hX dX8_burnThings_54 (zend_v h2_)
      · rw [if_neg hc] at h2_
        refine z_aload_n hX dX8_burnThings_19 rfl 20 rfl ?_
        refine z_getF hX fX8_34 dX8_burnThings_20 (zsW0 hw) (by decide) rfl 23 rfl ?_
        refine z_iload_n hX dX8_burnThings_23 rfl 24 rfl ?_
        obtain ⟨hb, h3_⟩ := zgd h2_
        refine z_iald hX dX8_burnThings_24 (zsW8 hw) (zok_in hb) 25 rfl ?_
        refine z_if_ne hX dX8_burnThings_25 48 28 (by decide) rfl (fun hc => ?_) (fun hc => ?_)
        · rw [if_neg hc] at h3_
          refine z_iinc (v := (s.1 + 1)) hX dX8_burnThings_48 rfl (by rfl) (by decide) 51 rfl ?_
          refine z_goto hX dX8_burnThings_51 2 (by decide) ?_
          refine z_mask [true, true] ?_
          have hz := hrc2 _ h3_
          exact hz
        · rw [if_pos hc] at h3_
          refine z_aload_n hX dX8_burnThings_28 rfl 29 rfl ?_
          refine z_getF hX fX8_37 dX8_burnThings_29 (zsW0 hw) (by decide) rfl 32 rfl ?_
          refine z_iload_n hX dX8_burnThings_32 rfl 33 rfl ?_
          obtain ⟨hb, h4_⟩ := zgd h3_
          refine z_iald hX dX8_burnThings_33 (zsW9 hw) (zok_in hb) 34 rfl ?_
          refine z_aload_n hX dX8_burnThings_34 rfl 35 rfl ?_
          refine z_getI hX fX8_52 dX8_burnThings_35 (zsW0 hw) (by decide) rfl 38 rfl ?_
          refine z_icmp_ne hX dX8_burnThings_38 48 41 (by decide) rfl (fun hc => ?_) (fun hc => ?_)
          · rw [if_neg hc] at h4_
            refine z_iinc (v := (s.1 + 1)) hX dX8_burnThings_48 rfl (by rfl) (by decide) 51 rfl ?_
            refine z_goto hX dX8_burnThings_51 2 (by decide) ?_
            refine z_mask [true, true] ?_
            have hz := hrc2 _ h4_
            exact hz
          · rw [if_pos hc] at h4_
            refine z_aload_n hX dX8_burnThings_41 rfl 42 rfl ?_
            refine z_getF hX fX8_34 dX8_burnThings_42 (zsW0 hw) (by decide) rfl 45 rfl ?_
            refine z_iload_n hX dX8_burnThings_45 rfl 46 rfl ?_
            refine z_iconst hX dX8_burnThings_46 qi_3 47 rfl ?_
            obtain ⟨hb, h5_⟩ := zgd h4_
            refine z_iast hX dX8_burnThings_47 (zsW8 hw) (zok_in hb) 48 rfl ?_
            refine z_mem h5_ (fun M6_ h7_ => ?_)
            refine z_iinc (v := (s.1 + 1)) hX dX8_burnThings_48 rfl (by rfl) (by decide) 51 rfl ?_
            refine z_goto hX dX8_burnThings_51 2 (by decide) ?_
            refine z_mask [true, true] ?_
            have hz := hrc2 _ h7_
            exact hz
def gX8_burnThings (w : Nat) (M : zM) : Option zM :=
  zfix zFu (gX8_burnThings_L2 w) (0, M)
set_option maxRecDepth 100000 in
set_option maxHeartbeats 2000000 in
theorem mX8_burnThings {G : zG} {w : Nat} {M : zM} (hw : isW w) {res : zM} (h : gX8_burnThings w M = some res) : Ct G 1 tX8_burnThings [.ref w] M (zQv res) := by
  unfold gX8_burnThings at h
  refine Ct.of (y := yX8_burnThings) rfl plX8 (Nat.le_of_ble_eq_true rfl) (fun X hX => ?_)
  replace hX : zC G X cX8_burnThings 2 RX8 none 1 := hX
  show Z G X _ 0 [some (.ref w), none] [] M
  refine z_iconst hX dX8_burnThings_0 qi_0 1 rfl ?_
  refine z_istore_n hX dX8_burnThings_1 (by decide) 2 rfl ?_
  refine z_mask [true, true] ?_
  have hz := aX8_burnThings_L2 hX hw _ _ h
  exact hz
def gX8_isHurt_J53 (w : Nat) (x3 : Int32) (y1 : Int64) (M : zM) : Option (Int32 × zM) :=
  zcIM (gX8_comesTrue w y1 x3 M) (fun v8_ M9_ => zg (zbit v8_) (some (v8_, M9_)))
set_option maxRecDepth 100000 in
set_option maxHeartbeats 2000000 in
theorem aX8_isHurt_J53 {G : zG} {X : zX} {w : Nat} {x3 : Int32} {y1 : Int64} (hX : zC G X cX8_isHurt 6 RX8 (some .boolean) 3) (hw : isW w)  {M : zM} {res : (Int32 × zM)}  (h : gX8_isHurt_J53 w x3 y1 M = some res) : Z G X (zQi res) 53 [none, none, none, some (.int x3), none, none] [.long y1, .ref w] M := by
  unfold gX8_isHurt_J53 at h
  refine z_iload_n hX dX8_isHurt_53 rfl 54 rfl ?_
  obtain ⟨v8_, M9_, hq, h10_⟩ := zcIM_of h
  refine z_callV hX vX8_comesTrue lX8_177 dX8_isHurt_54 (zsW0 hw) rfl (mX8_comesTrue hw hq) (by decide) rfl rfl (Nat.le_of_ble_eq_true rfl) 57 rfl (Qi.to (fun v' M' hv => ?_))
  cases hv
  obtain ⟨hb, h11_⟩ := zgd h10_
  exact z_zreturn hX dX8_isHurt_57 (zbit_or hb) (zend_i h11_)
def gX8_isHurt (w : Nat) (x1 : Int32) (x2 : Int32) (x3 : Int32) (M : zM) : Option (Int32 × zM) :=
  (if (x3 &&& 4) = 0 then zcV (gX8_setFacts w x1 x2 0 M) (fun M1_ => zgP (M1_.2.2 w 0) (fun p3_ => zcLM (gX1_work p3_ 2 M1_) (fun v5_ M6_ => (if (lg_cmp v5_ (-9223372036854775808)) = 0 then zgP (M6_.2.2 w 0) (fun p12_ => gX8_isHurt_J53 w x3 (((M6_.1 (p12_ + 12) (3 : Int32).toNatClampNeg) : Int32).toInt64) M6_)
  else gX8_isHurt_J53 w x3 v5_ M6_))))
  else some (0, M))
set_option maxRecDepth 100000 in
set_option maxHeartbeats 2000000 in
theorem mX8_isHurt {G : zG} {w : Nat} {x1 : Int32} {x2 : Int32} {x3 : Int32} {M : zM} (hw : isW w) {res : (Int32 × zM)} (h : gX8_isHurt w x1 x2 x3 M = some res) : Ct G 3 tX8_isHurt [.ref w, .int x1, .int x2, .int x3] M (zQi res) := by
  unfold gX8_isHurt at h
  refine Ct.of (y := yX8_isHurt) rfl plX8 (Nat.le_of_ble_eq_true rfl) (fun X hX => ?_)
  replace hX : zC G X cX8_isHurt 6 RX8 (some .boolean) 3 := hX
  show Z G X _ 0 [some (.ref w), some (.int x1), some (.int x2), some (.int x3), none, none] [] M
  refine z_iload_n hX dX8_isHurt_0 rfl 1 rfl ?_
  refine z_iconst hX dX8_isHurt_1 qi_4 2 rfl ?_
  refine z_iand hX dX8_isHurt_2 3 rfl ?_
  refine z_if_eq hX dX8_isHurt_3 8 6 (by decide) rfl (fun hc => ?_) (fun hc => ?_)
  · rw [if_pos hc] at h
    refine z_aload_n hX dX8_isHurt_8 rfl 9 rfl ?_
    refine z_iload_n hX dX8_isHurt_9 rfl 10 rfl ?_
    refine z_iload_n hX dX8_isHurt_10 rfl 11 rfl ?_
    refine z_iconst hX dX8_isHurt_11 qi_0 12 rfl ?_
    obtain ⟨M1_, hq, h2_⟩ := zcV_of h
    refine z_callV hX vX8_setFacts lX8_119 dX8_isHurt_12 (zsW0 hw) rfl (mX8_setFacts hw hq) (by decide) rfl rfl (Nat.le_of_ble_eq_true rfl) 15 rfl (Qv.to (fun M' hv => ?_))
    subst hv
    refine z_aload_n hX dX8_isHurt_15 rfl 16 rfl ?_
    obtain ⟨p3_, hm, hp3_, h4_⟩ := zgP_of h2_
    refine z_getR hX fX8_40 dX8_isHurt_16 (zsW0 hw) (by decide) rfl hm 19 rfl ?_
    refine z_getF hX fX8_100 dX8_isHurt_19 (zsP0 hp3_) (by decide) rfl 22 rfl ?_
    refine z_iconst hX dX8_isHurt_22 qi_2 23 rfl ?_
    obtain ⟨v5_, M6_, hq, h7_⟩ := zcLM_of h4_
    refine z_callV hX vX1_work lX8_123 dX8_isHurt_23 (zsP14 hp3_) rfl (mX1_work hp3_ hq) (by decide) rfl rfl (Nat.le_of_ble_eq_true rfl) 26 rfl (Ql.to (fun v' M' hv => ?_))
    cases hv
    refine z_lstore hX dX8_isHurt_26 (by decide) 28 rfl ?_
    refine z_aload_n hX dX8_isHurt_28 rfl 29 rfl ?_
    refine z_lload hX dX8_isHurt_29 rfl 31 rfl ?_
    refine z_ldc2 hX dX8_isHurt_31 kX8_127 34 rfl ?_
    refine z_lcmp hX dX8_isHurt_34 35 rfl ?_
    refine z_if_ne hX dX8_isHurt_35 51 38 (by decide) rfl (fun hc => ?_) (fun hc => ?_)
    · rw [if_neg hc] at h7_
      refine z_lload hX dX8_isHurt_51 rfl 53 rfl ?_
      refine z_mask [false, false, false, true, false, false] ?_
      have hz := aX8_isHurt_J53 hX hw h7_
      exact hz
    · rw [if_pos hc] at h7_
      refine z_aload_n hX dX8_isHurt_38 rfl 39 rfl ?_
      obtain ⟨p12_, hm, hp12_, h13_⟩ := zgP_of h7_
      refine z_getR hX fX8_40 dX8_isHurt_39 (zsW0 hw) (by decide) rfl hm 42 rfl ?_
      refine z_getF hX fX8_59 dX8_isHurt_42 (zsP0 hp12_) (by decide) rfl 45 rfl ?_
      refine z_iconst hX dX8_isHurt_45 qi_3 46 rfl ?_
      refine z_iald hX dX8_isHurt_46 (zsP12 hp12_) (zok_in (by decide)) 47 rfl ?_
      refine z_i2l hX dX8_isHurt_47 48 rfl ?_
      refine z_goto hX dX8_isHurt_48 53 (by decide) ?_
      refine z_mask [false, false, false, true, false, false] ?_
      have hz := aX8_isHurt_J53 hX hw h13_
      exact hz
  · rw [if_neg hc] at h
    refine z_iconst hX dX8_isHurt_6 qi_0 7 rfl ?_
    exact z_zreturn hX dX8_isHurt_7 (by decide) (zend_i h)
def gX8_leaveThing (w : Nat) (x1 : Int32) (x2 : Int32) (M : zM) : Option zM :=
  zg (zok x1 6) (zlet (zI M (w + 4) (x1 : Int32).toNatClampNeg x2) (fun M2_ => zg (zok x1 6) (zlet (zI M2_ (w + 5) (x1 : Int32).toNatClampNeg (-2)) (fun M5_ => zg (zok x1 6) (zlet (zI M5_ (w + 6) (x1 : Int32).toNatClampNeg 0) (fun M8_ => some M8_))))))
set_option maxRecDepth 100000 in
set_option maxHeartbeats 2000000 in
theorem mX8_leaveThing {G : zG} {w : Nat} {x1 : Int32} {x2 : Int32} {M : zM} (hw : isW w) {res : zM} (h : gX8_leaveThing w x1 x2 M = some res) : Ct G 1 tX8_leaveThing [.ref w, .int x1, .int x2] M (zQv res) := by
  unfold gX8_leaveThing at h
  refine Ct.of (y := yX8_leaveThing) rfl plX8 (Nat.le_of_ble_eq_true rfl) (fun X hX => ?_)
  replace hX : zC G X cX8_leaveThing 3 RX8 none 1 := hX
  show Z G X _ 0 [some (.ref w), some (.int x1), some (.int x2)] [] M
  refine z_aload_n hX dX8_leaveThing_0 rfl 1 rfl ?_
  refine z_getF hX fX8_21 dX8_leaveThing_1 (zsW0 hw) (by decide) rfl 4 rfl ?_
  refine z_iload_n hX dX8_leaveThing_4 rfl 5 rfl ?_
  refine z_iload_n hX dX8_leaveThing_5 rfl 6 rfl ?_
  obtain ⟨hb, h1_⟩ := zgd h
  refine z_iast hX dX8_leaveThing_6 (zsW4 hw) (zok_in hb) 7 rfl ?_
  refine z_mem h1_ (fun M2_ h3_ => ?_)
  refine z_aload_n hX dX8_leaveThing_7 rfl 8 rfl ?_
  refine z_getF hX fX8_24 dX8_leaveThing_8 (zsW0 hw) (by decide) rfl 11 rfl ?_
  refine z_iload_n hX dX8_leaveThing_11 rfl 12 rfl ?_
  refine z_bipush hX dX8_leaveThing_12 qb_m2 14 rfl ?_
  obtain ⟨hb, h4_⟩ := zgd h3_
  refine z_iast hX dX8_leaveThing_14 (zsW5 hw) (zok_in hb) 15 rfl ?_
  refine z_mem h4_ (fun M5_ h6_ => ?_)
  refine z_aload_n hX dX8_leaveThing_15 rfl 16 rfl ?_
  refine z_getF hX fX8_27 dX8_leaveThing_16 (zsW0 hw) (by decide) rfl 19 rfl ?_
  refine z_iload_n hX dX8_leaveThing_19 rfl 20 rfl ?_
  refine z_iconst hX dX8_leaveThing_20 qi_0 21 rfl ?_
  obtain ⟨hb, h7_⟩ := zgd h6_
  refine z_iast hX dX8_leaveThing_21 (zsW6 hw) (zok_in hb) 22 rfl ?_
  refine z_mem h7_ (fun M8_ h9_ => ?_)
  exact z_return hX dX8_leaveThing_22 (zend_v h9_)
def gX8_saveThing (w : Nat) (x1 : Int32) (x2 : Int32) (M : zM) : Option zM :=
  zg (zok x2 8) (zlet (zI M (w + 8) (x2 : Int32).toNatClampNeg 2) (fun M2_ => zgP (M2_.2.2 w 0) (fun p4_ => zg (zok x2 8) (zlet (zI M2_ w 12 (if ((M2_.1 w 12) + (M2_.1 (p4_ + 6) (x2 : Int32).toNatClampNeg)) < 9999 then ((M2_.1 w 12) + (M2_.1 (p4_ + 6) (x2 : Int32).toNatClampNeg)) else 9999)) (fun M7_ => zcV (gX8_setFacts w x1 x2 0 M7_) (fun M9_ => zgP (M9_.2.2 w 0) (fun p11_ => zcLM (gX1_work p11_ 1 M9_) (fun v13_ M14_ => (if (lg_cmp v13_ (-9223372036854775808)) = 0 then some M14_
  else zlet (((if (if v13_ < 9 then v13_ else 9) < (-9) then (-9) else (if v13_ < 9 then v13_ else 9)) : Int64).toInt32) (fun x16_ => zg (zok x1 6) (zg (zok x1 6) (zlet (zI M14_ (w + 2) (x1 : Int32).toNatClampNeg (if 0 < (if ((M14_.1 (w + 2) (x1 : Int32).toNatClampNeg) + x16_) < 99 then ((M14_.1 (w + 2) (x1 : Int32).toNatClampNeg) + x16_) else 99) then (if ((M14_.1 (w + 2) (x1 : Int32).toNatClampNeg) + x16_) < 99 then ((M14_.1 (w + 2) (x1 : Int32).toNatClampNeg) + x16_) else 99) else 0)) (fun M20_ => some M20_)))))))))))))
set_option maxRecDepth 100000 in
set_option maxHeartbeats 2000000 in
theorem mX8_saveThing {G : zG} {w : Nat} {x1 : Int32} {x2 : Int32} {M : zM} (hw : isW w) {res : zM} (h : gX8_saveThing w x1 x2 M = some res) : Ct G 3 tX8_saveThing [.ref w, .int x1, .int x2] M (zQv res) := by
  unfold gX8_saveThing at h
  refine Ct.of (y := yX8_saveThing) rfl plX8 (Nat.le_of_ble_eq_true rfl) (fun X hX => ?_)
  replace hX : zC G X cX8_saveThing 6 RX8 none 3 := hX
  show Z G X _ 0 [some (.ref w), some (.int x1), some (.int x2), none, none, none] [] M
  refine z_aload_n hX dX8_saveThing_0 rfl 1 rfl ?_
  refine z_getF hX fX8_34 dX8_saveThing_1 (zsW0 hw) (by decide) rfl 4 rfl ?_
  refine z_iload_n hX dX8_saveThing_4 rfl 5 rfl ?_
  refine z_iconst hX dX8_saveThing_5 qi_2 6 rfl ?_
  obtain ⟨hb, h1_⟩ := zgd h
  refine z_iast hX dX8_saveThing_6 (zsW8 hw) (zok_in hb) 7 rfl ?_
  refine z_mem h1_ (fun M2_ h3_ => ?_)
  refine z_aload_n hX dX8_saveThing_7 rfl 8 rfl ?_
  refine z_sipush hX dX8_saveThing_8 qs_9999 11 rfl ?_
  refine z_aload_n hX dX8_saveThing_11 rfl 12 rfl ?_
  refine z_getI hX fX8_62 dX8_saveThing_12 (zsW0 hw) (by decide) rfl 15 rfl ?_
  refine z_aload_n hX dX8_saveThing_15 rfl 16 rfl ?_
  obtain ⟨p4_, hm, hp4_, h5_⟩ := zgP_of h3_
  refine z_getR hX fX8_40 dX8_saveThing_16 (zsW0 hw) (by decide) rfl hm 19 rfl ?_
  refine z_getF hX fX8_86 dX8_saveThing_19 (zsP0 hp4_) (by decide) rfl 22 rfl ?_
  refine z_iload_n hX dX8_saveThing_22 rfl 23 rfl ?_
  obtain ⟨hb, h6_⟩ := zgd h5_
  refine z_iald hX dX8_saveThing_23 (zsP6 hp4_) (zok_in hb) 24 rfl ?_
  refine z_iadd hX dX8_saveThing_24 25 rfl ?_
  refine z_min hX dX8_saveThing_25 lX8_181 (by decide) (Nat.le_of_ble_eq_true rfl) 28 rfl ?_
  refine z_putI hX pX8_62 dX8_saveThing_28 (zsW0 hw) (by decide) rfl 31 rfl ?_
  refine z_mem h6_ (fun M7_ h8_ => ?_)
  refine z_aload_n hX dX8_saveThing_31 rfl 32 rfl ?_
  refine z_iload_n hX dX8_saveThing_32 rfl 33 rfl ?_
  refine z_iload_n hX dX8_saveThing_33 rfl 34 rfl ?_
  refine z_iconst hX dX8_saveThing_34 qi_0 35 rfl ?_
  obtain ⟨M9_, hq, h10_⟩ := zcV_of h8_
  refine z_callV hX vX8_setFacts lX8_119 dX8_saveThing_35 (zsW0 hw) rfl (mX8_setFacts hw hq) (by decide) rfl rfl (Nat.le_of_ble_eq_true rfl) 38 rfl (Qv.to (fun M' hv => ?_))
  subst hv
  refine z_aload_n hX dX8_saveThing_38 rfl 39 rfl ?_
  obtain ⟨p11_, hm, hp11_, h12_⟩ := zgP_of h10_
  refine z_getR hX fX8_40 dX8_saveThing_39 (zsW0 hw) (by decide) rfl hm 42 rfl ?_
  refine z_getF hX fX8_100 dX8_saveThing_42 (zsP0 hp11_) (by decide) rfl 45 rfl ?_
  refine z_iconst hX dX8_saveThing_45 qi_1 46 rfl ?_
  obtain ⟨v13_, M14_, hq, h15_⟩ := zcLM_of h12_
  refine z_callV hX vX1_work lX8_123 dX8_saveThing_46 (zsP14 hp11_) rfl (mX1_work hp11_ hq) (by decide) rfl rfl (Nat.le_of_ble_eq_true rfl) 49 rfl (Ql.to (fun v' M' hv => ?_))
  cases hv
  refine z_lstore_n hX dX8_saveThing_49 (by decide) 50 rfl ?_
  refine z_lload_n hX dX8_saveThing_50 rfl 51 rfl ?_
  refine z_ldc2 hX dX8_saveThing_51 kX8_127 54 rfl ?_
  refine z_lcmp hX dX8_saveThing_54 55 rfl ?_
  refine z_if_eq hX dX8_saveThing_55 98 58 (by decide) rfl (fun hc => ?_) (fun hc => ?_)
  · rw [if_pos hc] at h15_
    exact z_return hX dX8_saveThing_98 (zend_v h15_)
  · rw [if_neg hc] at h15_
    refine z_ldc2 hX dX8_saveThing_58 kX8_187 61 rfl ?_
    refine z_ldc2 hX dX8_saveThing_61 kX8_189 64 rfl ?_
    refine z_lload_n hX dX8_saveThing_64 rfl 65 rfl ?_
    refine z_minL hX dX8_saveThing_65 lX8_191 (by decide) (Nat.le_of_ble_eq_true rfl) 68 rfl ?_
    refine z_maxL hX dX8_saveThing_68 lX8_194 (by decide) (Nat.le_of_ble_eq_true rfl) 71 rfl ?_
    refine z_l2i hX dX8_saveThing_71 72 rfl ?_
    refine z_topi h15_ (fun x16_ h17_ => ?_)
    refine z_istore hX dX8_saveThing_72 (by decide) 74 rfl ?_
    refine z_aload_n hX dX8_saveThing_74 rfl 75 rfl ?_
    refine z_getF hX fX8_15 dX8_saveThing_75 (zsW0 hw) (by decide) rfl 78 rfl ?_
    refine z_iload_n hX dX8_saveThing_78 rfl 79 rfl ?_
    refine z_iconst hX dX8_saveThing_79 qi_0 80 rfl ?_
    refine z_bipush hX dX8_saveThing_80 qb_99 82 rfl ?_
    refine z_aload_n hX dX8_saveThing_82 rfl 83 rfl ?_
    refine z_getF hX fX8_15 dX8_saveThing_83 (zsW0 hw) (by decide) rfl 86 rfl ?_
    refine z_iload_n hX dX8_saveThing_86 rfl 87 rfl ?_
    obtain ⟨hb, h18_⟩ := zgd h17_
    refine z_iald hX dX8_saveThing_87 (zsW2 hw) (zok_in hb) 88 rfl ?_
    refine z_iload hX dX8_saveThing_88 rfl 90 rfl ?_
    refine z_iadd hX dX8_saveThing_90 91 rfl ?_
    refine z_min hX dX8_saveThing_91 lX8_181 (by decide) (Nat.le_of_ble_eq_true rfl) 94 rfl ?_
    refine z_max hX dX8_saveThing_94 lX8_197 (by decide) (Nat.le_of_ble_eq_true rfl) 97 rfl ?_
    obtain ⟨hb, h19_⟩ := zgd h18_
    refine z_iast hX dX8_saveThing_97 (zsW2 hw) (zok_in hb) 98 rfl ?_
    refine z_mem h19_ (fun M20_ h21_ => ?_)
    exact z_return hX dX8_saveThing_98 (zend_v h21_)
def gX8_moveMan (w : Nat) (x1 : Int32) (x2 : Int32) (M : zM) : Option zM :=
  (if x1 < 0 then some M
  else (if 6 ≤ x1 then some M
  else zg (zok x1 6) ((if (M.1 (w + 4) (x1 : Int32).toNatClampNeg) = 1 then zg (zok x1 6) (zlet ((M.1 (w + 5) (x1 : Int32).toNatClampNeg)) (fun x3_ => (if x3_ < 0 then some M
  else (if x3_ < 8 then zg (zok x1 6) (zg (zok x1 6) (zlet (zI M (w + 6) (x1 : Int32).toNatClampNeg ((M.1 (w + 6) (x1 : Int32).toNatClampNeg) + 1)) (fun M7_ => zcIM (gX8_isHurt w x1 x3_ x2 M7_) (fun v9_ M10_ => (if v9_ = 0 then zg (zok x1 6) (zgP (M10_.2.2 w 0) (fun p13_ => zg (zok x3_ 8) ((if (M10_.1 (w + 6) (x1 : Int32).toNatClampNeg) = (M10_.1 (p13_ + 7) (x3_ : Int32).toNatClampNeg) then zg (zok x3_ 8) ((if (M10_.1 (w + 8) (x3_ : Int32).toNatClampNeg) = 0 then zg (zok x3_ 8) (zlet (zI M10_ (w + 8) (x3_ : Int32).toNatClampNeg 1) (fun M27_ => some M27_))
  else some M10_))
  else zg (zok x1 6) (zgP (M10_.2.2 w 0) (fun p17_ => zg (zok x3_ 8) ((if (M10_.1 (w + 6) (x1 : Int32).toNatClampNeg) = (2 * (M10_.1 (p17_ + 7) (x3_ : Int32).toNatClampNeg)) then zcV (gX8_leaveThing w x1 0 M10_) (fun M20_ => zg (zok x3_ 8) ((if (M20_.1 (w + 8) (x3_ : Int32).toNatClampNeg) = 1 then zcV (gX8_saveThing w x1 x3_ M20_) (fun M23_ => some M23_)
  else some M20_)))
  else some M10_))))))))
  else zcV (gX8_leaveThing w x1 2 M10_) (fun M29_ => zg (zok x3_ 8) ((if (M29_.1 (w + 8) (x3_ : Int32).toNatClampNeg) = 1 then zg (zok x3_ 8) (zlet (zI M29_ (w + 8) (x3_ : Int32).toNatClampNeg 3) (fun M33_ => some M33_))
  else some M29_))))))))
  else some M))))
  else some M))))
set_option maxRecDepth 100000 in
set_option maxHeartbeats 2000000 in
theorem mX8_moveMan {G : zG} {w : Nat} {x1 : Int32} {x2 : Int32} {M : zM} (hw : isW w) {res : zM} (h : gX8_moveMan w x1 x2 M = some res) : Ct G 4 tX8_moveMan [.ref w, .int x1, .int x2] M (zQv res) := by
  unfold gX8_moveMan at h
  refine Ct.of (y := yX8_moveMan) rfl plX8 (Nat.le_of_ble_eq_true rfl) (fun X hX => ?_)
  replace hX : zC G X cX8_moveMan 4 RX8 none 4 := hX
  show Z G X _ 0 [some (.ref w), some (.int x1), some (.int x2), none] [] M
  refine z_iload_n hX dX8_moveMan_0 rfl 1 rfl ?_
  refine z_if_lt hX dX8_moveMan_1 20 4 (by decide) rfl (fun hc => ?_) (fun hc => ?_)
  · rw [if_pos hc] at h
    exact z_return hX dX8_moveMan_20 (zend_v h)
  · rw [if_neg hc] at h
    refine z_iload_n hX dX8_moveMan_4 rfl 5 rfl ?_
    refine z_bipush hX dX8_moveMan_5 qb_6 7 rfl ?_
    refine z_icmp_ge hX dX8_moveMan_7 20 10 (by decide) rfl (fun hc => ?_) (fun hc => ?_)
    · rw [if_pos hc] at h
      exact z_return hX dX8_moveMan_20 (zend_v h)
    · rw [if_neg hc] at h
      refine z_aload_n hX dX8_moveMan_10 rfl 11 rfl ?_
      refine z_getF hX fX8_21 dX8_moveMan_11 (zsW0 hw) (by decide) rfl 14 rfl ?_
      refine z_iload_n hX dX8_moveMan_14 rfl 15 rfl ?_
      obtain ⟨hb, h1_⟩ := zgd h
      refine z_iald hX dX8_moveMan_15 (zsW4 hw) (zok_in hb) 16 rfl ?_
      refine z_iconst hX dX8_moveMan_16 qi_1 17 rfl ?_
      refine z_icmp_eq hX dX8_moveMan_17 21 20 (by decide) rfl (fun hc => ?_) (fun hc => ?_)
      · rw [if_pos hc] at h1_
        refine z_aload_n hX dX8_moveMan_21 rfl 22 rfl ?_
        refine z_getF hX fX8_24 dX8_moveMan_22 (zsW0 hw) (by decide) rfl 25 rfl ?_
        refine z_iload_n hX dX8_moveMan_25 rfl 26 rfl ?_
        obtain ⟨hb, h2_⟩ := zgd h1_
        refine z_iald hX dX8_moveMan_26 (zsW5 hw) (zok_in hb) 27 rfl ?_
        refine z_topi h2_ (fun x3_ h4_ => ?_)
        refine z_istore_n hX dX8_moveMan_27 (by decide) 28 rfl ?_
        refine z_iload_n hX dX8_moveMan_28 rfl 29 rfl ?_
        refine z_if_lt hX dX8_moveMan_29 38 32 (by decide) rfl (fun hc => ?_) (fun hc => ?_)
        · rw [if_pos hc] at h4_
          exact z_return hX dX8_moveMan_38 (zend_v h4_)
        · rw [if_neg hc] at h4_
          refine z_iload_n hX dX8_moveMan_32 rfl 33 rfl ?_
          refine z_bipush hX dX8_moveMan_33 qb_8 35 rfl ?_
          refine z_icmp_lt hX dX8_moveMan_35 39 38 (by decide) rfl (fun hc => ?_) (fun hc => ?_)
          · rw [if_pos hc] at h4_
            refine z_aload_n hX dX8_moveMan_39 rfl 40 rfl ?_
            refine z_getF hX fX8_27 dX8_moveMan_40 (zsW0 hw) (by decide) rfl 43 rfl ?_
            refine z_iload_n hX dX8_moveMan_43 rfl 44 rfl ?_
            refine z_dup2 hX dX8_moveMan_44 rfl rfl 45 rfl ?_
            obtain ⟨hb, h5_⟩ := zgd h4_
            refine z_iald hX dX8_moveMan_45 (zsW6 hw) (zok_in hb) 46 rfl ?_
            refine z_iconst hX dX8_moveMan_46 qi_1 47 rfl ?_
            refine z_iadd hX dX8_moveMan_47 48 rfl ?_
            obtain ⟨hb, h6_⟩ := zgd h5_
            refine z_iast hX dX8_moveMan_48 (zsW6 hw) (zok_in hb) 49 rfl ?_
            refine z_mem h6_ (fun M7_ h8_ => ?_)
            refine z_aload_n hX dX8_moveMan_49 rfl 50 rfl ?_
            refine z_iload_n hX dX8_moveMan_50 rfl 51 rfl ?_
            refine z_iload_n hX dX8_moveMan_51 rfl 52 rfl ?_
            refine z_iload_n hX dX8_moveMan_52 rfl 53 rfl ?_
            obtain ⟨v9_, M10_, hq, h11_⟩ := zcIM_of h8_
            refine z_callV hX vX8_isHurt lX8_168 dX8_moveMan_53 (zsW0 hw) rfl (mX8_isHurt hw hq) (by decide) rfl rfl (Nat.le_of_ble_eq_true rfl) 56 rfl (Qi.to (fun v' M' hv => ?_))
            cases hv
            refine z_if_eq hX dX8_moveMan_56 85 59 (by decide) rfl (fun hc => ?_) (fun hc => ?_)
            · rw [if_pos hc] at h11_
              refine z_aload_n hX dX8_moveMan_85 rfl 86 rfl ?_
              refine z_getF hX fX8_27 dX8_moveMan_86 (zsW0 hw) (by decide) rfl 89 rfl ?_
              refine z_iload_n hX dX8_moveMan_89 rfl 90 rfl ?_
              obtain ⟨hb, h12_⟩ := zgd h11_
              refine z_iald hX dX8_moveMan_90 (zsW6 hw) (zok_in hb) 91 rfl ?_
              refine z_aload_n hX dX8_moveMan_91 rfl 92 rfl ?_
              obtain ⟨p13_, hm, hp13_, h14_⟩ := zgP_of h12_
              refine z_getR hX fX8_40 dX8_moveMan_92 (zsW0 hw) (by decide) rfl hm 95 rfl ?_
              refine z_getF hX fX8_116 dX8_moveMan_95 (zsP0 hp13_) (by decide) rfl 98 rfl ?_
              refine z_iload_n hX dX8_moveMan_98 rfl 99 rfl ?_
              obtain ⟨hb, h15_⟩ := zgd h14_
              refine z_iald hX dX8_moveMan_99 (zsP7 hp13_) (zok_in hb) 100 rfl ?_
              refine z_icmp_ne hX dX8_moveMan_100 122 103 (by decide) rfl (fun hc => ?_) (fun hc => ?_)
              · rw [if_neg hc] at h15_
                refine z_aload_n hX dX8_moveMan_122 rfl 123 rfl ?_
                refine z_getF hX fX8_27 dX8_moveMan_123 (zsW0 hw) (by decide) rfl 126 rfl ?_
                refine z_iload_n hX dX8_moveMan_126 rfl 127 rfl ?_
                obtain ⟨hb, h16_⟩ := zgd h15_
                refine z_iald hX dX8_moveMan_127 (zsW6 hw) (zok_in hb) 128 rfl ?_
                refine z_iconst hX dX8_moveMan_128 qi_2 129 rfl ?_
                refine z_aload_n hX dX8_moveMan_129 rfl 130 rfl ?_
                obtain ⟨p17_, hm, hp17_, h18_⟩ := zgP_of h16_
                refine z_getR hX fX8_40 dX8_moveMan_130 (zsW0 hw) (by decide) rfl hm 133 rfl ?_
                refine z_getF hX fX8_116 dX8_moveMan_133 (zsP0 hp17_) (by decide) rfl 136 rfl ?_
                refine z_iload_n hX dX8_moveMan_136 rfl 137 rfl ?_
                obtain ⟨hb, h19_⟩ := zgd h18_
                refine z_iald hX dX8_moveMan_137 (zsP7 hp17_) (zok_in hb) 138 rfl ?_
                refine z_imul hX dX8_moveMan_138 139 rfl ?_
                refine z_icmp_ne hX dX8_moveMan_139 164 142 (by decide) rfl (fun hc => ?_) (fun hc => ?_)
                · rw [if_neg hc] at h19_
                  exact z_return hX dX8_moveMan_164 (zend_v h19_)
                · rw [if_pos hc] at h19_
                  refine z_aload_n hX dX8_moveMan_142 rfl 143 rfl ?_
                  refine z_iload_n hX dX8_moveMan_143 rfl 144 rfl ?_
                  refine z_iconst hX dX8_moveMan_144 qi_0 145 rfl ?_
                  obtain ⟨M20_, hq, h21_⟩ := zcV_of h19_
                  refine z_callV hX vX8_leaveThing lX8_171 dX8_moveMan_145 (zsW0 hw) rfl (mX8_leaveThing hw hq) (by decide) rfl rfl (Nat.le_of_ble_eq_true rfl) 148 rfl (Qv.to (fun M' hv => ?_))
                  subst hv
                  refine z_aload_n hX dX8_moveMan_148 rfl 149 rfl ?_
                  refine z_getF hX fX8_34 dX8_moveMan_149 (zsW0 hw) (by decide) rfl 152 rfl ?_
                  refine z_iload_n hX dX8_moveMan_152 rfl 153 rfl ?_
                  obtain ⟨hb, h22_⟩ := zgd h21_
                  refine z_iald hX dX8_moveMan_153 (zsW8 hw) (zok_in hb) 154 rfl ?_
                  refine z_iconst hX dX8_moveMan_154 qi_1 155 rfl ?_
                  refine z_icmp_ne hX dX8_moveMan_155 164 158 (by decide) rfl (fun hc => ?_) (fun hc => ?_)
                  · rw [if_neg hc] at h22_
                    exact z_return hX dX8_moveMan_164 (zend_v h22_)
                  · rw [if_pos hc] at h22_
                    refine z_aload_n hX dX8_moveMan_158 rfl 159 rfl ?_
                    refine z_iload_n hX dX8_moveMan_159 rfl 160 rfl ?_
                    refine z_iload_n hX dX8_moveMan_160 rfl 161 rfl ?_
                    obtain ⟨M23_, hq, h24_⟩ := zcV_of h22_
                    refine z_callV hX vX8_saveThing lX8_174 dX8_moveMan_161 (zsW0 hw) rfl (mX8_saveThing hw hq) (by decide) rfl rfl (Nat.le_of_ble_eq_true rfl) 164 rfl (Qv.to (fun M' hv => ?_))
                    subst hv
                    exact z_return hX dX8_moveMan_164 (zend_v h24_)
              · rw [if_pos hc] at h15_
                refine z_aload_n hX dX8_moveMan_103 rfl 104 rfl ?_
                refine z_getF hX fX8_34 dX8_moveMan_104 (zsW0 hw) (by decide) rfl 107 rfl ?_
                refine z_iload_n hX dX8_moveMan_107 rfl 108 rfl ?_
                obtain ⟨hb, h25_⟩ := zgd h15_
                refine z_iald hX dX8_moveMan_108 (zsW8 hw) (zok_in hb) 109 rfl ?_
                refine z_if_ne hX dX8_moveMan_109 164 112 (by decide) rfl (fun hc => ?_) (fun hc => ?_)
                · rw [if_neg hc] at h25_
                  exact z_return hX dX8_moveMan_164 (zend_v h25_)
                · rw [if_pos hc] at h25_
                  refine z_aload_n hX dX8_moveMan_112 rfl 113 rfl ?_
                  refine z_getF hX fX8_34 dX8_moveMan_113 (zsW0 hw) (by decide) rfl 116 rfl ?_
                  refine z_iload_n hX dX8_moveMan_116 rfl 117 rfl ?_
                  refine z_iconst hX dX8_moveMan_117 qi_1 118 rfl ?_
                  obtain ⟨hb, h26_⟩ := zgd h25_
                  refine z_iast hX dX8_moveMan_118 (zsW8 hw) (zok_in hb) 119 rfl ?_
                  refine z_mem h26_ (fun M27_ h28_ => ?_)
                  refine z_goto hX dX8_moveMan_119 164 (by decide) ?_
                  exact z_return hX dX8_moveMan_164 (zend_v h28_)
            · rw [if_neg hc] at h11_
              refine z_aload_n hX dX8_moveMan_59 rfl 60 rfl ?_
              refine z_iload_n hX dX8_moveMan_60 rfl 61 rfl ?_
              refine z_iconst hX dX8_moveMan_61 qi_2 62 rfl ?_
              obtain ⟨M29_, hq, h30_⟩ := zcV_of h11_
              refine z_callV hX vX8_leaveThing lX8_171 dX8_moveMan_62 (zsW0 hw) rfl (mX8_leaveThing hw hq) (by decide) rfl rfl (Nat.le_of_ble_eq_true rfl) 65 rfl (Qv.to (fun M' hv => ?_))
              subst hv
              refine z_aload_n hX dX8_moveMan_65 rfl 66 rfl ?_
              refine z_getF hX fX8_34 dX8_moveMan_66 (zsW0 hw) (by decide) rfl 69 rfl ?_
              refine z_iload_n hX dX8_moveMan_69 rfl 70 rfl ?_
              obtain ⟨hb, h31_⟩ := zgd h30_
              refine z_iald hX dX8_moveMan_70 (zsW8 hw) (zok_in hb) 71 rfl ?_
              refine z_iconst hX dX8_moveMan_71 qi_1 72 rfl ?_
              refine z_icmp_ne hX dX8_moveMan_72 164 75 (by decide) rfl (fun hc => ?_) (fun hc => ?_)
              · rw [if_neg hc] at h31_
                exact z_return hX dX8_moveMan_164 (zend_v h31_)
              · rw [if_pos hc] at h31_
                refine z_aload_n hX dX8_moveMan_75 rfl 76 rfl ?_
                refine z_getF hX fX8_34 dX8_moveMan_76 (zsW0 hw) (by decide) rfl 79 rfl ?_
                refine z_iload_n hX dX8_moveMan_79 rfl 80 rfl ?_
                refine z_iconst hX dX8_moveMan_80 qi_3 81 rfl ?_
                obtain ⟨hb, h32_⟩ := zgd h31_
                refine z_iast hX dX8_moveMan_81 (zsW8 hw) (zok_in hb) 82 rfl ?_
                refine z_mem h32_ (fun M33_ h34_ => ?_)
                refine z_goto hX dX8_moveMan_82 164 (by decide) ?_
                exact z_return hX dX8_moveMan_164 (zend_v h34_)
          · rw [if_neg hc] at h4_
            exact z_return hX dX8_moveMan_38 (zend_v h4_)
      · rw [if_neg hc] at h1_
        exact z_return hX dX8_moveMan_20 (zend_v h1_)
def gX8_dares (w : Nat) (x1 : Int32) (x2 : Int32) (x3 : Int32) (M : zM) : Option (Int32 × zM) :=
  (if x1 < 0 then some (0, M)
  else (if x1 < 6 then zcV (gX8_setFacts w x1 x2 x3 M) (fun M1_ => zgP (M1_.2.2 w 0) (fun p3_ => zcLM (gX1_work p3_ 0 M1_) (fun v5_ M6_ => (if (lg_cmp v5_ (-9223372036854775808)) = 0 then zg (zok x1 6) (zg (zok x1 6) (zgP (M6_.2.2 w 0) (fun p10_ => zg (zok x1 6) ((if (((M6_.1 (w + 2) (x1 : Int32).toNatClampNeg) + (M6_.1 (w + 3) (x1 : Int32).toNatClampNeg)) + x3) < ((M6_.1 (p10_ + 2) (x1 : Int32).toNatClampNeg) + (M6_.1 w 11)) then some (0, M6_)
  else some (1, M6_))))))
  else (if (lg_cmp v5_ 0) = 0 then some (0, M6_)
  else some (1, M6_))))))
  else some (0, M)))
set_option maxRecDepth 100000 in
set_option maxHeartbeats 2000000 in
theorem mX8_dares {G : zG} {w : Nat} {x1 : Int32} {x2 : Int32} {x3 : Int32} {M : zM} (hw : isW w) {res : (Int32 × zM)} (h : gX8_dares w x1 x2 x3 M = some res) : Ct G 3 tX8_dares [.ref w, .int x1, .int x2, .int x3] M (zQi res) := by
  unfold gX8_dares at h
  refine Ct.of (y := yX8_dares) rfl plX8 (Nat.le_of_ble_eq_true rfl) (fun X hX => ?_)
  replace hX : zC G X cX8_dares 6 RX8 (some .boolean) 3 := hX
  show Z G X _ 0 [some (.ref w), some (.int x1), some (.int x2), some (.int x3), none, none] [] M
  refine z_iload_n hX dX8_dares_0 rfl 1 rfl ?_
  refine z_if_lt hX dX8_dares_1 10 4 (by decide) rfl (fun hc => ?_) (fun hc => ?_)
  · rw [if_pos hc] at h
    refine z_iconst hX dX8_dares_10 qi_0 11 rfl ?_
    exact z_zreturn hX dX8_dares_11 (by decide) (zend_i h)
  · rw [if_neg hc] at h
    refine z_iload_n hX dX8_dares_4 rfl 5 rfl ?_
    refine z_bipush hX dX8_dares_5 qb_6 7 rfl ?_
    refine z_icmp_lt hX dX8_dares_7 12 10 (by decide) rfl (fun hc => ?_) (fun hc => ?_)
    · rw [if_pos hc] at h
      refine z_aload_n hX dX8_dares_12 rfl 13 rfl ?_
      refine z_iload_n hX dX8_dares_13 rfl 14 rfl ?_
      refine z_iload_n hX dX8_dares_14 rfl 15 rfl ?_
      refine z_iload_n hX dX8_dares_15 rfl 16 rfl ?_
      obtain ⟨M1_, hq, h2_⟩ := zcV_of h
      refine z_callV hX vX8_setFacts lX8_119 dX8_dares_16 (zsW0 hw) rfl (mX8_setFacts hw hq) (by decide) rfl rfl (Nat.le_of_ble_eq_true rfl) 19 rfl (Qv.to (fun M' hv => ?_))
      subst hv
      refine z_aload_n hX dX8_dares_19 rfl 20 rfl ?_
      obtain ⟨p3_, hm, hp3_, h4_⟩ := zgP_of h2_
      refine z_getR hX fX8_40 dX8_dares_20 (zsW0 hw) (by decide) rfl hm 23 rfl ?_
      refine z_getF hX fX8_100 dX8_dares_23 (zsP0 hp3_) (by decide) rfl 26 rfl ?_
      refine z_iconst hX dX8_dares_26 qi_0 27 rfl ?_
      obtain ⟨v5_, M6_, hq, h7_⟩ := zcLM_of h4_
      refine z_callV hX vX1_work lX8_123 dX8_dares_27 (zsP14 hp3_) rfl (mX1_work hp3_ hq) (by decide) rfl rfl (Nat.le_of_ble_eq_true rfl) 30 rfl (Ql.to (fun v' M' hv => ?_))
      cases hv
      refine z_lstore hX dX8_dares_30 (by decide) 32 rfl ?_
      refine z_lload hX dX8_dares_32 rfl 34 rfl ?_
      refine z_ldc2 hX dX8_dares_34 kX8_127 37 rfl ?_
      refine z_lcmp hX dX8_dares_37 38 rfl ?_
      refine z_if_ne hX dX8_dares_38 79 41 (by decide) rfl (fun hc => ?_) (fun hc => ?_)
      · rw [if_neg hc] at h7_
        refine z_lload hX dX8_dares_79 rfl 81 rfl ?_
        refine z_lconst hX dX8_dares_81 ql_0 82 rfl ?_
        refine z_lcmp hX dX8_dares_82 83 rfl ?_
        refine z_if_eq hX dX8_dares_83 90 86 (by decide) rfl (fun hc => ?_) (fun hc => ?_)
        · rw [if_pos hc] at h7_
          refine z_iconst hX dX8_dares_90 qi_0 91 rfl ?_
          exact z_zreturn hX dX8_dares_91 (by decide) (zend_i h7_)
        · rw [if_neg hc] at h7_
          refine z_iconst hX dX8_dares_86 qi_1 87 rfl ?_
          refine z_goto hX dX8_dares_87 91 (by decide) ?_
          exact z_zreturn hX dX8_dares_91 (by decide) (zend_i h7_)
      · rw [if_pos hc] at h7_
        refine z_aload_n hX dX8_dares_41 rfl 42 rfl ?_
        refine z_getF hX fX8_15 dX8_dares_42 (zsW0 hw) (by decide) rfl 45 rfl ?_
        refine z_iload_n hX dX8_dares_45 rfl 46 rfl ?_
        obtain ⟨hb, h8_⟩ := zgd h7_
        refine z_iald hX dX8_dares_46 (zsW2 hw) (zok_in hb) 47 rfl ?_
        refine z_aload_n hX dX8_dares_47 rfl 48 rfl ?_
        refine z_getF hX fX8_18 dX8_dares_48 (zsW0 hw) (by decide) rfl 51 rfl ?_
        refine z_iload_n hX dX8_dares_51 rfl 52 rfl ?_
        obtain ⟨hb, h9_⟩ := zgd h8_
        refine z_iald hX dX8_dares_52 (zsW3 hw) (zok_in hb) 53 rfl ?_
        refine z_iadd hX dX8_dares_53 54 rfl ?_
        refine z_iload_n hX dX8_dares_54 rfl 55 rfl ?_
        refine z_iadd hX dX8_dares_55 56 rfl ?_
        refine z_aload_n hX dX8_dares_56 rfl 57 rfl ?_
        obtain ⟨p10_, hm, hp10_, h11_⟩ := zgP_of h9_
        refine z_getR hX fX8_40 dX8_dares_57 (zsW0 hw) (by decide) rfl hm 60 rfl ?_
        refine z_getF hX fX8_110 dX8_dares_60 (zsP0 hp10_) (by decide) rfl 63 rfl ?_
        refine z_iload_n hX dX8_dares_63 rfl 64 rfl ?_
        obtain ⟨hb, h12_⟩ := zgd h11_
        refine z_iald hX dX8_dares_64 (zsP2 hp10_) (zok_in hb) 65 rfl ?_
        refine z_aload_n hX dX8_dares_65 rfl 66 rfl ?_
        refine z_getI hX fX8_56 dX8_dares_66 (zsW0 hw) (by decide) rfl 69 rfl ?_
        refine z_iadd hX dX8_dares_69 70 rfl ?_
        refine z_icmp_lt hX dX8_dares_70 77 73 (by decide) rfl (fun hc => ?_) (fun hc => ?_)
        · rw [if_pos hc] at h12_
          refine z_iconst hX dX8_dares_77 qi_0 78 rfl ?_
          exact z_zreturn hX dX8_dares_78 (by decide) (zend_i h12_)
        · rw [if_neg hc] at h12_
          refine z_iconst hX dX8_dares_73 qi_1 74 rfl ?_
          refine z_goto hX dX8_dares_74 78 (by decide) ?_
          exact z_zreturn hX dX8_dares_78 (by decide) (zend_i h12_)
    · rw [if_neg hc] at h
      refine z_iconst hX dX8_dares_10 qi_0 11 rfl ?_
      exact z_zreturn hX dX8_dares_11 (by decide) (zend_i h)
def gX8_sendMan (w : Nat) (x1 : Int32) (M : zM) : Option zM :=
  (if x1 < 0 then some M
  else (if 6 ≤ x1 then some M
  else zg (zok x1 6) ((if (M.1 (w + 4) (x1 : Int32).toNatClampNeg) = 0 then zg (zok x1 6) ((if (M.1 (w + 7) (x1 : Int32).toNatClampNeg) = 0 then zcI (gX8_freeThing w M) (fun v3_ => (if v3_ < 0 then some M
  else zcIM (gX8_dares w x1 v3_ 0 M) (fun v5_ M6_ => (if v5_ = 0 then some M6_
  else zg (zok x1 6) (zlet (zI M6_ (w + 4) (x1 : Int32).toNatClampNeg 1) (fun M9_ => zg (zok x1 6) (zlet (zI M9_ (w + 5) (x1 : Int32).toNatClampNeg v3_) (fun M12_ => zg (zok x1 6) (zlet (zI M12_ (w + 6) (x1 : Int32).toNatClampNeg 0) (fun M15_ => zlet (zI M15_ w 15 ((M15_.1 w 15) ||| ((1 : Int32) <<< ((x1 : Int32) &&& 31)))) (fun M17_ => some M17_)))))))))))
  else some M))
  else some M))))
set_option maxRecDepth 100000 in
set_option maxHeartbeats 2000000 in
theorem mX8_sendMan {G : zG} {w : Nat} {x1 : Int32} {M : zM} (hw : isW w) {res : zM} (h : gX8_sendMan w x1 M = some res) : Ct G 4 tX8_sendMan [.ref w, .int x1] M (zQv res) := by
  unfold gX8_sendMan at h
  refine Ct.of (y := yX8_sendMan) rfl plX8 (Nat.le_of_ble_eq_true rfl) (fun X hX => ?_)
  replace hX : zC G X cX8_sendMan 3 RX8 none 4 := hX
  show Z G X _ 0 [some (.ref w), some (.int x1), none] [] M
  refine z_iload_n hX dX8_sendMan_0 rfl 1 rfl ?_
  refine z_if_lt hX dX8_sendMan_1 28 4 (by decide) rfl (fun hc => ?_) (fun hc => ?_)
  · rw [if_pos hc] at h
    exact z_return hX dX8_sendMan_28 (zend_v h)
  · rw [if_neg hc] at h
    refine z_iload_n hX dX8_sendMan_4 rfl 5 rfl ?_
    refine z_bipush hX dX8_sendMan_5 qb_6 7 rfl ?_
    refine z_icmp_ge hX dX8_sendMan_7 28 10 (by decide) rfl (fun hc => ?_) (fun hc => ?_)
    · rw [if_pos hc] at h
      exact z_return hX dX8_sendMan_28 (zend_v h)
    · rw [if_neg hc] at h
      refine z_aload_n hX dX8_sendMan_10 rfl 11 rfl ?_
      refine z_getF hX fX8_21 dX8_sendMan_11 (zsW0 hw) (by decide) rfl 14 rfl ?_
      refine z_iload_n hX dX8_sendMan_14 rfl 15 rfl ?_
      obtain ⟨hb, h1_⟩ := zgd h
      refine z_iald hX dX8_sendMan_15 (zsW4 hw) (zok_in hb) 16 rfl ?_
      refine z_if_ne hX dX8_sendMan_16 28 19 (by decide) rfl (fun hc => ?_) (fun hc => ?_)
      · rw [if_neg hc] at h1_
        exact z_return hX dX8_sendMan_28 (zend_v h1_)
      · rw [if_pos hc] at h1_
        refine z_aload_n hX dX8_sendMan_19 rfl 20 rfl ?_
        refine z_getF hX fX8_30 dX8_sendMan_20 (zsW0 hw) (by decide) rfl 23 rfl ?_
        refine z_iload_n hX dX8_sendMan_23 rfl 24 rfl ?_
        obtain ⟨hb, h2_⟩ := zgd h1_
        refine z_zald hX dX8_sendMan_24 (zsW7 hw) (zok_in hb) 25 rfl ?_
        refine z_if_eq hX dX8_sendMan_25 29 28 (by decide) rfl (fun hc => ?_) (fun hc => ?_)
        · rw [if_pos hc] at h2_
          refine z_aload_n hX dX8_sendMan_29 rfl 30 rfl ?_
          obtain ⟨v3_, hq, h4_⟩ := zcI_of h2_
          refine z_callV hX vX8_freeThing lX8_160 dX8_sendMan_30 (zsW0 hw) rfl (mX8_freeThing hw hq) (by decide) rfl rfl (Nat.le_of_ble_eq_true rfl) 33 rfl (Qi.to (fun v' M' hv => ?_))
          obtain ⟨rfl, rfl⟩ := hv
          refine z_istore_n hX dX8_sendMan_33 (by decide) 34 rfl ?_
          refine z_iload_n hX dX8_sendMan_34 rfl 35 rfl ?_
          refine z_if_lt hX dX8_sendMan_35 81 38 (by decide) rfl (fun hc => ?_) (fun hc => ?_)
          · rw [if_pos hc] at h4_
            exact z_return hX dX8_sendMan_81 (zend_v h4_)
          · rw [if_neg hc] at h4_
            refine z_aload_n hX dX8_sendMan_38 rfl 39 rfl ?_
            refine z_iload_n hX dX8_sendMan_39 rfl 40 rfl ?_
            refine z_iload_n hX dX8_sendMan_40 rfl 41 rfl ?_
            refine z_iconst hX dX8_sendMan_41 qi_0 42 rfl ?_
            obtain ⟨v5_, M6_, hq, h7_⟩ := zcIM_of h4_
            refine z_callV hX vX8_dares lX8_164 dX8_sendMan_42 (zsW0 hw) rfl (mX8_dares hw hq) (by decide) rfl rfl (Nat.le_of_ble_eq_true rfl) 45 rfl (Qi.to (fun v' M' hv => ?_))
            cases hv
            refine z_if_eq hX dX8_sendMan_45 81 48 (by decide) rfl (fun hc => ?_) (fun hc => ?_)
            · rw [if_pos hc] at h7_
              exact z_return hX dX8_sendMan_81 (zend_v h7_)
            · rw [if_neg hc] at h7_
              refine z_aload_n hX dX8_sendMan_48 rfl 49 rfl ?_
              refine z_getF hX fX8_21 dX8_sendMan_49 (zsW0 hw) (by decide) rfl 52 rfl ?_
              refine z_iload_n hX dX8_sendMan_52 rfl 53 rfl ?_
              refine z_iconst hX dX8_sendMan_53 qi_1 54 rfl ?_
              obtain ⟨hb, h8_⟩ := zgd h7_
              refine z_iast hX dX8_sendMan_54 (zsW4 hw) (zok_in hb) 55 rfl ?_
              refine z_mem h8_ (fun M9_ h10_ => ?_)
              refine z_aload_n hX dX8_sendMan_55 rfl 56 rfl ?_
              refine z_getF hX fX8_24 dX8_sendMan_56 (zsW0 hw) (by decide) rfl 59 rfl ?_
              refine z_iload_n hX dX8_sendMan_59 rfl 60 rfl ?_
              refine z_iload_n hX dX8_sendMan_60 rfl 61 rfl ?_
              obtain ⟨hb, h11_⟩ := zgd h10_
              refine z_iast hX dX8_sendMan_61 (zsW5 hw) (zok_in hb) 62 rfl ?_
              refine z_mem h11_ (fun M12_ h13_ => ?_)
              refine z_aload_n hX dX8_sendMan_62 rfl 63 rfl ?_
              refine z_getF hX fX8_27 dX8_sendMan_63 (zsW0 hw) (by decide) rfl 66 rfl ?_
              refine z_iload_n hX dX8_sendMan_66 rfl 67 rfl ?_
              refine z_iconst hX dX8_sendMan_67 qi_0 68 rfl ?_
              obtain ⟨hb, h14_⟩ := zgd h13_
              refine z_iast hX dX8_sendMan_68 (zsW6 hw) (zok_in hb) 69 rfl ?_
              refine z_mem h14_ (fun M15_ h16_ => ?_)
              refine z_aload_n hX dX8_sendMan_69 rfl 70 rfl ?_
              refine z_dup hX dX8_sendMan_70 rfl 71 rfl ?_
              refine z_getI hX fX8_71 dX8_sendMan_71 (zsW0 hw) (by decide) rfl 74 rfl ?_
              refine z_iconst hX dX8_sendMan_74 qi_1 75 rfl ?_
              refine z_iload_n hX dX8_sendMan_75 rfl 76 rfl ?_
              refine z_ishl hX dX8_sendMan_76 77 rfl ?_
              refine z_ior hX dX8_sendMan_77 78 rfl ?_
              refine z_putI hX pX8_71 dX8_sendMan_78 (zsW0 hw) (by decide) rfl 81 rfl ?_
              refine z_mem h16_ (fun M17_ h18_ => ?_)
              exact z_return hX dX8_sendMan_81 (zend_v h18_)
        · rw [if_neg hc] at h2_
          exact z_return hX dX8_sendMan_28 (zend_v h2_)
def gX8_payLook (w : Nat) (x1 : Int32) (x2 : Int32) (M : zM) : Option zM :=
  (if x2 ≤ (M.1 w 12) then (if x1 < 0 then some M
  else (if 6 ≤ x1 then some M
  else zlet (zI M w 12 ((M.1 w 12) - x2)) (fun M1_ => zg (zok x1 6) (zg (zok x1 6) (zlet (zI M1_ (w + 3) (x1 : Int32).toNatClampNeg ((M1_.1 (w + 3) (x1 : Int32).toNatClampNeg) + x2)) (fun M5_ => some M5_))))))
  else zlet (zI M w 13 ((M.1 w 13) + 1)) (fun M7_ => some M7_))
set_option maxRecDepth 100000 in
set_option maxHeartbeats 2000000 in
theorem mX8_payLook {G : zG} {w : Nat} {x1 : Int32} {x2 : Int32} {M : zM} (hw : isW w) {res : zM} (h : gX8_payLook w x1 x2 M = some res) : Ct G 1 tX8_payLook [.ref w, .int x1, .int x2] M (zQv res) := by
  unfold gX8_payLook at h
  refine Ct.of (y := yX8_payLook) rfl plX8 (Nat.le_of_ble_eq_true rfl) (fun X hX => ?_)
  replace hX : zC G X cX8_payLook 3 RX8 none 1 := hX
  show Z G X _ 0 [some (.ref w), some (.int x1), some (.int x2)] [] M
  refine z_aload_n hX dX8_payLook_0 rfl 1 rfl ?_
  refine z_getI hX fX8_62 dX8_payLook_1 (zsW0 hw) (by decide) rfl 4 rfl ?_
  refine z_iload_n hX dX8_payLook_4 rfl 5 rfl ?_
  refine z_icmp_ge hX dX8_payLook_5 21 8 (by decide) rfl (fun hc => ?_) (fun hc => ?_)
  · rw [if_pos hc] at h
    refine z_iload_n hX dX8_payLook_21 rfl 22 rfl ?_
    refine z_if_lt hX dX8_payLook_22 51 25 (by decide) rfl (fun hc => ?_) (fun hc => ?_)
    · rw [if_pos hc] at h
      exact z_return hX dX8_payLook_51 (zend_v h)
    · rw [if_neg hc] at h
      refine z_iload_n hX dX8_payLook_25 rfl 26 rfl ?_
      refine z_bipush hX dX8_payLook_26 qb_6 28 rfl ?_
      refine z_icmp_ge hX dX8_payLook_28 51 31 (by decide) rfl (fun hc => ?_) (fun hc => ?_)
      · rw [if_pos hc] at h
        exact z_return hX dX8_payLook_51 (zend_v h)
      · rw [if_neg hc] at h
        refine z_aload_n hX dX8_payLook_31 rfl 32 rfl ?_
        refine z_dup hX dX8_payLook_32 rfl 33 rfl ?_
        refine z_getI hX fX8_62 dX8_payLook_33 (zsW0 hw) (by decide) rfl 36 rfl ?_
        refine z_iload_n hX dX8_payLook_36 rfl 37 rfl ?_
        refine z_isub hX dX8_payLook_37 38 rfl ?_
        refine z_putI hX pX8_62 dX8_payLook_38 (zsW0 hw) (by decide) rfl 41 rfl ?_
        refine z_mem h (fun M1_ h2_ => ?_)
        refine z_aload_n hX dX8_payLook_41 rfl 42 rfl ?_
        refine z_getF hX fX8_18 dX8_payLook_42 (zsW0 hw) (by decide) rfl 45 rfl ?_
        refine z_iload_n hX dX8_payLook_45 rfl 46 rfl ?_
        refine z_dup2 hX dX8_payLook_46 rfl rfl 47 rfl ?_
        obtain ⟨hb, h3_⟩ := zgd h2_
        refine z_iald hX dX8_payLook_47 (zsW3 hw) (zok_in hb) 48 rfl ?_
        refine z_iload_n hX dX8_payLook_48 rfl 49 rfl ?_
        refine z_iadd hX dX8_payLook_49 50 rfl ?_
        obtain ⟨hb, h4_⟩ := zgd h3_
        refine z_iast hX dX8_payLook_50 (zsW3 hw) (zok_in hb) 51 rfl ?_
        refine z_mem h4_ (fun M5_ h6_ => ?_)
        exact z_return hX dX8_payLook_51 (zend_v h6_)
  · rw [if_neg hc] at h
    refine z_aload_n hX dX8_payLook_8 rfl 9 rfl ?_
    refine z_dup hX dX8_payLook_9 rfl 10 rfl ?_
    refine z_getI hX fX8_65 dX8_payLook_10 (zsW0 hw) (by decide) rfl 13 rfl ?_
    refine z_iconst hX dX8_payLook_13 qi_1 14 rfl ?_
    refine z_iadd hX dX8_payLook_14 15 rfl ?_
    refine z_putI hX pX8_65 dX8_payLook_15 (zsW0 hw) (by decide) rfl 18 rfl ?_
    refine z_mem h (fun M7_ h8_ => ?_)
    refine z_goto hX dX8_payLook_18 51 (by decide) ?_
    exact z_return hX dX8_payLook_51 (zend_v h8_)
def gX8_payLooks_L2 (w : Nat) (rc2 : (Int32 × zM) → Option zM) (s : (Int32 × zM)) : Option zM :=
  zgP (s.2.2.2 w 0) (fun p1_ => (if (s.2.1 p1_ 10) ≤ s.1 then some s.2
  else (if 10 ≤ s.1 then some s.2
  else zgP (s.2.2.2 w 0) (fun p3_ => zg (zok s.1 10) ((if (s.2.1 (p3_ + 10) (s.1 : Int32).toNatClampNeg) = (s.2.1 w 10) then zgP (s.2.2.2 w 0) (fun p6_ => zg (zok s.1 10) (zgP (s.2.2.2 w 0) (fun p9_ => zg (zok s.1 10) (zcV (gX8_payLook w (s.2.1 (p6_ + 9) (s.1 : Int32).toNatClampNeg) (s.2.1 (p9_ + 11) (s.1 : Int32).toNatClampNeg) s.2) (fun M12_ => rc2 ((s.1 + 1), M12_))))))
  else rc2 ((s.1 + 1), s.2)))))))
set_option maxRecDepth 100000 in
set_option maxHeartbeats 2000000 in
theorem aX8_payLooks_L2 {G : zG} {X : zX} {w : Nat} (hX : zC G X cX8_payLooks 2 RX8 none 2) (hw : isW w)   {res : zM}  : ∀ (N : Nat) (s : (Int32 × zM)), zfix N (gX8_payLooks_L2 w) s = some res → Z G X (zQv res) 2 [some (.ref w), some (.int s.1)] [] s.2 := by
  intro N
  induction N with
  | zero => intro s h; cases h
  | succ N hrc2 =>
    intro s h
    replace h : gX8_payLooks_L2 w (zfix N (gX8_payLooks_L2 w)) s = some res := h
    unfold gX8_payLooks_L2 at h
    refine z_iload_n hX dX8_payLooks_2 rfl 3 rfl ?_
    refine z_aload_n hX dX8_payLooks_3 rfl 4 rfl ?_
    obtain ⟨p1_, hm, hp1_, h2_⟩ := zgP_of h
    refine z_getR hX fX8_40 dX8_payLooks_4 (zsW0 hw) (by decide) rfl hm 7 rfl ?_
    refine z_getI hX fX8_146 dX8_payLooks_7 (zsP0 hp1_) (by decide) rfl 10 rfl ?_
    refine z_icmp_ge hX dX8_payLooks_10 63 13 (by decide) rfl (fun hc => ?_) (fun hc => ?_)
    · rw [if_pos hc] at h2_
      exact z_return hX dX8_payLooks_63 (zend_v h2_)
    · rw [if_neg hc] at h2_
      refine z_iload_n hX dX8_payLooks_13 rfl 14 rfl ?_
      refine z_bipush hX dX8_payLooks_14 qb_10 16 rfl ?_
      refine z_icmp_ge hX dX8_payLooks_16 63 19 (by decide) rfl (fun hc => ?_) (fun hc => ?_)
      · rw [if_pos hc] at h2_
        exact z_return hX dX8_payLooks_63 (zend_v h2_)
      · rw [if_neg hc] at h2_
        refine z_aload_n hX dX8_payLooks_19 rfl 20 rfl ?_
        obtain ⟨p3_, hm, hp3_, h4_⟩ := zgP_of h2_
        refine z_getR hX fX8_40 dX8_payLooks_20 (zsW0 hw) (by decide) rfl hm 23 rfl ?_
        refine z_getF hX fX8_148 dX8_payLooks_23 (zsP0 hp3_) (by decide) rfl 26 rfl ?_
        refine z_iload_n hX dX8_payLooks_26 rfl 27 rfl ?_
        obtain ⟨hb, h5_⟩ := zgd h4_
        refine z_iald hX dX8_payLooks_27 (zsP10 hp3_) (zok_in hb) 28 rfl ?_
        refine z_aload_n hX dX8_payLooks_28 rfl 29 rfl ?_
        refine z_getI hX fX8_52 dX8_payLooks_29 (zsW0 hw) (by decide) rfl 32 rfl ?_
        refine z_icmp_ne hX dX8_payLooks_32 57 35 (by decide) rfl (fun hc => ?_) (fun hc => ?_)
        · rw [if_neg hc] at h5_
          refine z_iinc (v := (s.1 + 1)) hX dX8_payLooks_57 rfl (by rfl) (by decide) 60 rfl ?_
          refine z_goto hX dX8_payLooks_60 2 (by decide) ?_
          refine z_mask [true, true] ?_
          have hz := hrc2 _ h5_
          exact hz
        · rw [if_pos hc] at h5_
          refine z_aload_n hX dX8_payLooks_35 rfl 36 rfl ?_
          refine z_aload_n hX dX8_payLooks_36 rfl 37 rfl ?_
          obtain ⟨p6_, hm, hp6_, h7_⟩ := zgP_of h5_
          refine z_getR hX fX8_40 dX8_payLooks_37 (zsW0 hw) (by decide) rfl hm 40 rfl ?_
          refine z_getF hX fX8_151 dX8_payLooks_40 (zsP0 hp6_) (by decide) rfl 43 rfl ?_
          refine z_iload_n hX dX8_payLooks_43 rfl 44 rfl ?_
          obtain ⟨hb, h8_⟩ := zgd h7_
          refine z_iald hX dX8_payLooks_44 (zsP9 hp6_) (zok_in hb) 45 rfl ?_
          refine z_aload_n hX dX8_payLooks_45 rfl 46 rfl ?_
          obtain ⟨p9_, hm, hp9_, h10_⟩ := zgP_of h8_
          refine z_getR hX fX8_40 dX8_payLooks_46 (zsW0 hw) (by decide) rfl hm 49 rfl ?_
          refine z_getF hX fX8_154 dX8_payLooks_49 (zsP0 hp9_) (by decide) rfl 52 rfl ?_
          refine z_iload_n hX dX8_payLooks_52 rfl 53 rfl ?_
          obtain ⟨hb, h11_⟩ := zgd h10_
          refine z_iald hX dX8_payLooks_53 (zsP11 hp9_) (zok_in hb) 54 rfl ?_
          obtain ⟨M12_, hq, h13_⟩ := zcV_of h11_
          refine z_callV hX vX8_payLook lX8_157 dX8_payLooks_54 (zsW0 hw) rfl (mX8_payLook hw hq) (by decide) rfl rfl (Nat.le_of_ble_eq_true rfl) 57 rfl (Qv.to (fun M' hv => ?_))
          subst hv
          refine z_iinc (v := (s.1 + 1)) hX dX8_payLooks_57 rfl (by rfl) (by decide) 60 rfl ?_
          refine z_goto hX dX8_payLooks_60 2 (by decide) ?_
          refine z_mask [true, true] ?_
          have hz := hrc2 _ h13_
          exact hz
def gX8_payLooks (w : Nat) (M : zM) : Option zM :=
  zfix zFu (gX8_payLooks_L2 w) (0, M)
set_option maxRecDepth 100000 in
set_option maxHeartbeats 2000000 in
theorem mX8_payLooks {G : zG} {w : Nat} {M : zM} (hw : isW w) {res : zM} (h : gX8_payLooks w M = some res) : Ct G 2 tX8_payLooks [.ref w] M (zQv res) := by
  unfold gX8_payLooks at h
  refine Ct.of (y := yX8_payLooks) rfl plX8 (Nat.le_of_ble_eq_true rfl) (fun X hX => ?_)
  replace hX : zC G X cX8_payLooks 2 RX8 none 2 := hX
  show Z G X _ 0 [some (.ref w), none] [] M
  refine z_iconst hX dX8_payLooks_0 qi_0 1 rfl ?_
  refine z_istore_n hX dX8_payLooks_1 (by decide) 2 rfl ?_
  refine z_mask [true, true] ?_
  have hz := aX8_payLooks_L2 hX hw _ _ h
  exact hz
