def gX10_dares_J42 (x1 : Int32) (x2 : Int32) (x4 : Int32) (M : zM) : Option (Int32 × zM) :=
  zg (zok ((6 * x1) + x2) 138) (zg (zok ((6 * x1) + x2) 138) (zg (zok x2 12) (zg (zok x1 23) ((if (((M.1 123 (((6 * x1) + x2) : Int32).toNatClampNeg) + (M.1 124 (((6 * x1) + x2) : Int32).toNatClampNeg)) + x4) < ((M.1 102 (x2 : Int32).toNatClampNeg) + (M.1 120 (x1 : Int32).toNatClampNeg)) then some (0, M)
  else some (1, M))))))
set_option maxRecDepth 100000 in
set_option maxHeartbeats 2000000 in
theorem aX10_dares_J42 {G : zG} {X : zX} {x1 : Int32} {x2 : Int32} {x4 : Int32} (hX : zC G X cX10_dares 5 RX10 (some .boolean) 4)   {M : zM} {res : (Int32 × zM)}  (h : gX10_dares_J42 x1 x2 x4 M = some res) : Z G X (zQi res) 42 [some (.ref 98), some (.int x1), some (.int x2), none, some (.int x4)] [] M := by
  unfold gX10_dares_J42 at h
  refine z_aload_n hX dX10_dares_42 rfl 43 rfl ?_
  refine z_getF hX fX10_87 dX10_dares_43 zs_98 (by decide) rfl 46 rfl ?_
  refine z_bipush hX dX10_dares_46 qb_6 48 rfl ?_
  refine z_iload_n hX dX10_dares_48 rfl 49 rfl ?_
  refine z_imul hX dX10_dares_49 50 rfl ?_
  refine z_iload_n hX dX10_dares_50 rfl 51 rfl ?_
  refine z_iadd hX dX10_dares_51 52 rfl ?_
  obtain ⟨hb, h5_⟩ := zgd h
  refine z_iald hX dX10_dares_52 zs_123 (zok_in hb) 53 rfl ?_
  refine z_aload_n hX dX10_dares_53 rfl 54 rfl ?_
  refine z_getF hX fX10_90 dX10_dares_54 zs_98 (by decide) rfl 57 rfl ?_
  refine z_bipush hX dX10_dares_57 qb_6 59 rfl ?_
  refine z_iload_n hX dX10_dares_59 rfl 60 rfl ?_
  refine z_imul hX dX10_dares_60 61 rfl ?_
  refine z_iload_n hX dX10_dares_61 rfl 62 rfl ?_
  refine z_iadd hX dX10_dares_62 63 rfl ?_
  obtain ⟨hb, h6_⟩ := zgd h5_
  refine z_iald hX dX10_dares_63 zs_124 (zok_in hb) 64 rfl ?_
  refine z_iadd hX dX10_dares_64 65 rfl ?_
  refine z_iload hX dX10_dares_65 rfl 67 rfl ?_
  refine z_iadd hX dX10_dares_67 68 rfl ?_
  refine z_aload_n hX dX10_dares_68 rfl 69 rfl ?_
  refine z_getF hX fX10_19 dX10_dares_69 zs_98 (by decide) rfl 72 rfl ?_
  refine z_iload_n hX dX10_dares_72 rfl 73 rfl ?_
  obtain ⟨hb, h7_⟩ := zgd h6_
  refine z_iald hX dX10_dares_73 zs_102 (zok_in hb) 74 rfl ?_
  refine z_aload_n hX dX10_dares_74 rfl 75 rfl ?_
  refine z_getF hX fX10_78 dX10_dares_75 zs_98 (by decide) rfl 78 rfl ?_
  refine z_iload_n hX dX10_dares_78 rfl 79 rfl ?_
  obtain ⟨hb, h8_⟩ := zgd h7_
  refine z_iald hX dX10_dares_79 zs_120 (zok_in hb) 80 rfl ?_
  refine z_iadd hX dX10_dares_80 81 rfl ?_
  refine z_icmp_lt hX dX10_dares_81 88 84 (by decide) rfl (fun hc => ?_) (fun hc => ?_)
  · rw [if_pos hc] at h8_
    refine z_iconst hX dX10_dares_88 qi_0 89 rfl ?_
    exact z_zreturn hX dX10_dares_89 (by decide) (zend_i h8_)
  · rw [if_neg hc] at h8_
    refine z_iconst hX dX10_dares_84 qi_1 85 rfl ?_
    refine z_goto hX dX10_dares_85 89 (by decide) ?_
    exact z_zreturn hX dX10_dares_89 (by decide) (zend_i h8_)
def gX10_dares (x1 : Int32) (x2 : Int32) (x3 : Int32) (x4 : Int32) (M : zM) : Option (Int32 × zM) :=
  zcV (gX10_calls x1 x2 x3 x4 M) (fun M1_ => zcI (gX10_hasLaw 0 M1_) (fun v3_ => (if v3_ = 0 then gX10_dares_J42 x1 x2 x4 M1_
  else zcIM (gX10_comesOut 0 M1_) (fun v9_ M10_ => (if v9_ = 0 then gX10_dares_J42 x1 x2 x4 M10_
  else (if (lg_cmp (M10_.2.1 117 (0 : Int32).toNatClampNeg) 0) = 0 then some (0, M10_)
  else some (1, M10_)))))))
set_option maxRecDepth 100000 in
set_option maxHeartbeats 2000000 in
theorem mX10_dares {G : zG} {x1 : Int32} {x2 : Int32} {x3 : Int32} {x4 : Int32} {M : zM}  {res : (Int32 × zM)} (h : gX10_dares x1 x2 x3 x4 M = some res) : Ct G 4 tX10_dares [.ref 98, .int x1, .int x2, .int x3, .int x4] M (zQi res) := by
  unfold gX10_dares at h
  refine Ct.of (y := yX10_dares) rfl plX10 (Nat.le_of_ble_eq_true rfl) (fun X hX => ?_)
  replace hX : zC G X cX10_dares 5 RX10 (some .boolean) 4 := hX
  show Z G X _ 0 [some (.ref 98), some (.int x1), some (.int x2), some (.int x3), some (.int x4)] [] M
  refine z_aload_n hX dX10_dares_0 rfl 1 rfl ?_
  refine z_iload_n hX dX10_dares_1 rfl 2 rfl ?_
  refine z_iload_n hX dX10_dares_2 rfl 3 rfl ?_
  refine z_iload_n hX dX10_dares_3 rfl 4 rfl ?_
  refine z_iload hX dX10_dares_4 rfl 6 rfl ?_
  obtain ⟨M1_, hq, h2_⟩ := zcV_of h
  refine z_callV hX vX10_calls lX10_340 dX10_dares_6 zs_98 rfl (mX10_calls  hq) (by decide) rfl rfl (Nat.le_of_ble_eq_true rfl) 9 rfl (Qv.to (fun M' hv => ?_))
  subst hv
  refine z_aload_n hX dX10_dares_9 rfl 10 rfl ?_
  refine z_iconst hX dX10_dares_10 qi_0 11 rfl ?_
  obtain ⟨v3_, hq, h4_⟩ := zcI_of h2_
  refine z_callV hX vX10_hasLaw lX10_344 dX10_dares_11 zs_98 rfl (mX10_hasLaw  hq) (by decide) rfl rfl (Nat.le_of_ble_eq_true rfl) 14 rfl (Qi.to (fun v' M' hv => ?_))
  obtain ⟨rfl, rfl⟩ := hv
  refine z_if_eq hX dX10_dares_14 42 17 (by decide) rfl (fun hc => ?_) (fun hc => ?_)
  · rw [if_pos hc] at h4_
    refine z_mask [true, true, true, false, true] ?_
    have hz := aX10_dares_J42 hX h4_
    exact hz
  · rw [if_neg hc] at h4_
    refine z_aload_n hX dX10_dares_17 rfl 18 rfl ?_
    refine z_iconst hX dX10_dares_18 qi_0 19 rfl ?_
    obtain ⟨v9_, M10_, hq, h11_⟩ := zcIM_of h4_
    refine z_callV hX vX10_comesOut lX10_347 dX10_dares_19 zs_98 rfl (mX10_comesOut  hq) (by decide) rfl rfl (Nat.le_of_ble_eq_true rfl) 22 rfl (Qi.to (fun v' M' hv => ?_))
    cases hv
    refine z_if_eq hX dX10_dares_22 42 25 (by decide) rfl (fun hc => ?_) (fun hc => ?_)
    · rw [if_pos hc] at h11_
      refine z_mask [true, true, true, false, true] ?_
      have hz := aX10_dares_J42 hX h11_
      exact hz
    · rw [if_neg hc] at h11_
      refine z_aload_n hX dX10_dares_25 rfl 26 rfl ?_
      refine z_getF hX fX10_69 dX10_dares_26 zs_98 (by decide) rfl 29 rfl ?_
      refine z_iconst hX dX10_dares_29 qi_0 30 rfl ?_
      refine z_lald hX dX10_dares_30 zs_117 (zok_in (by decide)) 31 rfl ?_
      refine z_lconst hX dX10_dares_31 ql_0 32 rfl ?_
      refine z_lcmp hX dX10_dares_32 33 rfl ?_
      refine z_if_eq hX dX10_dares_33 40 36 (by decide) rfl (fun hc => ?_) (fun hc => ?_)
      · rw [if_pos hc] at h11_
        refine z_iconst hX dX10_dares_40 qi_0 41 rfl ?_
        exact z_zreturn hX dX10_dares_41 (by decide) (zend_i h11_)
      · rw [if_neg hc] at h11_
        refine z_iconst hX dX10_dares_36 qi_1 37 rfl ?_
        refine z_goto hX dX10_dares_37 41 (by decide) ?_
        exact z_zreturn hX dX10_dares_41 (by decide) (zend_i h11_)
def gX10_entersIf_J49 (x1 : Int32) (x2 : Int32) (x3 : Int32) (x4 : Int32) (M : zM) : Option zM :=
  (if x4 = (-1) then some M
  else zcIM (gX10_dares x1 x2 x4 0 M) (fun v5_ M6_ => (if v5_ = 0 then some M6_
  else zg (zok x3 138) (zlet (zI M6_ 125 (x3 : Int32).toNatClampNeg 1) (fun M9_ => zg (zok x3 138) (zlet (zI M9_ 126 (x3 : Int32).toNatClampNeg x4) (fun M12_ => zg (zok x3 138) (zlet (zI M12_ 127 (x3 : Int32).toNatClampNeg 0) (fun M15_ => zlet (zI M15_ 98 53 ((M15_.1 98 53) ||| ((1 : Int32) <<< ((x2 : Int32) &&& 31)))) (fun M17_ => some M17_))))))))))
set_option maxRecDepth 100000 in
set_option maxHeartbeats 2000000 in
theorem aX10_entersIf_J49 {G : zG} {X : zX} {x1 : Int32} {x2 : Int32} {x3 : Int32} {x4 : Int32} (hX : zC G X cX10_entersIf 5 RX10 none 5)   {M : zM} {res : zM}  (h : gX10_entersIf_J49 x1 x2 x3 x4 M = some res) : Z G X (zQv res) 49 [some (.ref 98), some (.int x1), some (.int x2), some (.int x3), some (.int x4)] [] M := by
  unfold gX10_entersIf_J49 at h
  refine z_iload hX dX10_entersIf_49 rfl 51 rfl ?_
  refine z_iconst hX dX10_entersIf_51 qi_m1 52 rfl ?_
  refine z_icmp_eq hX dX10_entersIf_52 67 55 (by decide) rfl (fun hc => ?_) (fun hc => ?_)
  · rw [if_pos hc] at h
    exact z_return hX dX10_entersIf_67 (zend_v h)
  · rw [if_neg hc] at h
    refine z_aload_n hX dX10_entersIf_55 rfl 56 rfl ?_
    refine z_iload_n hX dX10_entersIf_56 rfl 57 rfl ?_
    refine z_iload_n hX dX10_entersIf_57 rfl 58 rfl ?_
    refine z_iload hX dX10_entersIf_58 rfl 60 rfl ?_
    refine z_iconst hX dX10_entersIf_60 qi_0 61 rfl ?_
    obtain ⟨v5_, M6_, hq, h7_⟩ := zcIM_of h
    refine z_callV hX vX10_dares lX10_363 dX10_entersIf_61 zs_98 rfl (mX10_dares  hq) (by decide) rfl rfl (Nat.le_of_ble_eq_true rfl) 64 rfl (Qi.to (fun v' M' hv => ?_))
    cases hv
    refine z_if_ne hX dX10_entersIf_64 68 67 (by decide) rfl (fun hc => ?_) (fun hc => ?_)
    · rw [if_neg hc] at h7_
      refine z_aload_n hX dX10_entersIf_68 rfl 69 rfl ?_
      refine z_getF hX fX10_93 dX10_entersIf_69 zs_98 (by decide) rfl 72 rfl ?_
      refine z_iload_n hX dX10_entersIf_72 rfl 73 rfl ?_
      refine z_iconst hX dX10_entersIf_73 qi_1 74 rfl ?_
      obtain ⟨hb, h8_⟩ := zgd h7_
      refine z_iast hX dX10_entersIf_74 zs_125 (zok_in hb) 75 rfl ?_
      refine z_mem h8_ (fun M9_ h10_ => ?_)
      refine z_aload_n hX dX10_entersIf_75 rfl 76 rfl ?_
      refine z_getF hX fX10_96 dX10_entersIf_76 zs_98 (by decide) rfl 79 rfl ?_
      refine z_iload_n hX dX10_entersIf_79 rfl 80 rfl ?_
      refine z_iload hX dX10_entersIf_80 rfl 82 rfl ?_
      obtain ⟨hb, h11_⟩ := zgd h10_
      refine z_iast hX dX10_entersIf_82 zs_126 (zok_in hb) 83 rfl ?_
      refine z_mem h11_ (fun M12_ h13_ => ?_)
      refine z_aload_n hX dX10_entersIf_83 rfl 84 rfl ?_
      refine z_getF hX fX10_99 dX10_entersIf_84 zs_98 (by decide) rfl 87 rfl ?_
      refine z_iload_n hX dX10_entersIf_87 rfl 88 rfl ?_
      refine z_iconst hX dX10_entersIf_88 qi_0 89 rfl ?_
      obtain ⟨hb, h14_⟩ := zgd h13_
      refine z_iast hX dX10_entersIf_89 zs_127 (zok_in hb) 90 rfl ?_
      refine z_mem h14_ (fun M15_ h16_ => ?_)
      refine z_aload_n hX dX10_entersIf_90 rfl 91 rfl ?_
      refine z_dup hX dX10_entersIf_91 rfl 92 rfl ?_
      refine z_getI hX fX10_367 dX10_entersIf_92 zs_98 (by decide) rfl 95 rfl ?_
      refine z_iconst hX dX10_entersIf_95 qi_1 96 rfl ?_
      refine z_iload_n hX dX10_entersIf_96 rfl 97 rfl ?_
      refine z_ishl hX dX10_entersIf_97 98 rfl ?_
      refine z_ior hX dX10_entersIf_98 99 rfl ?_
      refine z_putI hX pX10_367 dX10_entersIf_99 zs_98 (by decide) rfl 102 rfl ?_
      refine z_mem h16_ (fun M17_ h18_ => ?_)
      exact z_return hX dX10_entersIf_102 (zend_v h18_)
    · rw [if_pos hc] at h7_
      exact z_return hX dX10_entersIf_67 (zend_v h7_)
def gX10_entersIf (x1 : Int32) (x2 : Int32) (M : zM) : Option zM :=
  zcI (gX10_firstLeft x1 M) (fun v1_ => zg (zok ((6 * x1) + x2) 138) ((if (M.1 125 (((6 * x1) + x2) : Int32).toNatClampNeg) = 0 then zg (zok ((6 * x1) + x2) 138) ((if (M.1 128 (((6 * x1) + x2) : Int32).toNatClampNeg) = 1 then some M
  else (if (M.1 98 51) = 2 then (if x2 = (M.1 98 52) then some M
  else gX10_entersIf_J49 x1 x2 ((6 * x1) + x2) v1_ M)
  else gX10_entersIf_J49 x1 x2 ((6 * x1) + x2) v1_ M)))
  else some M)))
set_option maxRecDepth 100000 in
set_option maxHeartbeats 2000000 in
theorem mX10_entersIf {G : zG} {x1 : Int32} {x2 : Int32} {M : zM}  {res : zM} (h : gX10_entersIf x1 x2 M = some res) : Ct G 5 tX10_entersIf [.ref 98, .int x1, .int x2] M (zQv res) := by
  unfold gX10_entersIf at h
  refine Ct.of (y := yX10_entersIf) rfl plX10 (Nat.le_of_ble_eq_true rfl) (fun X hX => ?_)
  replace hX : zC G X cX10_entersIf 5 RX10 none 5 := hX
  show Z G X _ 0 [some (.ref 98), some (.int x1), some (.int x2), none, none] [] M
  refine z_bipush hX dX10_entersIf_0 qb_6 2 rfl ?_
  refine z_iload_n hX dX10_entersIf_2 rfl 3 rfl ?_
  refine z_imul hX dX10_entersIf_3 4 rfl ?_
  refine z_iload_n hX dX10_entersIf_4 rfl 5 rfl ?_
  refine z_iadd hX dX10_entersIf_5 6 rfl ?_
  refine z_istore_n hX dX10_entersIf_6 (by decide) 7 rfl ?_
  refine z_aload_n hX dX10_entersIf_7 rfl 8 rfl ?_
  refine z_iload_n hX dX10_entersIf_8 rfl 9 rfl ?_
  obtain ⟨v1_, hq, h2_⟩ := zcI_of h
  refine z_callV hX vX10_firstLeft lX10_357 dX10_entersIf_9 zs_98 rfl (mX10_firstLeft  hq) (by decide) rfl rfl (Nat.le_of_ble_eq_true rfl) 12 rfl (Qi.to (fun v' M' hv => ?_))
  obtain ⟨rfl, rfl⟩ := hv
  refine z_istore hX dX10_entersIf_12 (by decide) 14 rfl ?_
  refine z_aload_n hX dX10_entersIf_14 rfl 15 rfl ?_
  refine z_getF hX fX10_93 dX10_entersIf_15 zs_98 (by decide) rfl 18 rfl ?_
  refine z_iload_n hX dX10_entersIf_18 rfl 19 rfl ?_
  obtain ⟨hb, h3_⟩ := zgd h2_
  refine z_iald hX dX10_entersIf_19 zs_125 (zok_in hb) 20 rfl ?_
  refine z_if_ne hX dX10_entersIf_20 67 23 (by decide) rfl (fun hc => ?_) (fun hc => ?_)
  · rw [if_neg hc] at h3_
    exact z_return hX dX10_entersIf_67 (zend_v h3_)
  · rw [if_pos hc] at h3_
    refine z_aload_n hX dX10_entersIf_23 rfl 24 rfl ?_
    refine z_getF hX fX10_102 dX10_entersIf_24 zs_98 (by decide) rfl 27 rfl ?_
    refine z_iload_n hX dX10_entersIf_27 rfl 28 rfl ?_
    obtain ⟨hb, h4_⟩ := zgd h3_
    refine z_iald hX dX10_entersIf_28 zs_128 (zok_in hb) 29 rfl ?_
    refine z_iconst hX dX10_entersIf_29 qi_1 30 rfl ?_
    refine z_icmp_eq hX dX10_entersIf_30 67 33 (by decide) rfl (fun hc => ?_) (fun hc => ?_)
    · rw [if_pos hc] at h4_
      exact z_return hX dX10_entersIf_67 (zend_v h4_)
    · rw [if_neg hc] at h4_
      refine z_aload_n hX dX10_entersIf_33 rfl 34 rfl ?_
      refine z_getI hX fX10_360 dX10_entersIf_34 zs_98 (by decide) rfl 37 rfl ?_
      refine z_iconst hX dX10_entersIf_37 qi_2 38 rfl ?_
      refine z_icmp_ne hX dX10_entersIf_38 49 41 (by decide) rfl (fun hc => ?_) (fun hc => ?_)
      · rw [if_neg hc] at h4_
        refine z_mask [true, true, true, true, true] ?_
        have hz := aX10_entersIf_J49 hX h4_
        exact hz
      · rw [if_pos hc] at h4_
        refine z_iload_n hX dX10_entersIf_41 rfl 42 rfl ?_
        refine z_aload_n hX dX10_entersIf_42 rfl 43 rfl ?_
        refine z_getI hX fX10_114 dX10_entersIf_43 zs_98 (by decide) rfl 46 rfl ?_
        refine z_icmp_eq hX dX10_entersIf_46 67 49 (by decide) rfl (fun hc => ?_) (fun hc => ?_)
        · rw [if_pos hc] at h4_
          exact z_return hX dX10_entersIf_67 (zend_v h4_)
        · rw [if_neg hc] at h4_
          refine z_mask [true, true, true, true, true] ?_
          have hz := aX10_entersIf_J49 hX h4_
          exact hz
def gX10_looks_L2 (x1 : Int32) (rc2 : (Int32 × zM) → Option zM) (s : (Int32 × zM)) : Option zM :=
  (if (s.2.1 100 (2 : Int32).toNatClampNeg) ≤ s.1 then some s.2
  else zg (zok s.1 20) (zg (zok x1 23) ((if (s.2.1 110 (s.1 : Int32).toNatClampNeg) = (s.2.1 118 (x1 : Int32).toNatClampNeg) then zg (zok x1 23) (zg (zok s.1 20) ((if (s.2.1 111 (s.1 : Int32).toNatClampNeg) ≤ (s.2.1 121 (x1 : Int32).toNatClampNeg) then zg (zok x1 23) (zg (zok s.1 20) (zg (zok x1 23) (zlet (zI s.2 121 (x1 : Int32).toNatClampNeg ((s.2.1 121 (x1 : Int32).toNatClampNeg) - (s.2.1 111 (s.1 : Int32).toNatClampNeg))) (fun M8_ => zg (zok s.1 20) (zg (zok ((6 * x1) + (M8_.1 109 (s.1 : Int32).toNatClampNeg)) 138) (zg (zok s.1 20) (zg (zok ((6 * x1) + (M8_.1 109 (s.1 : Int32).toNatClampNeg)) 138) (zlet (zI M8_ 124 (((6 * x1) + (M8_.1 109 (s.1 : Int32).toNatClampNeg)) : Int32).toNatClampNeg ((M8_.1 124 (((6 * x1) + (M8_.1 109 (s.1 : Int32).toNatClampNeg)) : Int32).toNatClampNeg) + (M8_.1 111 (s.1 : Int32).toNatClampNeg))) (fun M14_ => rc2 ((s.1 + 1), M14_))))))))))
  else zg (zok x1 23) (zg (zok x1 23) (zlet (zI s.2 122 (x1 : Int32).toNatClampNeg ((s.2.1 122 (x1 : Int32).toNatClampNeg) + 1)) (fun M18_ => rc2 ((s.1 + 1), M18_)))))))
  else rc2 ((s.1 + 1), s.2)))))
set_option maxRecDepth 100000 in
set_option maxHeartbeats 2000000 in
theorem aX10_looks_L2 {G : zG} {X : zX} {x1 : Int32} (hX : zC G X cX10_looks 3 RX10 none 1)    {res : zM}  : ∀ (N : Nat) (s : (Int32 × zM)), zfix N (gX10_looks_L2 x1) s = some res → Z G X (zQv res) 2 [some (.ref 98), some (.int x1), some (.int s.1)] [] s.2 := by
  intro N
  induction N with
  | zero => intro s h; cases h
  | succ N hrc2 =>
    intro s h
    replace h : gX10_looks_L2 x1 (zfix N (gX10_looks_L2 x1)) s = some res := h
    unfold gX10_looks_L2 at h
    refine z_iload_n hX dX10_looks_2 rfl 3 rfl ?_
    refine z_aload_n hX dX10_looks_3 rfl 4 rfl ?_
    refine z_getF hX fX10_13 dX10_looks_4 zs_98 (by decide) rfl 7 rfl ?_
    refine z_iconst hX dX10_looks_7 qi_2 8 rfl ?_
    refine z_iald hX dX10_looks_8 zs_100 (zok_in (by decide)) 9 rfl ?_
    refine z_icmp_ge hX dX10_looks_9 104 12 (by decide) rfl (fun hc => ?_) (fun hc => ?_)
    · rw [if_pos hc] at h
      exact z_return hX dX10_looks_104 (zend_v h)
    · rw [if_neg hc] at h
      refine z_aload_n hX dX10_looks_12 rfl 13 rfl ?_
      refine z_getF hX fX10_43 dX10_looks_13 zs_98 (by decide) rfl 16 rfl ?_
      refine z_iload_n hX dX10_looks_16 rfl 17 rfl ?_
      obtain ⟨hb, h1_⟩ := zgd h
      refine z_iald hX dX10_looks_17 zs_110 (zok_in hb) 18 rfl ?_
      refine z_aload_n hX dX10_looks_18 rfl 19 rfl ?_
      refine z_getF hX fX10_72 dX10_looks_19 zs_98 (by decide) rfl 22 rfl ?_
      refine z_iload_n hX dX10_looks_22 rfl 23 rfl ?_
      obtain ⟨hb, h2_⟩ := zgd h1_
      refine z_iald hX dX10_looks_23 zs_118 (zok_in hb) 24 rfl ?_
      refine z_icmp_eq hX dX10_looks_24 30 27 (by decide) rfl (fun hc => ?_) (fun hc => ?_)
      · rw [if_pos hc] at h2_
        refine z_aload_n hX dX10_looks_30 rfl 31 rfl ?_
        refine z_getF hX fX10_81 dX10_looks_31 zs_98 (by decide) rfl 34 rfl ?_
        refine z_iload_n hX dX10_looks_34 rfl 35 rfl ?_
        obtain ⟨hb, h3_⟩ := zgd h2_
        refine z_iald hX dX10_looks_35 zs_121 (zok_in hb) 36 rfl ?_
        refine z_aload_n hX dX10_looks_36 rfl 37 rfl ?_
        refine z_getF hX fX10_46 dX10_looks_37 zs_98 (by decide) rfl 40 rfl ?_
        refine z_iload_n hX dX10_looks_40 rfl 41 rfl ?_
        obtain ⟨hb, h4_⟩ := zgd h3_
        refine z_iald hX dX10_looks_41 zs_111 (zok_in hb) 42 rfl ?_
        refine z_icmp_ge hX dX10_looks_42 58 45 (by decide) rfl (fun hc => ?_) (fun hc => ?_)
        · rw [if_pos hc] at h4_
          refine z_aload_n hX dX10_looks_58 rfl 59 rfl ?_
          refine z_getF hX fX10_81 dX10_looks_59 zs_98 (by decide) rfl 62 rfl ?_
          refine z_iload_n hX dX10_looks_62 rfl 63 rfl ?_
          refine z_dup2 hX dX10_looks_63 rfl rfl 64 rfl ?_
          obtain ⟨hb, h5_⟩ := zgd h4_
          refine z_iald hX dX10_looks_64 zs_121 (zok_in hb) 65 rfl ?_
          refine z_aload_n hX dX10_looks_65 rfl 66 rfl ?_
          refine z_getF hX fX10_46 dX10_looks_66 zs_98 (by decide) rfl 69 rfl ?_
          refine z_iload_n hX dX10_looks_69 rfl 70 rfl ?_
          obtain ⟨hb, h6_⟩ := zgd h5_
          refine z_iald hX dX10_looks_70 zs_111 (zok_in hb) 71 rfl ?_
          refine z_isub hX dX10_looks_71 72 rfl ?_
          obtain ⟨hb, h7_⟩ := zgd h6_
          refine z_iast hX dX10_looks_72 zs_121 (zok_in hb) 73 rfl ?_
          refine z_mem h7_ (fun M8_ h9_ => ?_)
          refine z_aload_n hX dX10_looks_73 rfl 74 rfl ?_
          refine z_getF hX fX10_90 dX10_looks_74 zs_98 (by decide) rfl 77 rfl ?_
          refine z_bipush hX dX10_looks_77 qb_6 79 rfl ?_
          refine z_iload_n hX dX10_looks_79 rfl 80 rfl ?_
          refine z_imul hX dX10_looks_80 81 rfl ?_
          refine z_aload_n hX dX10_looks_81 rfl 82 rfl ?_
          refine z_getF hX fX10_40 dX10_looks_82 zs_98 (by decide) rfl 85 rfl ?_
          refine z_iload_n hX dX10_looks_85 rfl 86 rfl ?_
          obtain ⟨hb, h10_⟩ := zgd h9_
          refine z_iald hX dX10_looks_86 zs_109 (zok_in hb) 87 rfl ?_
          refine z_iadd hX dX10_looks_87 88 rfl ?_
          refine z_dup2 hX dX10_looks_88 rfl rfl 89 rfl ?_
          obtain ⟨hb, h11_⟩ := zgd h10_
          refine z_iald hX dX10_looks_89 zs_124 (zok_in hb) 90 rfl ?_
          refine z_aload_n hX dX10_looks_90 rfl 91 rfl ?_
          refine z_getF hX fX10_46 dX10_looks_91 zs_98 (by decide) rfl 94 rfl ?_
          refine z_iload_n hX dX10_looks_94 rfl 95 rfl ?_
          obtain ⟨hb, h12_⟩ := zgd h11_
          refine z_iald hX dX10_looks_95 zs_111 (zok_in hb) 96 rfl ?_
          refine z_iadd hX dX10_looks_96 97 rfl ?_
          obtain ⟨hb, h13_⟩ := zgd h12_
          refine z_iast hX dX10_looks_97 zs_124 (zok_in hb) 98 rfl ?_
          refine z_mem h13_ (fun M14_ h15_ => ?_)
          refine z_iinc (v := (s.1 + 1)) hX dX10_looks_98 rfl (by rfl) (by decide) 101 rfl ?_
          refine z_goto hX dX10_looks_101 2 (by decide) ?_
          refine z_mask [true, true, true] ?_
          have hz := hrc2 _ h15_
          exact hz
        · rw [if_neg hc] at h4_
          refine z_aload_n hX dX10_looks_45 rfl 46 rfl ?_
          refine z_getF hX fX10_84 dX10_looks_46 zs_98 (by decide) rfl 49 rfl ?_
          refine z_iload_n hX dX10_looks_49 rfl 50 rfl ?_
          refine z_dup2 hX dX10_looks_50 rfl rfl 51 rfl ?_
          obtain ⟨hb, h16_⟩ := zgd h4_
          refine z_iald hX dX10_looks_51 zs_122 (zok_in hb) 52 rfl ?_
          refine z_iconst hX dX10_looks_52 qi_1 53 rfl ?_
          refine z_iadd hX dX10_looks_53 54 rfl ?_
          obtain ⟨hb, h17_⟩ := zgd h16_
          refine z_iast hX dX10_looks_54 zs_122 (zok_in hb) 55 rfl ?_
          refine z_mem h17_ (fun M18_ h19_ => ?_)
          refine z_goto hX dX10_looks_55 98 (by decide) ?_
          refine z_iinc (v := (s.1 + 1)) hX dX10_looks_98 rfl (by rfl) (by decide) 101 rfl ?_
          refine z_goto hX dX10_looks_101 2 (by decide) ?_
          refine z_mask [true, true, true] ?_
          have hz := hrc2 _ h19_
          exact hz
      · rw [if_neg hc] at h2_
        refine z_goto hX dX10_looks_27 98 (by decide) ?_
        refine z_iinc (v := (s.1 + 1)) hX dX10_looks_98 rfl (by rfl) (by decide) 101 rfl ?_
        refine z_goto hX dX10_looks_101 2 (by decide) ?_
        refine z_mask [true, true, true] ?_
        have hz := hrc2 _ h2_
        exact hz
def gX10_looks (x1 : Int32) (M : zM) : Option zM :=
  zfix zFu (gX10_looks_L2 x1) (0, M)
set_option maxRecDepth 100000 in
set_option maxHeartbeats 2000000 in
theorem mX10_looks {G : zG} {x1 : Int32} {M : zM}  {res : zM} (h : gX10_looks x1 M = some res) : Ct G 1 tX10_looks [.ref 98, .int x1] M (zQv res) := by
  unfold gX10_looks at h
  refine Ct.of (y := yX10_looks) rfl plX10 (Nat.le_of_ble_eq_true rfl) (fun X hX => ?_)
  replace hX : zC G X cX10_looks 3 RX10 none 1 := hX
  show Z G X _ 0 [some (.ref 98), some (.int x1), none] [] M
  refine z_iconst hX dX10_looks_0 qi_0 1 rfl ?_
  refine z_istore_n hX dX10_looks_1 (by decide) 2 rfl ?_
  refine z_mask [true, true, true] ?_
  have hz := aX10_looks_L2 hX _ _ h
  exact hz
def gX10_passes_J234 (x1 : Int32) (y1 : Int32) (y3 : Int32) (y4 : Int32) (M : zM) : Option zM :=
  zg (zok y1 23) (zlet (zI M 120 (y1 : Int32).toNatClampNeg (if (y3 + y4) < 999 then (y3 + y4) else 999)) (fun M5_ => zg (zok x1 23) (zg (zok x1 23) (zlet (zI M5_ 118 (x1 : Int32).toNatClampNeg ((M5_.1 118 (x1 : Int32).toNatClampNeg) + 1)) (fun M9_ => some M9_)))))
set_option maxRecDepth 100000 in
set_option maxHeartbeats 2000000 in
theorem aX10_passes_J234 {G : zG} {X : zX} {x1 : Int32} {y1 : Int32} {y3 : Int32} {y4 : Int32} (hX : zC G X cX10_passes 5 RX10 none 7)   {M : zM} {res : zM}  (h : gX10_passes_J234 x1 y1 y3 y4 M = some res) : Z G X (zQv res) 234 [some (.ref 98), some (.int x1), none, none, none] [.int y4, .int y3, .int 999, .int y1, .ref 120] M := by
  unfold gX10_passes_J234 at h
  refine z_iadd hX dX10_passes_234 235 rfl ?_
  refine z_min hX dX10_passes_235 lX10_389 (by decide) (Nat.le_of_ble_eq_true rfl) 238 rfl ?_
  obtain ⟨hb, h4_⟩ := zgd h
  refine z_iast hX dX10_passes_238 zs_120 (zok_in hb) 239 rfl ?_
  refine z_mem h4_ (fun M5_ h6_ => ?_)
  refine z_aload_n hX dX10_passes_239 rfl 240 rfl ?_
  refine z_getF hX fX10_72 dX10_passes_240 zs_98 (by decide) rfl 243 rfl ?_
  refine z_iload_n hX dX10_passes_243 rfl 244 rfl ?_
  refine z_dup2 hX dX10_passes_244 rfl rfl 245 rfl ?_
  obtain ⟨hb, h7_⟩ := zgd h6_
  refine z_iald hX dX10_passes_245 zs_118 (zok_in hb) 246 rfl ?_
  refine z_iconst hX dX10_passes_246 qi_1 247 rfl ?_
  refine z_iadd hX dX10_passes_247 248 rfl ?_
  obtain ⟨hb, h8_⟩ := zgd h7_
  refine z_iast hX dX10_passes_248 zs_118 (zok_in hb) 249 rfl ?_
  refine z_mem h8_ (fun M9_ h10_ => ?_)
  exact z_return hX dX10_passes_249 (zend_v h10_)
def gX10_passes_J203 (x1 : Int32) (y0 : Int32) (M : zM) : Option zM :=
  zg (zok x1 23) ((if y0 = 0 then gX10_passes_J234 x1 x1 ((M.1 120 (x1 : Int32).toNatClampNeg) + (M.1 100 (4 : Int32).toNatClampNeg)) 0 M
  else gX10_passes_J234 x1 x1 ((M.1 120 (x1 : Int32).toNatClampNeg) + (M.1 100 (4 : Int32).toNatClampNeg)) 5 M))
set_option maxRecDepth 100000 in
set_option maxHeartbeats 2000000 in
theorem aX10_passes_J203 {G : zG} {X : zX} {x1 : Int32} {y0 : Int32} (hX : zC G X cX10_passes 5 RX10 none 7)   {M : zM} {res : zM}  (h : gX10_passes_J203 x1 y0 M = some res) : Z G X (zQv res) 203 [some (.ref 98), some (.int x1), none, none, none] [.int y0] M := by
  unfold gX10_passes_J203 at h
  refine z_istore_n hX dX10_passes_203 (by decide) 204 rfl ?_
  refine z_aload_n hX dX10_passes_204 rfl 205 rfl ?_
  refine z_getF hX fX10_78 dX10_passes_205 zs_98 (by decide) rfl 208 rfl ?_
  refine z_iload_n hX dX10_passes_208 rfl 209 rfl ?_
  refine z_sipush hX dX10_passes_209 qs_999 212 rfl ?_
  refine z_aload_n hX dX10_passes_212 rfl 213 rfl ?_
  refine z_getF hX fX10_78 dX10_passes_213 zs_98 (by decide) rfl 216 rfl ?_
  refine z_iload_n hX dX10_passes_216 rfl 217 rfl ?_
  obtain ⟨hb, h3_⟩ := zgd h
  refine z_iald hX dX10_passes_217 zs_120 (zok_in hb) 218 rfl ?_
  refine z_aload_n hX dX10_passes_218 rfl 219 rfl ?_
  refine z_getF hX fX10_13 dX10_passes_219 zs_98 (by decide) rfl 222 rfl ?_
  refine z_iconst hX dX10_passes_222 qi_4 223 rfl ?_
  refine z_iald hX dX10_passes_223 zs_100 (zok_in (by decide)) 224 rfl ?_
  refine z_iadd hX dX10_passes_224 225 rfl ?_
  refine z_iload_n hX dX10_passes_225 rfl 226 rfl ?_
  refine z_if_eq hX dX10_passes_226 233 229 (by decide) rfl (fun hc => ?_) (fun hc => ?_)
  · rw [if_pos hc] at h3_
    refine z_iconst hX dX10_passes_233 qi_0 234 rfl ?_
    refine z_mask [true, true, false, false, false] ?_
    have hz := aX10_passes_J234 hX h3_
    exact hz
  · rw [if_neg hc] at h3_
    refine z_iconst hX dX10_passes_229 qi_5 230 rfl ?_
    refine z_goto hX dX10_passes_230 234 (by decide) ?_
    refine z_mask [true, true, false, false, false] ?_
    have hz := aX10_passes_J234 hX h3_
    exact hz
def gX10_passes_J202 (x1 : Int32) (M : zM) : Option zM :=
  gX10_passes_J203 x1 0 M
set_option maxRecDepth 100000 in
set_option maxHeartbeats 2000000 in
theorem aX10_passes_J202 {G : zG} {X : zX} {x1 : Int32} (hX : zC G X cX10_passes 5 RX10 none 7)   {M : zM} {res : zM}  (h : gX10_passes_J202 x1 M = some res) : Z G X (zQv res) 202 [some (.ref 98), some (.int x1), none, none, none] [] M := by
  unfold gX10_passes_J202 at h
  refine z_iconst hX dX10_passes_202 qi_0 203 rfl ?_
  refine z_mask [true, true, false, false, false] ?_
  have hz := aX10_passes_J203 hX h
  exact hz
def gX10_passes_J175 (x1 : Int32) (x2 : Int32) (M : zM) : Option zM :=
  (if (M.1 98 51) = 1 then gX10_passes_J202 x1 M
  else zcIM (gX10_falls x1 (M.1 100 (5 : Int32).toNatClampNeg) x2 M) (fun v11_ M12_ => (if v11_ = 0 then gX10_passes_J202 x1 M12_
  else gX10_passes_J203 x1 1 M12_)))
set_option maxRecDepth 100000 in
set_option maxHeartbeats 2000000 in
theorem aX10_passes_J175 {G : zG} {X : zX} {x1 : Int32} {x2 : Int32} (hX : zC G X cX10_passes 5 RX10 none 7)   {M : zM} {res : zM}  (h : gX10_passes_J175 x1 x2 M = some res) : Z G X (zQv res) 175 [some (.ref 98), some (.int x1), some (.int x2), none, none] [] M := by
  unfold gX10_passes_J175 at h
  refine z_aload_n hX dX10_passes_175 rfl 176 rfl ?_
  refine z_getI hX fX10_360 dX10_passes_176 zs_98 (by decide) rfl 179 rfl ?_
  refine z_iconst hX dX10_passes_179 qi_1 180 rfl ?_
  refine z_icmp_eq hX dX10_passes_180 202 183 (by decide) rfl (fun hc => ?_) (fun hc => ?_)
  · rw [if_pos hc] at h
    refine z_mask [true, true, false, false, false] ?_
    have hz := aX10_passes_J202 hX h
    exact hz
  · rw [if_neg hc] at h
    refine z_aload_n hX dX10_passes_183 rfl 184 rfl ?_
    refine z_iload_n hX dX10_passes_184 rfl 185 rfl ?_
    refine z_aload_n hX dX10_passes_185 rfl 186 rfl ?_
    refine z_getF hX fX10_13 dX10_passes_186 zs_98 (by decide) rfl 189 rfl ?_
    refine z_iconst hX dX10_passes_189 qi_5 190 rfl ?_
    refine z_iald hX dX10_passes_190 zs_100 (zok_in (by decide)) 191 rfl ?_
    refine z_iload_n hX dX10_passes_191 rfl 192 rfl ?_
    obtain ⟨v11_, M12_, hq, h13_⟩ := zcIM_of h
    refine z_callV hX vX10_falls lX10_378 dX10_passes_192 zs_98 rfl (mX10_falls  hq) (by decide) rfl rfl (Nat.le_of_ble_eq_true rfl) 195 rfl (Qi.to (fun v' M' hv => ?_))
    cases hv
    refine z_if_eq hX dX10_passes_195 202 198 (by decide) rfl (fun hc => ?_) (fun hc => ?_)
    · rw [if_pos hc] at h13_
      refine z_mask [true, true, false, false, false] ?_
      have hz := aX10_passes_J202 hX h13_
      exact hz
    · rw [if_neg hc] at h13_
      refine z_iconst hX dX10_passes_198 qi_1 199 rfl ?_
      refine z_goto hX dX10_passes_199 203 (by decide) ?_
      refine z_mask [true, true, false, false, false] ?_
      have hz := aX10_passes_J203 hX h13_
      exact hz
def gX10_passes_L109 (x1 : Int32) (x2 : Int32) (rc109 : (Int32 × zM) → Option zM) (s : (Int32 × zM)) : Option zM :=
  (if (s.2.1 100 (1 : Int32).toNatClampNeg) ≤ s.1 then gX10_passes_J175 x1 x2 s.2
  else (if (s.2.1 98 51) = 4 then gX10_passes_J175 x1 x2 s.2
  else zg (zok ((8 * x1) + s.1) 184) ((if (s.2.1 130 (((8 * x1) + s.1) : Int32).toNatClampNeg) = 0 then zg (zok ((8 * x1) + s.1) 184) (zg (zok x1 23) ((if (s.2.1 131 (((8 * x1) + s.1) : Int32).toNatClampNeg) = (s.2.1 118 (x1 : Int32).toNatClampNeg) then zg (zok ((8 * x1) + s.1) 184) (zlet (zI s.2 130 (((8 * x1) + s.1) : Int32).toNatClampNeg 3) (fun M18_ => rc109 ((s.1 + 1), M18_)))
  else rc109 ((s.1 + 1), s.2))))
  else rc109 ((s.1 + 1), s.2)))))
set_option maxRecDepth 100000 in
set_option maxHeartbeats 2000000 in
theorem aX10_passes_L109 {G : zG} {X : zX} {x1 : Int32} {x2 : Int32} (hX : zC G X cX10_passes 5 RX10 none 7)    {res : zM}  : ∀ (N : Nat) (s : (Int32 × zM)), zfix N (gX10_passes_L109 x1 x2) s = some res → Z G X (zQv res) 109 [some (.ref 98), some (.int x1), some (.int x2), some (.int s.1), none] [] s.2 := by
  intro N
  induction N with
  | zero => intro s h; cases h
  | succ N hrc109 =>
    intro s h
    replace h : gX10_passes_L109 x1 x2 (zfix N (gX10_passes_L109 x1 x2)) s = some res := h
    unfold gX10_passes_L109 at h
    refine z_iload_n hX dX10_passes_109 rfl 110 rfl ?_
    refine z_aload_n hX dX10_passes_110 rfl 111 rfl ?_
    refine z_getF hX fX10_13 dX10_passes_111 zs_98 (by decide) rfl 114 rfl ?_
    refine z_iconst hX dX10_passes_114 qi_1 115 rfl ?_
    refine z_iald hX dX10_passes_115 zs_100 (zok_in (by decide)) 116 rfl ?_
    refine z_icmp_ge hX dX10_passes_116 175 119 (by decide) rfl (fun hc => ?_) (fun hc => ?_)
    · rw [if_pos hc] at h
      refine z_mask [true, true, true, false, false] ?_
      have hz := aX10_passes_J175 hX h
      exact hz
    · rw [if_neg hc] at h
      refine z_aload_n hX dX10_passes_119 rfl 120 rfl ?_
      refine z_getI hX fX10_360 dX10_passes_120 zs_98 (by decide) rfl 123 rfl ?_
      refine z_iconst hX dX10_passes_123 qi_4 124 rfl ?_
      refine z_icmp_eq hX dX10_passes_124 175 127 (by decide) rfl (fun hc => ?_) (fun hc => ?_)
      · rw [if_pos hc] at h
        refine z_mask [true, true, true, false, false] ?_
        have hz := aX10_passes_J175 hX h
        exact hz
      · rw [if_neg hc] at h
        refine z_bipush hX dX10_passes_127 qb_8 129 rfl ?_
        refine z_iload_n hX dX10_passes_129 rfl 130 rfl ?_
        refine z_imul hX dX10_passes_130 131 rfl ?_
        refine z_iload_n hX dX10_passes_131 rfl 132 rfl ?_
        refine z_iadd hX dX10_passes_132 133 rfl ?_
        refine z_istore hX dX10_passes_133 (by decide) 135 rfl ?_
        refine z_aload_n hX dX10_passes_135 rfl 136 rfl ?_
        refine z_getF hX fX10_108 dX10_passes_136 zs_98 (by decide) rfl 139 rfl ?_
        refine z_iload hX dX10_passes_139 rfl 141 rfl ?_
        obtain ⟨hb, h14_⟩ := zgd h
        refine z_iald hX dX10_passes_141 zs_130 (zok_in hb) 142 rfl ?_
        refine z_if_ne hX dX10_passes_142 169 145 (by decide) rfl (fun hc => ?_) (fun hc => ?_)
        · rw [if_neg hc] at h14_
          refine z_iinc (v := (s.1 + 1)) hX dX10_passes_169 rfl (by rfl) (by decide) 172 rfl ?_
          refine z_goto hX dX10_passes_172 109 (by decide) ?_
          refine z_mask [true, true, true, true, false] ?_
          have hz := hrc109 _ h14_
          exact hz
        · rw [if_pos hc] at h14_
          refine z_aload_n hX dX10_passes_145 rfl 146 rfl ?_
          refine z_getF hX fX10_111 dX10_passes_146 zs_98 (by decide) rfl 149 rfl ?_
          refine z_iload hX dX10_passes_149 rfl 151 rfl ?_
          obtain ⟨hb, h15_⟩ := zgd h14_
          refine z_iald hX dX10_passes_151 zs_131 (zok_in hb) 152 rfl ?_
          refine z_aload_n hX dX10_passes_152 rfl 153 rfl ?_
          refine z_getF hX fX10_72 dX10_passes_153 zs_98 (by decide) rfl 156 rfl ?_
          refine z_iload_n hX dX10_passes_156 rfl 157 rfl ?_
          obtain ⟨hb, h16_⟩ := zgd h15_
          refine z_iald hX dX10_passes_157 zs_118 (zok_in hb) 158 rfl ?_
          refine z_icmp_ne hX dX10_passes_158 169 161 (by decide) rfl (fun hc => ?_) (fun hc => ?_)
          · rw [if_neg hc] at h16_
            refine z_iinc (v := (s.1 + 1)) hX dX10_passes_169 rfl (by rfl) (by decide) 172 rfl ?_
            refine z_goto hX dX10_passes_172 109 (by decide) ?_
            refine z_mask [true, true, true, true, false] ?_
            have hz := hrc109 _ h16_
            exact hz
          · rw [if_pos hc] at h16_
            refine z_aload_n hX dX10_passes_161 rfl 162 rfl ?_
            refine z_getF hX fX10_108 dX10_passes_162 zs_98 (by decide) rfl 165 rfl ?_
            refine z_iload hX dX10_passes_165 rfl 167 rfl ?_
            refine z_iconst hX dX10_passes_167 qi_3 168 rfl ?_
            obtain ⟨hb, h17_⟩ := zgd h16_
            refine z_iast hX dX10_passes_168 zs_130 (zok_in hb) 169 rfl ?_
            refine z_mem h17_ (fun M18_ h19_ => ?_)
            refine z_iinc (v := (s.1 + 1)) hX dX10_passes_169 rfl (by rfl) (by decide) 172 rfl ?_
            refine z_goto hX dX10_passes_172 109 (by decide) ?_
            refine z_mask [true, true, true, true, false] ?_
            have hz := hrc109 _ h19_
            exact hz
def gX10_passes_L54 (x1 : Int32) (x2 : Int32) (rc54 : (Int32 × zM) → Option zM) (s : (Int32 × zM)) : Option zM :=
  (if (s.2.1 100 (0 : Int32).toNatClampNeg) ≤ s.1 then zfix zFu (gX10_passes_L109 x1 x2) (0, s.2)
  else zg (zok ((6 * x1) + s.1) 138) (zlet ((s.2.1 129 (((6 * x1) + s.1) : Int32).toNatClampNeg)) (fun x21_ => zg (zok ((6 * x1) + x21_) 138) ((if (s.2.1 125 (((6 * x1) + x21_) : Int32).toNatClampNeg) = 1 then zcV (gX10_goesOnInside x1 x21_ x2 s.2) (fun M24_ => rc54 ((s.1 + 1), M24_))
  else rc54 ((s.1 + 1), s.2))))))
set_option maxRecDepth 100000 in
set_option maxHeartbeats 2000000 in
theorem aX10_passes_L54 {G : zG} {X : zX} {x1 : Int32} {x2 : Int32} (hX : zC G X cX10_passes 5 RX10 none 7)    {res : zM}  : ∀ (N : Nat) (s : (Int32 × zM)), zfix N (gX10_passes_L54 x1 x2) s = some res → Z G X (zQv res) 54 [some (.ref 98), some (.int x1), some (.int x2), some (.int s.1), none] [] s.2 := by
  intro N
  induction N with
  | zero => intro s h; cases h
  | succ N hrc54 =>
    intro s h
    replace h : gX10_passes_L54 x1 x2 (zfix N (gX10_passes_L54 x1 x2)) s = some res := h
    unfold gX10_passes_L54 at h
    refine z_iload_n hX dX10_passes_54 rfl 55 rfl ?_
    refine z_aload_n hX dX10_passes_55 rfl 56 rfl ?_
    refine z_getF hX fX10_13 dX10_passes_56 zs_98 (by decide) rfl 59 rfl ?_
    refine z_iconst hX dX10_passes_59 qi_0 60 rfl ?_
    refine z_iald hX dX10_passes_60 zs_100 (zok_in (by decide)) 61 rfl ?_
    refine z_icmp_ge hX dX10_passes_61 107 64 (by decide) rfl (fun hc => ?_) (fun hc => ?_)
    · rw [if_pos hc] at h
      refine z_iconst hX dX10_passes_107 qi_0 108 rfl ?_
      refine z_istore_n hX dX10_passes_108 (by decide) 109 rfl ?_
      refine z_mask [true, true, true, true, false] ?_
      have hz := aX10_passes_L109 hX _ _ h
      exact hz
    · rw [if_neg hc] at h
      refine z_aload_n hX dX10_passes_64 rfl 65 rfl ?_
      refine z_getF hX fX10_105 dX10_passes_65 zs_98 (by decide) rfl 68 rfl ?_
      refine z_bipush hX dX10_passes_68 qb_6 70 rfl ?_
      refine z_iload_n hX dX10_passes_70 rfl 71 rfl ?_
      refine z_imul hX dX10_passes_71 72 rfl ?_
      refine z_iload_n hX dX10_passes_72 rfl 73 rfl ?_
      refine z_iadd hX dX10_passes_73 74 rfl ?_
      obtain ⟨hb, h20_⟩ := zgd h
      refine z_iald hX dX10_passes_74 zs_129 (zok_in hb) 75 rfl ?_
      refine z_topi h20_ (fun x21_ h22_ => ?_)
      refine z_istore hX dX10_passes_75 (by decide) 77 rfl ?_
      refine z_aload_n hX dX10_passes_77 rfl 78 rfl ?_
      refine z_getF hX fX10_93 dX10_passes_78 zs_98 (by decide) rfl 81 rfl ?_
      refine z_bipush hX dX10_passes_81 qb_6 83 rfl ?_
      refine z_iload_n hX dX10_passes_83 rfl 84 rfl ?_
      refine z_imul hX dX10_passes_84 85 rfl ?_
      refine z_iload hX dX10_passes_85 rfl 87 rfl ?_
      refine z_iadd hX dX10_passes_87 88 rfl ?_
      obtain ⟨hb, h23_⟩ := zgd h22_
      refine z_iald hX dX10_passes_88 zs_125 (zok_in hb) 89 rfl ?_
      refine z_iconst hX dX10_passes_89 qi_1 90 rfl ?_
      refine z_icmp_ne hX dX10_passes_90 101 93 (by decide) rfl (fun hc => ?_) (fun hc => ?_)
      · rw [if_neg hc] at h23_
        refine z_iinc (v := (s.1 + 1)) hX dX10_passes_101 rfl (by rfl) (by decide) 104 rfl ?_
        refine z_goto hX dX10_passes_104 54 (by decide) ?_
        refine z_mask [true, true, true, true, false] ?_
        have hz := hrc54 _ h23_
        exact hz
      · rw [if_pos hc] at h23_
        refine z_aload_n hX dX10_passes_93 rfl 94 rfl ?_
        refine z_iload_n hX dX10_passes_94 rfl 95 rfl ?_
        refine z_iload hX dX10_passes_95 rfl 97 rfl ?_
        refine z_iload_n hX dX10_passes_97 rfl 98 rfl ?_
        obtain ⟨M24_, hq, h25_⟩ := zcV_of h23_
        refine z_callV hX vX10_goesOnInside lX10_399 dX10_passes_98 zs_98 rfl (mX10_goesOnInside  hq) (by decide) rfl rfl (Nat.le_of_ble_eq_true rfl) 101 rfl (Qv.to (fun M' hv => ?_))
        subst hv
        refine z_iinc (v := (s.1 + 1)) hX dX10_passes_101 rfl (by rfl) (by decide) 104 rfl ?_
        refine z_goto hX dX10_passes_104 54 (by decide) ?_
        refine z_mask [true, true, true, true, false] ?_
        have hz := hrc54 _ h25_
        exact hz
def gX10_passes_L20 (x1 : Int32) (x2 : Int32) (rc20 : (Int32 × zM) → Option zM) (s : (Int32 × zM)) : Option zM :=
  (if (s.2.1 100 (0 : Int32).toNatClampNeg) ≤ s.1 then zfix zFu (gX10_passes_L54 x1 x2) (0, s.2)
  else zg (zok ((6 * x1) + s.1) 138) (zcV (gX10_entersIf x1 (s.2.1 129 (((6 * x1) + s.1) : Int32).toNatClampNeg) s.2) (fun M27_ => rc20 ((s.1 + 1), M27_))))
set_option maxRecDepth 100000 in
set_option maxHeartbeats 2000000 in
theorem aX10_passes_L20 {G : zG} {X : zX} {x1 : Int32} {x2 : Int32} (hX : zC G X cX10_passes 5 RX10 none 7)    {res : zM}  : ∀ (N : Nat) (s : (Int32 × zM)), zfix N (gX10_passes_L20 x1 x2) s = some res → Z G X (zQv res) 20 [some (.ref 98), some (.int x1), some (.int x2), some (.int s.1), none] [] s.2 := by
  intro N
  induction N with
  | zero => intro s h; cases h
  | succ N hrc20 =>
    intro s h
    replace h : gX10_passes_L20 x1 x2 (zfix N (gX10_passes_L20 x1 x2)) s = some res := h
    unfold gX10_passes_L20 at h
    refine z_iload_n hX dX10_passes_20 rfl 21 rfl ?_
    refine z_aload_n hX dX10_passes_21 rfl 22 rfl ?_
    refine z_getF hX fX10_13 dX10_passes_22 zs_98 (by decide) rfl 25 rfl ?_
    refine z_iconst hX dX10_passes_25 qi_0 26 rfl ?_
    refine z_iald hX dX10_passes_26 zs_100 (zok_in (by decide)) 27 rfl ?_
    refine z_icmp_ge hX dX10_passes_27 52 30 (by decide) rfl (fun hc => ?_) (fun hc => ?_)
    · rw [if_pos hc] at h
      refine z_iconst hX dX10_passes_52 qi_0 53 rfl ?_
      refine z_istore_n hX dX10_passes_53 (by decide) 54 rfl ?_
      refine z_mask [true, true, true, true, false] ?_
      have hz := aX10_passes_L54 hX _ _ h
      exact hz
    · rw [if_neg hc] at h
      refine z_aload_n hX dX10_passes_30 rfl 31 rfl ?_
      refine z_iload_n hX dX10_passes_31 rfl 32 rfl ?_
      refine z_aload_n hX dX10_passes_32 rfl 33 rfl ?_
      refine z_getF hX fX10_105 dX10_passes_33 zs_98 (by decide) rfl 36 rfl ?_
      refine z_bipush hX dX10_passes_36 qb_6 38 rfl ?_
      refine z_iload_n hX dX10_passes_38 rfl 39 rfl ?_
      refine z_imul hX dX10_passes_39 40 rfl ?_
      refine z_iload_n hX dX10_passes_40 rfl 41 rfl ?_
      refine z_iadd hX dX10_passes_41 42 rfl ?_
      obtain ⟨hb, h26_⟩ := zgd h
      refine z_iald hX dX10_passes_42 zs_129 (zok_in hb) 43 rfl ?_
      obtain ⟨M27_, hq, h28_⟩ := zcV_of h26_
      refine z_callV hX vX10_entersIf lX10_396 dX10_passes_43 zs_98 rfl (mX10_entersIf  hq) (by decide) rfl rfl (Nat.le_of_ble_eq_true rfl) 46 rfl (Qv.to (fun M' hv => ?_))
      subst hv
      refine z_iinc (v := (s.1 + 1)) hX dX10_passes_46 rfl (by rfl) (by decide) 49 rfl ?_
      refine z_goto hX dX10_passes_49 20 (by decide) ?_
      refine z_mask [true, true, true, true, false] ?_
      have hz := hrc20 _ h28_
      exact hz
def gX10_passes_J18 (x1 : Int32) (x2 : Int32) (M : zM) : Option zM :=
  zfix zFu (gX10_passes_L20 x1 x2) (0, M)
set_option maxRecDepth 100000 in
set_option maxHeartbeats 2000000 in
theorem aX10_passes_J18 {G : zG} {X : zX} {x1 : Int32} {x2 : Int32} (hX : zC G X cX10_passes 5 RX10 none 7)   {M : zM} {res : zM}  (h : gX10_passes_J18 x1 x2 M = some res) : Z G X (zQv res) 18 [some (.ref 98), some (.int x1), some (.int x2), none, none] [] M := by
  unfold gX10_passes_J18 at h
  refine z_iconst hX dX10_passes_18 qi_0 19 rfl ?_
  refine z_istore_n hX dX10_passes_19 (by decide) 20 rfl ?_
  refine z_mask [true, true, true, true, false] ?_
  have hz := aX10_passes_L20 hX _ _ h
  exact hz
def gX10_passes (x1 : Int32) (x2 : Int32) (M : zM) : Option zM :=
  zlet (zI M 98 53 0) (fun M1_ => (if (M1_.1 98 51) = 5 then gX10_passes_J18 x1 x2 M1_
  else zcV (gX10_looks x1 M1_) (fun M29_ => gX10_passes_J18 x1 x2 M29_)))
set_option maxRecDepth 100000 in
set_option maxHeartbeats 2000000 in
theorem mX10_passes {G : zG} {x1 : Int32} {x2 : Int32} {M : zM}  {res : zM} (h : gX10_passes x1 x2 M = some res) : Ct G 7 tX10_passes [.ref 98, .int x1, .int x2] M (zQv res) := by
  unfold gX10_passes at h
  refine Ct.of (y := yX10_passes) rfl plX10 (Nat.le_of_ble_eq_true rfl) (fun X hX => ?_)
  replace hX : zC G X cX10_passes 5 RX10 none 7 := hX
  show Z G X _ 0 [some (.ref 98), some (.int x1), some (.int x2), none, none] [] M
  refine z_aload_n hX dX10_passes_0 rfl 1 rfl ?_
  refine z_iconst hX dX10_passes_1 qi_0 2 rfl ?_
  refine z_putI hX pX10_367 dX10_passes_2 zs_98 (by decide) rfl 5 rfl ?_
  refine z_mem h (fun M1_ h2_ => ?_)
  refine z_aload_n hX dX10_passes_5 rfl 6 rfl ?_
  refine z_getI hX fX10_360 dX10_passes_6 zs_98 (by decide) rfl 9 rfl ?_
  refine z_iconst hX dX10_passes_9 qi_5 10 rfl ?_
  refine z_icmp_eq hX dX10_passes_10 18 13 (by decide) rfl (fun hc => ?_) (fun hc => ?_)
  · rw [if_pos hc] at h2_
    refine z_mask [true, true, true, false, false] ?_
    have hz := aX10_passes_J18 hX h2_
    exact hz
  · rw [if_neg hc] at h2_
    refine z_aload_n hX dX10_passes_13 rfl 14 rfl ?_
    refine z_iload_n hX dX10_passes_14 rfl 15 rfl ?_
    obtain ⟨M29_, hq, h30_⟩ := zcV_of h2_
    refine z_callV hX vX10_looks lX10_393 dX10_passes_15 zs_98 rfl (mX10_looks  hq) (by decide) rfl rfl (Nat.le_of_ble_eq_true rfl) 18 rfl (Qv.to (fun M' hv => ?_))
    subst hv
    refine z_mask [true, true, true, false, false] ?_
    have hz := aX10_passes_J18 hX h30_
    exact hz
def gX10_go_L42 (x1 : Int32) (rc42 : (Int32 × zM) → Option (Int32 × zM)) (s : (Int32 × zM)) : Option (Int32 × zM) :=
  (if x1 ≤ s.1 then some ((s.2.1 118 (0 : Int32).toNatClampNeg), s.2)
  else zcV (gX10_passes 0 1 s.2) (fun M3_ => rc42 ((s.1 + 1), M3_)))
set_option maxRecDepth 100000 in
set_option maxHeartbeats 2000000 in
theorem aX10_go_L42 {G : zG} {X : zX} {x1 : Int32} (hX : zC G X cX10_go 3 RX10 (some .int) 8)    {res : (Int32 × zM)}  : ∀ (N : Nat) (s : (Int32 × zM)), zfix N (gX10_go_L42 x1) s = some res → Z G X (zQi res) 42 [some (.ref 98), some (.int x1), some (.int s.1)] [] s.2 := by
  intro N
  induction N with
  | zero => intro s h; cases h
  | succ N hrc42 =>
    intro s h
    replace h : gX10_go_L42 x1 (zfix N (gX10_go_L42 x1)) s = some res := h
    unfold gX10_go_L42 at h
    refine z_iload_n hX dX10_go_42 rfl 43 rfl ?_
    refine z_iload_n hX dX10_go_43 rfl 44 rfl ?_
    refine z_icmp_ge hX dX10_go_44 59 47 (by decide) rfl (fun hc => ?_) (fun hc => ?_)
    · rw [if_pos hc] at h
      refine z_aload_n hX dX10_go_59 rfl 60 rfl ?_
      refine z_getF hX fX10_72 dX10_go_60 zs_98 (by decide) rfl 63 rfl ?_
      refine z_iconst hX dX10_go_63 qi_0 64 rfl ?_
      refine z_iald hX dX10_go_64 zs_118 (zok_in (by decide)) 65 rfl ?_
      exact z_ireturn hX dX10_go_65 (zend_i h)
    · rw [if_neg hc] at h
      refine z_aload_n hX dX10_go_47 rfl 48 rfl ?_
      refine z_iconst hX dX10_go_48 qi_0 49 rfl ?_
      refine z_iconst hX dX10_go_49 qi_1 50 rfl ?_
      obtain ⟨M3_, hq, h4_⟩ := zcV_of h
      refine z_callV hX vX10_passes lX10_403 dX10_go_50 zs_98 rfl (mX10_passes  hq) (by decide) rfl rfl (Nat.le_of_ble_eq_true rfl) 53 rfl (Qv.to (fun M' hv => ?_))
      subst hv
      refine z_iinc (v := (s.1 + 1)) hX dX10_go_53 rfl (by rfl) (by decide) 56 rfl ?_
      refine z_goto hX dX10_go_56 42 (by decide) ?_
      refine z_mask [true, true, true] ?_
      have hz := hrc42 _ h4_
      exact hz
def gX10_go_J40 (x1 : Int32) (M : zM) : Option (Int32 × zM) :=
  zfix zFu (gX10_go_L42 x1) (0, M)
set_option maxRecDepth 100000 in
set_option maxHeartbeats 2000000 in
theorem aX10_go_J40 {G : zG} {X : zX} {x1 : Int32} (hX : zC G X cX10_go 3 RX10 (some .int) 8)   {M : zM} {res : (Int32 × zM)}  (h : gX10_go_J40 x1 M = some res) : Z G X (zQi res) 40 [some (.ref 98), some (.int x1), none] [] M := by
  unfold gX10_go_J40 at h
  refine z_iconst hX dX10_go_40 qi_0 41 rfl ?_
  refine z_istore_n hX dX10_go_41 (by decide) 42 rfl ?_
  refine z_mask [true, true, true] ?_
  have hz := aX10_go_L42 hX _ _ h
  exact hz
def gX10_go (x1 : Int32) (M : zM) : Option (Int32 × zM) :=
  zlet (zI M 98 0 0) (fun M1_ => (if x1 < 0 then some ((-1), M1_)
  else (if 99 < x1 then some ((-1), M1_)
  else (if ((M1_.1 118 (0 : Int32).toNatClampNeg) + x1) ≤ 9900 then (if x1 ≤ 0 then gX10_go_J40 x1 M1_
  else zlet (zI M1_ 98 50 0) (fun M5_ => gX10_go_J40 x1 M5_))
  else some ((-1), M1_)))))
set_option maxRecDepth 100000 in
set_option maxHeartbeats 2000000 in
theorem mX10_go {G : zG} {x1 : Int32} {M : zM}  {res : (Int32 × zM)} (h : gX10_go x1 M = some res) : Ct G 8 tX10_go [.ref 98, .int x1] M (zQi res) := by
  unfold gX10_go at h
  refine Ct.of (y := yX10_go) rfl plX10 (Nat.le_of_ble_eq_true rfl) (fun X hX => ?_)
  replace hX : zC G X cX10_go 3 RX10 (some .int) 8 := hX
  show Z G X _ 0 [some (.ref 98), some (.int x1), none] [] M
  refine z_aload_n hX dX10_go_0 rfl 1 rfl ?_
  refine z_iconst hX dX10_go_1 qi_0 2 rfl ?_
  refine z_putI hX pX10_154 dX10_go_2 zs_98 (by decide) rfl 5 rfl ?_
  refine z_mem h (fun M1_ h2_ => ?_)
  refine z_iload_n hX dX10_go_5 rfl 6 rfl ?_
  refine z_if_lt hX dX10_go_6 29 9 (by decide) rfl (fun hc => ?_) (fun hc => ?_)
  · rw [if_pos hc] at h2_
    refine z_iconst hX dX10_go_29 qi_m1 30 rfl ?_
    exact z_ireturn hX dX10_go_30 (zend_i h2_)
  · rw [if_neg hc] at h2_
    refine z_iload_n hX dX10_go_9 rfl 10 rfl ?_
    refine z_bipush hX dX10_go_10 qb_99 12 rfl ?_
    refine z_icmp_gt hX dX10_go_12 29 15 (by decide) rfl (fun hc => ?_) (fun hc => ?_)
    · rw [if_pos hc] at h2_
      refine z_iconst hX dX10_go_29 qi_m1 30 rfl ?_
      exact z_ireturn hX dX10_go_30 (zend_i h2_)
    · rw [if_neg hc] at h2_
      refine z_aload_n hX dX10_go_15 rfl 16 rfl ?_
      refine z_getF hX fX10_72 dX10_go_16 zs_98 (by decide) rfl 19 rfl ?_
      refine z_iconst hX dX10_go_19 qi_0 20 rfl ?_
      refine z_iald hX dX10_go_20 zs_118 (zok_in (by decide)) 21 rfl ?_
      refine z_iload_n hX dX10_go_21 rfl 22 rfl ?_
      refine z_iadd hX dX10_go_22 23 rfl ?_
      refine z_sipush hX dX10_go_23 qs_9900 26 rfl ?_
      refine z_icmp_le hX dX10_go_26 31 29 (by decide) rfl (fun hc => ?_) (fun hc => ?_)
      · rw [if_pos hc] at h2_
        refine z_iload_n hX dX10_go_31 rfl 32 rfl ?_
        refine z_if_le hX dX10_go_32 40 35 (by decide) rfl (fun hc => ?_) (fun hc => ?_)
        · rw [if_pos hc] at h2_
          refine z_mask [true, true, false] ?_
          have hz := aX10_go_J40 hX h2_
          exact hz
        · rw [if_neg hc] at h2_
          refine z_aload_n hX dX10_go_35 rfl 36 rfl ?_
          refine z_iconst hX dX10_go_36 qi_0 37 rfl ?_
          refine z_putI hX pX10_311 dX10_go_37 zs_98 (by decide) rfl 40 rfl ?_
          refine z_mem h2_ (fun M5_ h6_ => ?_)
          refine z_mask [true, true, false] ?_
          have hz := aX10_go_J40 hX h6_
          exact hz
      · rw [if_neg hc] at h2_
        refine z_iconst hX dX10_go_29 qi_m1 30 rfl ?_
        exact z_ireturn hX dX10_go_30 (zend_i h2_)
def gX10_goesOn_L2 (x1 : Int32) (rc2 : (Int32 × zM) → Option zM) (s : (Int32 × zM)) : Option zM :=
  (if x1 ≤ s.1 then some s.2
  else zcV (gX10_passes 1 0 s.2) (fun M1_ => rc2 ((s.1 + 1), M1_)))
set_option maxRecDepth 100000 in
set_option maxHeartbeats 2000000 in
theorem aX10_goesOn_L2 {G : zG} {X : zX} {x1 : Int32} (hX : zC G X cX10_goesOn 3 RX10 none 8)    {res : zM}  : ∀ (N : Nat) (s : (Int32 × zM)), zfix N (gX10_goesOn_L2 x1) s = some res → Z G X (zQv res) 2 [some (.ref 98), some (.int x1), some (.int s.1)] [] s.2 := by
  intro N
  induction N with
  | zero => intro s h; cases h
  | succ N hrc2 =>
    intro s h
    replace h : gX10_goesOn_L2 x1 (zfix N (gX10_goesOn_L2 x1)) s = some res := h
    unfold gX10_goesOn_L2 at h
    refine z_iload_n hX dX10_goesOn_2 rfl 3 rfl ?_
    refine z_iload_n hX dX10_goesOn_3 rfl 4 rfl ?_
    refine z_icmp_ge hX dX10_goesOn_4 19 7 (by decide) rfl (fun hc => ?_) (fun hc => ?_)
    · rw [if_pos hc] at h
      exact z_return hX dX10_goesOn_19 (zend_v h)
    · rw [if_neg hc] at h
      refine z_aload_n hX dX10_goesOn_7 rfl 8 rfl ?_
      refine z_iconst hX dX10_goesOn_8 qi_1 9 rfl ?_
      refine z_iconst hX dX10_goesOn_9 qi_0 10 rfl ?_
      obtain ⟨M1_, hq, h2_⟩ := zcV_of h
      refine z_callV hX vX10_passes lX10_403 dX10_goesOn_10 zs_98 rfl (mX10_passes  hq) (by decide) rfl rfl (Nat.le_of_ble_eq_true rfl) 13 rfl (Qv.to (fun M' hv => ?_))
      subst hv
      refine z_iinc (v := (s.1 + 1)) hX dX10_goesOn_13 rfl (by rfl) (by decide) 16 rfl ?_
      refine z_goto hX dX10_goesOn_16 2 (by decide) ?_
      refine z_mask [true, true, true] ?_
      have hz := hrc2 _ h2_
      exact hz
def gX10_goesOn (x1 : Int32) (M : zM) : Option zM :=
  zfix zFu (gX10_goesOn_L2 x1) (0, M)
set_option maxRecDepth 100000 in
set_option maxHeartbeats 2000000 in
theorem mX10_goesOn {G : zG} {x1 : Int32} {M : zM}  {res : zM} (h : gX10_goesOn x1 M = some res) : Ct G 8 tX10_goesOn [.ref 98, .int x1] M (zQv res) := by
  unfold gX10_goesOn at h
  refine Ct.of (y := yX10_goesOn) rfl plX10 (Nat.le_of_ble_eq_true rfl) (fun X hX => ?_)
  replace hX : zC G X cX10_goesOn 3 RX10 none 8 := hX
  show Z G X _ 0 [some (.ref 98), some (.int x1), none] [] M
  refine z_iconst hX dX10_goesOn_0 qi_0 1 rfl ?_
  refine z_istore_n hX dX10_goesOn_1 (by decide) 2 rfl ?_
  refine z_mask [true, true, true] ?_
  have hz := aX10_goesOn_L2 hX _ _ h
  exact hz
def gX10_runs (x1 : Int32) (M : zM) : Option zM :=
  zcV (gX10_copies 1 0 M) (fun M1_ => zcV (gX10_goesOn x1 M1_) (fun M3_ => some M3_))
set_option maxRecDepth 100000 in
set_option maxHeartbeats 2000000 in
theorem mX10_runs {G : zG} {x1 : Int32} {M : zM}  {res : zM} (h : gX10_runs x1 M = some res) : Ct G 9 tX10_runs [.ref 98, .int x1] M (zQv res) := by
  unfold gX10_runs at h
  refine Ct.of (y := yX10_runs) rfl plX10 (Nat.le_of_ble_eq_true rfl) (fun X hX => ?_)
  replace hX : zC G X cX10_runs 2 RX10 none 9 := hX
  show Z G X _ 0 [some (.ref 98), some (.int x1)] [] M
  refine z_aload_n hX dX10_runs_0 rfl 1 rfl ?_
  refine z_iconst hX dX10_runs_1 qi_1 2 rfl ?_
  refine z_iconst hX dX10_runs_2 qi_0 3 rfl ?_
  obtain ⟨M1_, hq, h2_⟩ := zcV_of h
  refine z_callV hX vX10_copies lX10_407 dX10_runs_3 zs_98 rfl (mX10_copies  hq) (by decide) rfl rfl (Nat.le_of_ble_eq_true rfl) 6 rfl (Qv.to (fun M' hv => ?_))
  subst hv
  refine z_aload_n hX dX10_runs_6 rfl 7 rfl ?_
  refine z_iload_n hX dX10_runs_7 rfl 8 rfl ?_
  obtain ⟨M3_, hq, h4_⟩ := zcV_of h2_
  refine z_callV hX vX10_goesOn lX10_410 dX10_runs_8 zs_98 rfl (mX10_goesOn  hq) (by decide) rfl rfl (Nat.le_of_ble_eq_true rfl) 11 rfl (Qv.to (fun M' hv => ?_))
  subst hv
  exact z_return hX dX10_runs_11 (zend_v h4_)
def gX10_thingsOf_L5 (x1 : Int32) (x2 : Int32) (M : zM) (rc5 : (Int32 × Int32) → Option Int32) (s : (Int32 × Int32)) : Option Int32 :=
  (if (M.1 100 (1 : Int32).toNatClampNeg) ≤ s.2 then some s.1
  else zg (zok ((8 * x1) + s.2) 184) ((if (M.1 130 (((8 * x1) + s.2) : Int32).toNatClampNeg) = x2 then rc5 ((s.1 + 1), (s.2 + 1))
  else rc5 ((s.1 + 0), (s.2 + 1)))))
set_option maxRecDepth 100000 in
set_option maxHeartbeats 2000000 in
theorem aX10_thingsOf_L5 {G : zG} {X : zX} {x1 : Int32} {x2 : Int32} (hX : zC G X cX10_thingsOf 5 RX10 (some .int) 1)   {M : zM} {res : Int32}  : ∀ (N : Nat) (s : (Int32 × Int32)), zfix N (gX10_thingsOf_L5 x1 x2 M) s = some res → Z G X (zQip M res) 5 [some (.ref 98), some (.int x1), some (.int x2), some (.int s.1), some (.int s.2)] [] M := by
  intro N
  induction N with
  | zero => intro s h; cases h
  | succ N hrc5 =>
    intro s h
    replace h : gX10_thingsOf_L5 x1 x2 M (zfix N (gX10_thingsOf_L5 x1 x2 M)) s = some res := h
    unfold gX10_thingsOf_L5 at h
    refine z_iload hX dX10_thingsOf_5 rfl 7 rfl ?_
    refine z_aload_n hX dX10_thingsOf_7 rfl 8 rfl ?_
    refine z_getF hX fX10_13 dX10_thingsOf_8 zs_98 (by decide) rfl 11 rfl ?_
    refine z_iconst hX dX10_thingsOf_11 qi_1 12 rfl ?_
    refine z_iald hX dX10_thingsOf_12 zs_100 (zok_in (by decide)) 13 rfl ?_
    refine z_icmp_ge hX dX10_thingsOf_13 46 16 (by decide) rfl (fun hc => ?_) (fun hc => ?_)
    · rw [if_pos hc] at h
      refine z_iload_n hX dX10_thingsOf_46 rfl 47 rfl ?_
      exact z_ireturn hX dX10_thingsOf_47 (zend_ip h)
    · rw [if_neg hc] at h
      refine z_iload_n hX dX10_thingsOf_16 rfl 17 rfl ?_
      refine z_aload_n hX dX10_thingsOf_17 rfl 18 rfl ?_
      refine z_getF hX fX10_108 dX10_thingsOf_18 zs_98 (by decide) rfl 21 rfl ?_
      refine z_bipush hX dX10_thingsOf_21 qb_8 23 rfl ?_
      refine z_iload_n hX dX10_thingsOf_23 rfl 24 rfl ?_
      refine z_imul hX dX10_thingsOf_24 25 rfl ?_
      refine z_iload hX dX10_thingsOf_25 rfl 27 rfl ?_
      refine z_iadd hX dX10_thingsOf_27 28 rfl ?_
      obtain ⟨hb, h1_⟩ := zgd h
      refine z_iald hX dX10_thingsOf_28 zs_130 (zok_in hb) 29 rfl ?_
      refine z_iload_n hX dX10_thingsOf_29 rfl 30 rfl ?_
      refine z_icmp_ne hX dX10_thingsOf_30 37 33 (by decide) rfl (fun hc => ?_) (fun hc => ?_)
      · rw [if_neg hc] at h1_
        refine z_iconst hX dX10_thingsOf_37 qi_0 38 rfl ?_
        refine z_iadd hX dX10_thingsOf_38 39 rfl ?_
        refine z_istore_n hX dX10_thingsOf_39 (by decide) 40 rfl ?_
        refine z_iinc (v := (s.2 + 1)) hX dX10_thingsOf_40 rfl (by rfl) (by decide) 43 rfl ?_
        refine z_goto hX dX10_thingsOf_43 5 (by decide) ?_
        refine z_mask [true, true, true, true, true] ?_
        have hz := hrc5 _ h1_
        exact hz
      · rw [if_pos hc] at h1_
        refine z_iconst hX dX10_thingsOf_33 qi_1 34 rfl ?_
        refine z_goto hX dX10_thingsOf_34 38 (by decide) ?_
        refine z_iadd hX dX10_thingsOf_38 39 rfl ?_
        refine z_istore_n hX dX10_thingsOf_39 (by decide) 40 rfl ?_
        refine z_iinc (v := (s.2 + 1)) hX dX10_thingsOf_40 rfl (by rfl) (by decide) 43 rfl ?_
        refine z_goto hX dX10_thingsOf_43 5 (by decide) ?_
        refine z_mask [true, true, true, true, true] ?_
        have hz := hrc5 _ h1_
        exact hz
def gX10_thingsOf (x1 : Int32) (x2 : Int32) (M : zM) : Option Int32 :=
  zfix zFu (gX10_thingsOf_L5 x1 x2 M) (0, 0)
set_option maxRecDepth 100000 in
set_option maxHeartbeats 2000000 in
theorem mX10_thingsOf {G : zG} {x1 : Int32} {x2 : Int32} {M : zM}  {res : Int32} (h : gX10_thingsOf x1 x2 M = some res) : Ct G 1 tX10_thingsOf [.ref 98, .int x1, .int x2] M (zQip M res) := by
  unfold gX10_thingsOf at h
  refine Ct.of (y := yX10_thingsOf) rfl plX10 (Nat.le_of_ble_eq_true rfl) (fun X hX => ?_)
  replace hX : zC G X cX10_thingsOf 5 RX10 (some .int) 1 := hX
  show Z G X _ 0 [some (.ref 98), some (.int x1), some (.int x2), none, none] [] M
  refine z_iconst hX dX10_thingsOf_0 qi_0 1 rfl ?_
  refine z_istore_n hX dX10_thingsOf_1 (by decide) 2 rfl ?_
  refine z_iconst hX dX10_thingsOf_2 qi_0 3 rfl ?_
  refine z_istore hX dX10_thingsOf_3 (by decide) 5 rfl ?_
  refine z_mask [true, true, true, true, true] ?_
  have hz := aX10_thingsOf_L5 hX _ _ h
  exact hz
def gX10_menOf_L5 (x1 : Int32) (x2 : Int32) (M : zM) (rc5 : (Int32 × Int32) → Option Int32) (s : (Int32 × Int32)) : Option Int32 :=
  (if (M.1 100 (0 : Int32).toNatClampNeg) ≤ s.2 then some s.1
  else zg (zok ((6 * x1) + s.2) 138) ((if (M.1 125 (((6 * x1) + s.2) : Int32).toNatClampNeg) = x2 then rc5 ((s.1 + 1), (s.2 + 1))
  else rc5 ((s.1 + 0), (s.2 + 1)))))
set_option maxRecDepth 100000 in
set_option maxHeartbeats 2000000 in
theorem aX10_menOf_L5 {G : zG} {X : zX} {x1 : Int32} {x2 : Int32} (hX : zC G X cX10_menOf 5 RX10 (some .int) 1)   {M : zM} {res : Int32}  : ∀ (N : Nat) (s : (Int32 × Int32)), zfix N (gX10_menOf_L5 x1 x2 M) s = some res → Z G X (zQip M res) 5 [some (.ref 98), some (.int x1), some (.int x2), some (.int s.1), some (.int s.2)] [] M := by
  intro N
  induction N with
  | zero => intro s h; cases h
  | succ N hrc5 =>
    intro s h
    replace h : gX10_menOf_L5 x1 x2 M (zfix N (gX10_menOf_L5 x1 x2 M)) s = some res := h
    unfold gX10_menOf_L5 at h
    refine z_iload hX dX10_menOf_5 rfl 7 rfl ?_
    refine z_aload_n hX dX10_menOf_7 rfl 8 rfl ?_
    refine z_getF hX fX10_13 dX10_menOf_8 zs_98 (by decide) rfl 11 rfl ?_
    refine z_iconst hX dX10_menOf_11 qi_0 12 rfl ?_
    refine z_iald hX dX10_menOf_12 zs_100 (zok_in (by decide)) 13 rfl ?_
    refine z_icmp_ge hX dX10_menOf_13 46 16 (by decide) rfl (fun hc => ?_) (fun hc => ?_)
    · rw [if_pos hc] at h
      refine z_iload_n hX dX10_menOf_46 rfl 47 rfl ?_
      exact z_ireturn hX dX10_menOf_47 (zend_ip h)
    · rw [if_neg hc] at h
      refine z_iload_n hX dX10_menOf_16 rfl 17 rfl ?_
      refine z_aload_n hX dX10_menOf_17 rfl 18 rfl ?_
      refine z_getF hX fX10_93 dX10_menOf_18 zs_98 (by decide) rfl 21 rfl ?_
      refine z_bipush hX dX10_menOf_21 qb_6 23 rfl ?_
      refine z_iload_n hX dX10_menOf_23 rfl 24 rfl ?_
      refine z_imul hX dX10_menOf_24 25 rfl ?_
      refine z_iload hX dX10_menOf_25 rfl 27 rfl ?_
      refine z_iadd hX dX10_menOf_27 28 rfl ?_
      obtain ⟨hb, h1_⟩ := zgd h
      refine z_iald hX dX10_menOf_28 zs_125 (zok_in hb) 29 rfl ?_
      refine z_iload_n hX dX10_menOf_29 rfl 30 rfl ?_
      refine z_icmp_ne hX dX10_menOf_30 37 33 (by decide) rfl (fun hc => ?_) (fun hc => ?_)
      · rw [if_neg hc] at h1_
        refine z_iconst hX dX10_menOf_37 qi_0 38 rfl ?_
        refine z_iadd hX dX10_menOf_38 39 rfl ?_
        refine z_istore_n hX dX10_menOf_39 (by decide) 40 rfl ?_
        refine z_iinc (v := (s.2 + 1)) hX dX10_menOf_40 rfl (by rfl) (by decide) 43 rfl ?_
        refine z_goto hX dX10_menOf_43 5 (by decide) ?_
        refine z_mask [true, true, true, true, true] ?_
        have hz := hrc5 _ h1_
        exact hz
      · rw [if_pos hc] at h1_
        refine z_iconst hX dX10_menOf_33 qi_1 34 rfl ?_
        refine z_goto hX dX10_menOf_34 38 (by decide) ?_
        refine z_iadd hX dX10_menOf_38 39 rfl ?_
        refine z_istore_n hX dX10_menOf_39 (by decide) 40 rfl ?_
        refine z_iinc (v := (s.2 + 1)) hX dX10_menOf_40 rfl (by rfl) (by decide) 43 rfl ?_
        refine z_goto hX dX10_menOf_43 5 (by decide) ?_
        refine z_mask [true, true, true, true, true] ?_
        have hz := hrc5 _ h1_
        exact hz
def gX10_menOf (x1 : Int32) (x2 : Int32) (M : zM) : Option Int32 :=
  zfix zFu (gX10_menOf_L5 x1 x2 M) (0, 0)
set_option maxRecDepth 100000 in
set_option maxHeartbeats 2000000 in
theorem mX10_menOf {G : zG} {x1 : Int32} {x2 : Int32} {M : zM}  {res : Int32} (h : gX10_menOf x1 x2 M = some res) : Ct G 1 tX10_menOf [.ref 98, .int x1, .int x2] M (zQip M res) := by
  unfold gX10_menOf at h
  refine Ct.of (y := yX10_menOf) rfl plX10 (Nat.le_of_ble_eq_true rfl) (fun X hX => ?_)
  replace hX : zC G X cX10_menOf 5 RX10 (some .int) 1 := hX
  show Z G X _ 0 [some (.ref 98), some (.int x1), some (.int x2), none, none] [] M
  refine z_iconst hX dX10_menOf_0 qi_0 1 rfl ?_
  refine z_istore_n hX dX10_menOf_1 (by decide) 2 rfl ?_
  refine z_iconst hX dX10_menOf_2 qi_0 3 rfl ?_
  refine z_istore hX dX10_menOf_3 (by decide) 5 rfl ?_
  refine z_mask [true, true, true, true, true] ?_
  have hz := aX10_menOf_L5 hX _ _ h
  exact hz
def gX10_ahead (x1 : Int32) (x2 : Int32) (M : zM) : Option (Int32 × zM) :=
  zlet (zI M 98 0 0) (fun M1_ => (if x1 < 0 then some ((-1), M1_)
  else (if 99 < x1 then some ((-1), M1_)
  else (if x2 < 0 then some ((-1), M1_)
  else (if x2 ≤ 4 then zcV (gX10_runs x1 M1_) (fun M3_ => (if x2 = 0 then zcI (gX10_thingsOf 1 2 M3_) (fun v5_ => zcI (gX10_thingsOf 0 2 M3_) (fun v7_ => some ((v5_ - v7_), M3_)))
  else if x2 = 1 then zcI (gX10_thingsOf 1 3 M3_) (fun v9_ => zcI (gX10_thingsOf 0 3 M3_) (fun v11_ => some ((v9_ - v11_), M3_)))
  else if x2 = 2 then zcI (gX10_menOf 1 2 M3_) (fun v13_ => zcI (gX10_menOf 0 2 M3_) (fun v15_ => some ((v13_ - v15_), M3_)))
  else if x2 = 3 then some ((M3_.1 120 (1 : Int32).toNatClampNeg), M3_)
  else some ((M3_.1 121 (1 : Int32).toNatClampNeg), M3_)))
  else some ((-1), M1_))))))
set_option maxRecDepth 100000 in
set_option maxHeartbeats 2000000 in
theorem mX10_ahead {G : zG} {x1 : Int32} {x2 : Int32} {M : zM}  {res : (Int32 × zM)} (h : gX10_ahead x1 x2 M = some res) : Ct G 10 tX10_ahead [.ref 98, .int x1, .int x2] M (zQi res) := by
  unfold gX10_ahead at h
  refine Ct.of (y := yX10_ahead) rfl plX10 (Nat.le_of_ble_eq_true rfl) (fun X hX => ?_)
  replace hX : zC G X cX10_ahead 3 RX10 (some .int) 10 := hX
  show Z G X _ 0 [some (.ref 98), some (.int x1), some (.int x2)] [] M
  refine z_aload_n hX dX10_ahead_0 rfl 1 rfl ?_
  refine z_iconst hX dX10_ahead_1 qi_0 2 rfl ?_
  refine z_putI hX pX10_154 dX10_ahead_2 zs_98 (by decide) rfl 5 rfl ?_
  refine z_mem h (fun M1_ h2_ => ?_)
  refine z_iload_n hX dX10_ahead_5 rfl 6 rfl ?_
  refine z_if_lt hX dX10_ahead_6 24 9 (by decide) rfl (fun hc => ?_) (fun hc => ?_)
  · rw [if_pos hc] at h2_
    refine z_iconst hX dX10_ahead_24 qi_m1 25 rfl ?_
    exact z_ireturn hX dX10_ahead_25 (zend_i h2_)
  · rw [if_neg hc] at h2_
    refine z_iload_n hX dX10_ahead_9 rfl 10 rfl ?_
    refine z_bipush hX dX10_ahead_10 qb_99 12 rfl ?_
    refine z_icmp_gt hX dX10_ahead_12 24 15 (by decide) rfl (fun hc => ?_) (fun hc => ?_)
    · rw [if_pos hc] at h2_
      refine z_iconst hX dX10_ahead_24 qi_m1 25 rfl ?_
      exact z_ireturn hX dX10_ahead_25 (zend_i h2_)
    · rw [if_neg hc] at h2_
      refine z_iload_n hX dX10_ahead_15 rfl 16 rfl ?_
      refine z_if_lt hX dX10_ahead_16 24 19 (by decide) rfl (fun hc => ?_) (fun hc => ?_)
      · rw [if_pos hc] at h2_
        refine z_iconst hX dX10_ahead_24 qi_m1 25 rfl ?_
        exact z_ireturn hX dX10_ahead_25 (zend_i h2_)
      · rw [if_neg hc] at h2_
        refine z_iload_n hX dX10_ahead_19 rfl 20 rfl ?_
        refine z_iconst hX dX10_ahead_20 qi_4 21 rfl ?_
        refine z_icmp_le hX dX10_ahead_21 26 24 (by decide) rfl (fun hc => ?_) (fun hc => ?_)
        · rw [if_pos hc] at h2_
          refine z_aload_n hX dX10_ahead_26 rfl 27 rfl ?_
          refine z_iload_n hX dX10_ahead_27 rfl 28 rfl ?_
          obtain ⟨M3_, hq, h4_⟩ := zcV_of h2_
          refine z_callV hX vX10_runs lX10_432 dX10_ahead_28 zs_98 rfl (mX10_runs  hq) (by decide) rfl rfl (Nat.le_of_ble_eq_true rfl) 31 rfl (Qv.to (fun M' hv => ?_))
          subst hv
          refine z_iload_n hX dX10_ahead_31 rfl 32 rfl ?_
          by_cases hc0 : x2 = 0
          · rw [if_pos hc0] at h4_
            refine z_tabIn hX dX10_ahead_32 (by rw [hc0]; decide) (by rw [hc0]; decide) (by rw [hc0]; rfl) 64 (by decide) ?_
            refine z_aload_n hX dX10_ahead_64 rfl 65 rfl ?_
            refine z_iconst hX dX10_ahead_65 qi_1 66 rfl ?_
            refine z_iconst hX dX10_ahead_66 qi_2 67 rfl ?_
            obtain ⟨v5_, hq, h6_⟩ := zcI_of h4_
            refine z_callV hX vX10_thingsOf lX10_435 dX10_ahead_67 zs_98 rfl (mX10_thingsOf  hq) (by decide) rfl rfl (Nat.le_of_ble_eq_true rfl) 70 rfl (Qi.to (fun v' M' hv => ?_))
            obtain ⟨rfl, rfl⟩ := hv
            refine z_aload_n hX dX10_ahead_70 rfl 71 rfl ?_
            refine z_iconst hX dX10_ahead_71 qi_0 72 rfl ?_
            refine z_iconst hX dX10_ahead_72 qi_2 73 rfl ?_
            obtain ⟨v7_, hq, h8_⟩ := zcI_of h6_
            refine z_callV hX vX10_thingsOf lX10_435 dX10_ahead_73 zs_98 rfl (mX10_thingsOf  hq) (by decide) rfl rfl (Nat.le_of_ble_eq_true rfl) 76 rfl (Qi.to (fun v' M' hv => ?_))
            obtain ⟨rfl, rfl⟩ := hv
            refine z_isub hX dX10_ahead_76 77 rfl ?_
            exact z_ireturn hX dX10_ahead_77 (zend_i h8_)
          rw [if_neg hc0] at h4_
          by_cases hc1 : x2 = 1
          · rw [if_pos hc1] at h4_
            refine z_tabIn hX dX10_ahead_32 (by rw [hc1]; decide) (by rw [hc1]; decide) (by rw [hc1]; rfl) 78 (by decide) ?_
            refine z_aload_n hX dX10_ahead_78 rfl 79 rfl ?_
            refine z_iconst hX dX10_ahead_79 qi_1 80 rfl ?_
            refine z_iconst hX dX10_ahead_80 qi_3 81 rfl ?_
            obtain ⟨v9_, hq, h10_⟩ := zcI_of h4_
            refine z_callV hX vX10_thingsOf lX10_435 dX10_ahead_81 zs_98 rfl (mX10_thingsOf  hq) (by decide) rfl rfl (Nat.le_of_ble_eq_true rfl) 84 rfl (Qi.to (fun v' M' hv => ?_))
            obtain ⟨rfl, rfl⟩ := hv
            refine z_aload_n hX dX10_ahead_84 rfl 85 rfl ?_
            refine z_iconst hX dX10_ahead_85 qi_0 86 rfl ?_
            refine z_iconst hX dX10_ahead_86 qi_3 87 rfl ?_
            obtain ⟨v11_, hq, h12_⟩ := zcI_of h10_
            refine z_callV hX vX10_thingsOf lX10_435 dX10_ahead_87 zs_98 rfl (mX10_thingsOf  hq) (by decide) rfl rfl (Nat.le_of_ble_eq_true rfl) 90 rfl (Qi.to (fun v' M' hv => ?_))
            obtain ⟨rfl, rfl⟩ := hv
            refine z_isub hX dX10_ahead_90 91 rfl ?_
            exact z_ireturn hX dX10_ahead_91 (zend_i h12_)
          rw [if_neg hc1] at h4_
          by_cases hc2 : x2 = 2
          · rw [if_pos hc2] at h4_
            refine z_tabIn hX dX10_ahead_32 (by rw [hc2]; decide) (by rw [hc2]; decide) (by rw [hc2]; rfl) 92 (by decide) ?_
            refine z_aload_n hX dX10_ahead_92 rfl 93 rfl ?_
            refine z_iconst hX dX10_ahead_93 qi_1 94 rfl ?_
            refine z_iconst hX dX10_ahead_94 qi_2 95 rfl ?_
            obtain ⟨v13_, hq, h14_⟩ := zcI_of h4_
            refine z_callV hX vX10_menOf lX10_438 dX10_ahead_95 zs_98 rfl (mX10_menOf  hq) (by decide) rfl rfl (Nat.le_of_ble_eq_true rfl) 98 rfl (Qi.to (fun v' M' hv => ?_))
            obtain ⟨rfl, rfl⟩ := hv
            refine z_aload_n hX dX10_ahead_98 rfl 99 rfl ?_
            refine z_iconst hX dX10_ahead_99 qi_0 100 rfl ?_
            refine z_iconst hX dX10_ahead_100 qi_2 101 rfl ?_
            obtain ⟨v15_, hq, h16_⟩ := zcI_of h14_
            refine z_callV hX vX10_menOf lX10_438 dX10_ahead_101 zs_98 rfl (mX10_menOf  hq) (by decide) rfl rfl (Nat.le_of_ble_eq_true rfl) 104 rfl (Qi.to (fun v' M' hv => ?_))
            obtain ⟨rfl, rfl⟩ := hv
            refine z_isub hX dX10_ahead_104 105 rfl ?_
            exact z_ireturn hX dX10_ahead_105 (zend_i h16_)
          rw [if_neg hc2] at h4_
          by_cases hc3 : x2 = 3
          · rw [if_pos hc3] at h4_
            refine z_tabIn hX dX10_ahead_32 (by rw [hc3]; decide) (by rw [hc3]; decide) (by rw [hc3]; rfl) 106 (by decide) ?_
            refine z_aload_n hX dX10_ahead_106 rfl 107 rfl ?_
            refine z_getF hX fX10_78 dX10_ahead_107 zs_98 (by decide) rfl 110 rfl ?_
            refine z_iconst hX dX10_ahead_110 qi_1 111 rfl ?_
            refine z_iald hX dX10_ahead_111 zs_120 (zok_in (by decide)) 112 rfl ?_
            exact z_ireturn hX dX10_ahead_112 (zend_i h4_)
          rw [if_neg hc3] at h4_
          have hout : (x2 : Int32).toInt < 0 ∨ 3 < (x2 : Int32).toInt := zsw_out (fun k h1 h2 => by
            have hk : k = 0 ∨ k = 1 ∨ k = 2 ∨ k = 3 := by omega
            rcases hk with rfl | rfl | rfl | rfl
            · exact hc0
            · exact hc1
            · exact hc2
            · exact hc3)
          refine z_tabOut hX dX10_ahead_32 hout 113 (by decide) ?_
          refine z_aload_n hX dX10_ahead_113 rfl 114 rfl ?_
          refine z_getF hX fX10_81 dX10_ahead_114 zs_98 (by decide) rfl 117 rfl ?_
          refine z_iconst hX dX10_ahead_117 qi_1 118 rfl ?_
          refine z_iald hX dX10_ahead_118 zs_121 (zok_in (by decide)) 119 rfl ?_
          exact z_ireturn hX dX10_ahead_119 (zend_i h4_)
        · rw [if_neg hc] at h2_
          refine z_iconst hX dX10_ahead_24 qi_m1 25 rfl ?_
          exact z_ireturn hX dX10_ahead_25 (zend_i h2_)
def gX10_goes_L23 (x1 : Int32) (rc23 : (Int32 × zM) → Option (Int32 × zM)) (s : (Int32 × zM)) : Option (Int32 × zM) :=
  (if 99 < s.1 then some ((-2), s.2)
  else zcV (gX10_passes 1 0 s.2) (fun M7_ => (if ((((M7_.1 98 53) : Int32) >>> ((x1 : Int32) &&& 31)) &&& 1) = 1 then some (s.1, M7_)
  else rc23 ((s.1 + 1), M7_))))
set_option maxRecDepth 100000 in
set_option maxHeartbeats 2000000 in
theorem aX10_goes_L23 {G : zG} {X : zX} {x1 : Int32} (hX : zC G X cX10_goes 3 RX10 (some .int) 8)    {res : (Int32 × zM)}  : ∀ (N : Nat) (s : (Int32 × zM)), zfix N (gX10_goes_L23 x1) s = some res → Z G X (zQi res) 23 [some (.ref 98), some (.int x1), some (.int s.1)] [] s.2 := by
  intro N
  induction N with
  | zero => intro s h; cases h
  | succ N hrc23 =>
    intro s h
    replace h : gX10_goes_L23 x1 (zfix N (gX10_goes_L23 x1)) s = some res := h
    unfold gX10_goes_L23 at h
    refine z_iload_n hX dX10_goes_23 rfl 24 rfl ?_
    refine z_bipush hX dX10_goes_24 qb_99 26 rfl ?_
    refine z_icmp_gt hX dX10_goes_26 55 29 (by decide) rfl (fun hc => ?_) (fun hc => ?_)
    · rw [if_pos hc] at h
      refine z_bipush hX dX10_goes_55 qb_m2 57 rfl ?_
      exact z_ireturn hX dX10_goes_57 (zend_i h)
    · rw [if_neg hc] at h
      refine z_aload_n hX dX10_goes_29 rfl 30 rfl ?_
      refine z_iconst hX dX10_goes_30 qi_1 31 rfl ?_
      refine z_iconst hX dX10_goes_31 qi_0 32 rfl ?_
      obtain ⟨M7_, hq, h8_⟩ := zcV_of h
      refine z_callV hX vX10_passes lX10_403 dX10_goes_32 zs_98 rfl (mX10_passes  hq) (by decide) rfl rfl (Nat.le_of_ble_eq_true rfl) 35 rfl (Qv.to (fun M' hv => ?_))
      subst hv
      refine z_aload_n hX dX10_goes_35 rfl 36 rfl ?_
      refine z_getI hX fX10_367 dX10_goes_36 zs_98 (by decide) rfl 39 rfl ?_
      refine z_iload_n hX dX10_goes_39 rfl 40 rfl ?_
      refine z_ishr hX dX10_goes_40 41 rfl ?_
      refine z_iconst hX dX10_goes_41 qi_1 42 rfl ?_
      refine z_iand hX dX10_goes_42 43 rfl ?_
      refine z_iconst hX dX10_goes_43 qi_1 44 rfl ?_
      refine z_icmp_ne hX dX10_goes_44 49 47 (by decide) rfl (fun hc => ?_) (fun hc => ?_)
      · rw [if_neg hc] at h8_
        refine z_iinc (v := (s.1 + 1)) hX dX10_goes_49 rfl (by rfl) (by decide) 52 rfl ?_
        refine z_goto hX dX10_goes_52 23 (by decide) ?_
        refine z_mask [true, true, true] ?_
        have hz := hrc23 _ h8_
        exact hz
      · rw [if_pos hc] at h8_
        refine z_iload_n hX dX10_goes_47 rfl 48 rfl ?_
        exact z_ireturn hX dX10_goes_48 (zend_i h8_)
def gX10_goes (x1 : Int32) (M : zM) : Option (Int32 × zM) :=
  zlet (zI M 98 0 0) (fun M1_ => zcI (gX10_isMan x1 M1_) (fun v3_ => (if v3_ = 0 then some ((-1), M1_)
  else zcV (gX10_copies 1 0 M1_) (fun M5_ => zfix zFu (gX10_goes_L23 x1) (1, M5_)))))
set_option maxRecDepth 100000 in
set_option maxHeartbeats 2000000 in
theorem mX10_goes {G : zG} {x1 : Int32} {M : zM}  {res : (Int32 × zM)} (h : gX10_goes x1 M = some res) : Ct G 8 tX10_goes [.ref 98, .int x1] M (zQi res) := by
  unfold gX10_goes at h
  refine Ct.of (y := yX10_goes) rfl plX10 (Nat.le_of_ble_eq_true rfl) (fun X hX => ?_)
  replace hX : zC G X cX10_goes 3 RX10 (some .int) 8 := hX
  show Z G X _ 0 [some (.ref 98), some (.int x1), none] [] M
  refine z_aload_n hX dX10_goes_0 rfl 1 rfl ?_
  refine z_iconst hX dX10_goes_1 qi_0 2 rfl ?_
  refine z_putI hX pX10_154 dX10_goes_2 zs_98 (by decide) rfl 5 rfl ?_
  refine z_mem h (fun M1_ h2_ => ?_)
  refine z_aload_n hX dX10_goes_5 rfl 6 rfl ?_
  refine z_iload_n hX dX10_goes_6 rfl 7 rfl ?_
  obtain ⟨v3_, hq, h4_⟩ := zcI_of h2_
  refine z_callV hX vX10_isMan lX10_413 dX10_goes_7 zs_98 rfl (mX10_isMan  hq) (by decide) rfl rfl (Nat.le_of_ble_eq_true rfl) 10 rfl (Qi.to (fun v' M' hv => ?_))
  obtain ⟨rfl, rfl⟩ := hv
  refine z_if_ne hX dX10_goes_10 15 13 (by decide) rfl (fun hc => ?_) (fun hc => ?_)
  · rw [if_neg hc] at h4_
    refine z_aload_n hX dX10_goes_15 rfl 16 rfl ?_
    refine z_iconst hX dX10_goes_16 qi_1 17 rfl ?_
    refine z_iconst hX dX10_goes_17 qi_0 18 rfl ?_
    obtain ⟨M5_, hq, h6_⟩ := zcV_of h4_
    refine z_callV hX vX10_copies lX10_407 dX10_goes_18 zs_98 rfl (mX10_copies  hq) (by decide) rfl rfl (Nat.le_of_ble_eq_true rfl) 21 rfl (Qv.to (fun M' hv => ?_))
    subst hv
    refine z_iconst hX dX10_goes_21 qi_1 22 rfl ?_
    refine z_istore_n hX dX10_goes_22 (by decide) 23 rfl ?_
    refine z_mask [true, true, true] ?_
    have hz := aX10_goes_L23 hX _ _ h6_
    exact hz
  · rw [if_pos hc] at h4_
    refine z_iconst hX dX10_goes_13 qi_m1 14 rfl ?_
    exact z_ireturn hX dX10_goes_14 (zend_i h4_)
def gX10_out_L23 (x1 : Int32) (rc23 : (Int32 × zM) → Option (Int32 × zM)) (s : (Int32 × zM)) : Option (Int32 × zM) :=
  (if 99 < s.1 then some ((-2), s.2)
  else zg (zok (8 + x1) 184) ((if (s.2.1 130 ((8 + x1) : Int32).toNatClampNeg) = 2 then some (s.1, s.2)
  else zcV (gX10_passes 1 0 s.2) (fun M8_ => rc23 ((s.1 + 1), M8_)))))
set_option maxRecDepth 100000 in
set_option maxHeartbeats 2000000 in
theorem aX10_out_L23 {G : zG} {X : zX} {x1 : Int32} (hX : zC G X cX10_out 3 RX10 (some .int) 8)    {res : (Int32 × zM)}  : ∀ (N : Nat) (s : (Int32 × zM)), zfix N (gX10_out_L23 x1) s = some res → Z G X (zQi res) 23 [some (.ref 98), some (.int x1), some (.int s.1)] [] s.2 := by
  intro N
  induction N with
  | zero => intro s h; cases h
  | succ N hrc23 =>
    intro s h
    replace h : gX10_out_L23 x1 (zfix N (gX10_out_L23 x1)) s = some res := h
    unfold gX10_out_L23 at h
    refine z_iload_n hX dX10_out_23 rfl 24 rfl ?_
    refine z_bipush hX dX10_out_24 qb_99 26 rfl ?_
    refine z_icmp_gt hX dX10_out_26 56 29 (by decide) rfl (fun hc => ?_) (fun hc => ?_)
    · rw [if_pos hc] at h
      refine z_bipush hX dX10_out_56 qb_m2 58 rfl ?_
      exact z_ireturn hX dX10_out_58 (zend_i h)
    · rw [if_neg hc] at h
      refine z_aload_n hX dX10_out_29 rfl 30 rfl ?_
      refine z_getF hX fX10_108 dX10_out_30 zs_98 (by decide) rfl 33 rfl ?_
      refine z_bipush hX dX10_out_33 qb_8 35 rfl ?_
      refine z_iload_n hX dX10_out_35 rfl 36 rfl ?_
      refine z_iadd hX dX10_out_36 37 rfl ?_
      obtain ⟨hb, h7_⟩ := zgd h
      refine z_iald hX dX10_out_37 zs_130 (zok_in hb) 38 rfl ?_
      refine z_iconst hX dX10_out_38 qi_2 39 rfl ?_
      refine z_icmp_ne hX dX10_out_39 44 42 (by decide) rfl (fun hc => ?_) (fun hc => ?_)
      · rw [if_neg hc] at h7_
        refine z_aload_n hX dX10_out_44 rfl 45 rfl ?_
        refine z_iconst hX dX10_out_45 qi_1 46 rfl ?_
        refine z_iconst hX dX10_out_46 qi_0 47 rfl ?_
        obtain ⟨M8_, hq, h9_⟩ := zcV_of h7_
        refine z_callV hX vX10_passes lX10_403 dX10_out_47 zs_98 rfl (mX10_passes  hq) (by decide) rfl rfl (Nat.le_of_ble_eq_true rfl) 50 rfl (Qv.to (fun M' hv => ?_))
        subst hv
        refine z_iinc (v := (s.1 + 1)) hX dX10_out_50 rfl (by rfl) (by decide) 53 rfl ?_
        refine z_goto hX dX10_out_53 23 (by decide) ?_
        refine z_mask [true, true, true] ?_
        have hz := hrc23 _ h9_
        exact hz
      · rw [if_pos hc] at h7_
        refine z_iload_n hX dX10_out_42 rfl 43 rfl ?_
        exact z_ireturn hX dX10_out_43 (zend_i h7_)
def gX10_out (x1 : Int32) (M : zM) : Option (Int32 × zM) :=
  zlet (zI M 98 0 0) (fun M1_ => zcI (gX10_isThing x1 M1_) (fun v3_ => (if v3_ = 0 then some ((-1), M1_)
  else zcV (gX10_copies 1 0 M1_) (fun M5_ => zfix zFu (gX10_out_L23 x1) (0, M5_)))))
set_option maxRecDepth 100000 in
set_option maxHeartbeats 2000000 in
theorem mX10_out {G : zG} {x1 : Int32} {M : zM}  {res : (Int32 × zM)} (h : gX10_out x1 M = some res) : Ct G 8 tX10_out [.ref 98, .int x1] M (zQi res) := by
  unfold gX10_out at h
  refine Ct.of (y := yX10_out) rfl plX10 (Nat.le_of_ble_eq_true rfl) (fun X hX => ?_)
  replace hX : zC G X cX10_out 3 RX10 (some .int) 8 := hX
  show Z G X _ 0 [some (.ref 98), some (.int x1), none] [] M
  refine z_aload_n hX dX10_out_0 rfl 1 rfl ?_
  refine z_iconst hX dX10_out_1 qi_0 2 rfl ?_
  refine z_putI hX pX10_154 dX10_out_2 zs_98 (by decide) rfl 5 rfl ?_
  refine z_mem h (fun M1_ h2_ => ?_)
  refine z_aload_n hX dX10_out_5 rfl 6 rfl ?_
  refine z_iload_n hX dX10_out_6 rfl 7 rfl ?_
  obtain ⟨v3_, hq, h4_⟩ := zcI_of h2_
  refine z_callV hX vX10_isThing lX10_422 dX10_out_7 zs_98 rfl (mX10_isThing  hq) (by decide) rfl rfl (Nat.le_of_ble_eq_true rfl) 10 rfl (Qi.to (fun v' M' hv => ?_))
  obtain ⟨rfl, rfl⟩ := hv
  refine z_if_ne hX dX10_out_10 15 13 (by decide) rfl (fun hc => ?_) (fun hc => ?_)
  · rw [if_neg hc] at h4_
    refine z_aload_n hX dX10_out_15 rfl 16 rfl ?_
    refine z_iconst hX dX10_out_16 qi_1 17 rfl ?_
    refine z_iconst hX dX10_out_17 qi_0 18 rfl ?_
    obtain ⟨M5_, hq, h6_⟩ := zcV_of h4_
    refine z_callV hX vX10_copies lX10_407 dX10_out_18 zs_98 rfl (mX10_copies  hq) (by decide) rfl rfl (Nat.le_of_ble_eq_true rfl) 21 rfl (Qv.to (fun M' hv => ?_))
    subst hv
    refine z_iconst hX dX10_out_21 qi_0 22 rfl ?_
    refine z_istore_n hX dX10_out_22 (by decide) 23 rfl ?_
    refine z_mask [true, true, true] ?_
    have hz := aX10_out_L23 hX _ _ h6_
    exact hz
  · rw [if_pos hc] at h4_
    refine z_iconst hX dX10_out_13 qi_m1 14 rfl ?_
    exact z_ireturn hX dX10_out_14 (zend_i h4_)
def gX10_premiumOf_L25 (x1 : Int32) (x2 : Int32) (rc25 : (Int32 × zM) → Option (Int32 × zM)) (s : (Int32 × zM)) : Option (Int32 × zM) :=
  (if 200 < s.1 then some ((-2), s.2)
  else zcIM (gX10_dares 0 x1 x2 s.1 s.2) (fun v4_ M5_ => (if v4_ = 0 then rc25 ((s.1 + 1), M5_)
  else some (s.1, M5_))))
set_option maxRecDepth 100000 in
set_option maxHeartbeats 2000000 in
theorem aX10_premiumOf_L25 {G : zG} {X : zX} {x1 : Int32} {x2 : Int32} (hX : zC G X cX10_premiumOf 4 RX10 (some .int) 5)    {res : (Int32 × zM)}  : ∀ (N : Nat) (s : (Int32 × zM)), zfix N (gX10_premiumOf_L25 x1 x2) s = some res → Z G X (zQi res) 25 [some (.ref 98), some (.int x1), some (.int x2), some (.int s.1)] [] s.2 := by
  intro N
  induction N with
  | zero => intro s h; cases h
  | succ N hrc25 =>
    intro s h
    replace h : gX10_premiumOf_L25 x1 x2 (zfix N (gX10_premiumOf_L25 x1 x2)) s = some res := h
    unfold gX10_premiumOf_L25 at h
    refine z_iload_n hX dX10_premiumOf_25 rfl 26 rfl ?_
    refine z_sipush hX dX10_premiumOf_26 qs_200 29 rfl ?_
    refine z_icmp_gt hX dX10_premiumOf_29 51 32 (by decide) rfl (fun hc => ?_) (fun hc => ?_)
    · rw [if_pos hc] at h
      refine z_bipush hX dX10_premiumOf_51 qb_m2 53 rfl ?_
      exact z_ireturn hX dX10_premiumOf_53 (zend_i h)
    · rw [if_neg hc] at h
      refine z_aload_n hX dX10_premiumOf_32 rfl 33 rfl ?_
      refine z_iconst hX dX10_premiumOf_33 qi_0 34 rfl ?_
      refine z_iload_n hX dX10_premiumOf_34 rfl 35 rfl ?_
      refine z_iload_n hX dX10_premiumOf_35 rfl 36 rfl ?_
      refine z_iload_n hX dX10_premiumOf_36 rfl 37 rfl ?_
      obtain ⟨v4_, M5_, hq, h6_⟩ := zcIM_of h
      refine z_callV hX vX10_dares lX10_363 dX10_premiumOf_37 zs_98 rfl (mX10_dares  hq) (by decide) rfl rfl (Nat.le_of_ble_eq_true rfl) 40 rfl (Qi.to (fun v' M' hv => ?_))
      cases hv
      refine z_if_eq hX dX10_premiumOf_40 45 43 (by decide) rfl (fun hc => ?_) (fun hc => ?_)
      · rw [if_pos hc] at h6_
        refine z_iinc (v := (s.1 + 1)) hX dX10_premiumOf_45 rfl (by rfl) (by decide) 48 rfl ?_
        refine z_goto hX dX10_premiumOf_48 25 (by decide) ?_
        refine z_mask [true, true, true, true] ?_
        have hz := hrc25 _ h6_
        exact hz
      · rw [if_neg hc] at h6_
        refine z_iload_n hX dX10_premiumOf_43 rfl 44 rfl ?_
        exact z_ireturn hX dX10_premiumOf_44 (zend_i h6_)
def gX10_premiumOf (x1 : Int32) (M : zM) : Option (Int32 × zM) :=
  zcI (gX10_firstLeft 0 M) (fun v1_ => (if v1_ = (-1) then some ((-2), M)
  else zg (zok x1 138) ((if (M.1 125 (x1 : Int32).toNatClampNeg) = 0 then zfix zFu (gX10_premiumOf_L25 x1 v1_) (0, M)
  else some ((-2), M)))))
set_option maxRecDepth 100000 in
set_option maxHeartbeats 2000000 in
theorem mX10_premiumOf {G : zG} {x1 : Int32} {M : zM}  {res : (Int32 × zM)} (h : gX10_premiumOf x1 M = some res) : Ct G 5 tX10_premiumOf [.ref 98, .int x1] M (zQi res) := by
  unfold gX10_premiumOf at h
  refine Ct.of (y := yX10_premiumOf) rfl plX10 (Nat.le_of_ble_eq_true rfl) (fun X hX => ?_)
  replace hX : zC G X cX10_premiumOf 4 RX10 (some .int) 5 := hX
  show Z G X _ 0 [some (.ref 98), some (.int x1), none, none] [] M
  refine z_aload_n hX dX10_premiumOf_0 rfl 1 rfl ?_
  refine z_iconst hX dX10_premiumOf_1 qi_0 2 rfl ?_
  obtain ⟨v1_, hq, h2_⟩ := zcI_of h
  refine z_callV hX vX10_firstLeft lX10_357 dX10_premiumOf_2 zs_98 rfl (mX10_firstLeft  hq) (by decide) rfl rfl (Nat.le_of_ble_eq_true rfl) 5 rfl (Qi.to (fun v' M' hv => ?_))
  obtain ⟨rfl, rfl⟩ := hv
  refine z_istore_n hX dX10_premiumOf_5 (by decide) 6 rfl ?_
  refine z_iload_n hX dX10_premiumOf_6 rfl 7 rfl ?_
  refine z_iconst hX dX10_premiumOf_7 qi_m1 8 rfl ?_
  refine z_icmp_eq hX dX10_premiumOf_8 20 11 (by decide) rfl (fun hc => ?_) (fun hc => ?_)
  · rw [if_pos hc] at h2_
    refine z_bipush hX dX10_premiumOf_20 qb_m2 22 rfl ?_
    exact z_ireturn hX dX10_premiumOf_22 (zend_i h2_)
  · rw [if_neg hc] at h2_
    refine z_aload_n hX dX10_premiumOf_11 rfl 12 rfl ?_
    refine z_getF hX fX10_93 dX10_premiumOf_12 zs_98 (by decide) rfl 15 rfl ?_
    refine z_iload_n hX dX10_premiumOf_15 rfl 16 rfl ?_
    obtain ⟨hb, h3_⟩ := zgd h2_
    refine z_iald hX dX10_premiumOf_16 zs_125 (zok_in hb) 17 rfl ?_
    refine z_if_eq hX dX10_premiumOf_17 23 20 (by decide) rfl (fun hc => ?_) (fun hc => ?_)
    · rw [if_pos hc] at h3_
      refine z_iconst hX dX10_premiumOf_23 qi_0 24 rfl ?_
      refine z_istore_n hX dX10_premiumOf_24 (by decide) 25 rfl ?_
      refine z_mask [true, true, true, true] ?_
      have hz := aX10_premiumOf_L25 hX _ _ h3_
      exact hz
    · rw [if_neg hc] at h3_
      refine z_bipush hX dX10_premiumOf_20 qb_m2 22 rfl ?_
      exact z_ireturn hX dX10_premiumOf_22 (zend_i h3_)
