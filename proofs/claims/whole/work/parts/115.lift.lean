def gX10_comesBack_L36 (x1 : Int32) (x2 : Int32) (M : zM) (rc36 : (Int64 × Int64 × Int32) → Option (Int64 × zM)) (s : (Int64 × Int64 × Int32)) : Option (Int64 × zM) :=
  (if x1 ≤ s.2.2 then zcL (gX10_common s.1 s.2.1 M) (fun v3_ => (if x2 = 0 then zg (znzL v3_) (some ((s.1 / v3_), M))
  else zg (znzL v3_) (some ((s.2.1 / v3_), M))))
  else zlet ((s.1 * (100 - ((M.1 100 (6 : Int32).toNatClampNeg) : Int32).toInt64))) (fun z7_ => rc36 (z7_, (s.2.1 * 100), (s.2.2 + 1))))
set_option maxRecDepth 100000 in
set_option maxHeartbeats 2000000 in
theorem aX10_comesBack_L36 {G : zG} {X : zX} {x1 : Int32} {x2 : Int32} (hX : zC G X cX10_comesBack 9 RX10 (some .long) 2)   {M : zM} {res : (Int64 × zM)}  : ∀ (N : Nat) (s : (Int64 × Int64 × Int32)), zfix N (gX10_comesBack_L36 x1 x2 M) s = some res → Z G X (zQl res) 36 [some (.ref 98), some (.int x1), some (.int x2), some (.long s.1), none, some (.long s.2.1), none, some (.int s.2.2), none] [] M := by
  intro N
  induction N with
  | zero => intro s h; cases h
  | succ N hrc36 =>
    intro s h
    replace h : gX10_comesBack_L36 x1 x2 M (zfix N (gX10_comesBack_L36 x1 x2 M)) s = some res := h
    unfold gX10_comesBack_L36 at h
    refine z_iload hX dX10_comesBack_36 rfl 38 rfl ?_
    refine z_iload_n hX dX10_comesBack_38 rfl 39 rfl ?_
    refine z_icmp_ge hX dX10_comesBack_39 71 42 (by decide) rfl (fun hc => ?_) (fun hc => ?_)
    · rw [if_pos hc] at h
      refine z_lload_n hX dX10_comesBack_71 rfl 72 rfl ?_
      refine z_lload hX dX10_comesBack_72 rfl 74 rfl ?_
      obtain ⟨v3_, hq, h4_⟩ := zcL_of h
      refine z_callS hX vX10_common rfl lX10_478 dX10_comesBack_74 (mX10_common  hq) (by decide) rfl rfl (Nat.le_of_ble_eq_true rfl) 77 rfl (Ql.to (fun v' M' hv => ?_))
      obtain ⟨rfl, rfl⟩ := hv
      refine z_lstore hX dX10_comesBack_77 (by decide) 79 rfl ?_
      refine z_iload_n hX dX10_comesBack_79 rfl 80 rfl ?_
      refine z_if_ne hX dX10_comesBack_80 90 83 (by decide) rfl (fun hc => ?_) (fun hc => ?_)
      · rw [if_neg hc] at h4_
        refine z_lload hX dX10_comesBack_90 rfl 92 rfl ?_
        refine z_lload hX dX10_comesBack_92 rfl 94 rfl ?_
        obtain ⟨hb, h5_⟩ := zgd h4_
        refine z_ldiv hX dX10_comesBack_94 (znzL_ne hb) 95 rfl ?_
        exact z_lreturn hX dX10_comesBack_95 (zend_l h5_)
      · rw [if_pos hc] at h4_
        refine z_lload_n hX dX10_comesBack_83 rfl 84 rfl ?_
        refine z_lload hX dX10_comesBack_84 rfl 86 rfl ?_
        obtain ⟨hb, h6_⟩ := zgd h4_
        refine z_ldiv hX dX10_comesBack_86 (znzL_ne hb) 87 rfl ?_
        refine z_goto hX dX10_comesBack_87 95 (by decide) ?_
        exact z_lreturn hX dX10_comesBack_95 (zend_l h6_)
    · rw [if_neg hc] at h
      refine z_lload_n hX dX10_comesBack_42 rfl 43 rfl ?_
      refine z_ldc2 hX dX10_comesBack_43 kX10_476 46 rfl ?_
      refine z_aload_n hX dX10_comesBack_46 rfl 47 rfl ?_
      refine z_getF hX fX10_13 dX10_comesBack_47 zs_98 (by decide) rfl 50 rfl ?_
      refine z_bipush hX dX10_comesBack_50 qb_6 52 rfl ?_
      refine z_iald hX dX10_comesBack_52 zs_100 (zok_in (by decide)) 53 rfl ?_
      refine z_i2l hX dX10_comesBack_53 54 rfl ?_
      refine z_lsub hX dX10_comesBack_54 55 rfl ?_
      refine z_lmul hX dX10_comesBack_55 56 rfl ?_
      refine z_topl h (fun z7_ h8_ => ?_)
      refine z_lstore_n hX dX10_comesBack_56 (by decide) 57 rfl ?_
      refine z_lload hX dX10_comesBack_57 rfl 59 rfl ?_
      refine z_ldc2 hX dX10_comesBack_59 kX10_476 62 rfl ?_
      refine z_lmul hX dX10_comesBack_62 63 rfl ?_
      refine z_lstore hX dX10_comesBack_63 (by decide) 65 rfl ?_
      refine z_iinc (v := (s.2.2 + 1)) hX dX10_comesBack_65 rfl (by rfl) (by decide) 68 rfl ?_
      refine z_goto hX dX10_comesBack_68 36 (by decide) ?_
      refine z_mask [true, true, true, true, false, true, false, true, false] ?_
      have hz := hrc36 _ h8_
      exact hz
def gX10_comesBack (x1 : Int32) (x2 : Int32) (M : zM) : Option (Int64 × zM) :=
  zlet (zI M 98 0 0) (fun M1_ => (if x1 < 0 then some ((-1), M1_)
  else (if 6 < x1 then some ((-1), M1_)
  else (if x2 < 0 then some ((-1), M1_)
  else (if x2 ≤ 1 then zfix zFu (gX10_comesBack_L36 x1 x2 M1_) (1, 1, 0)
  else some ((-1), M1_))))))
set_option maxRecDepth 100000 in
set_option maxHeartbeats 2000000 in
theorem mX10_comesBack {G : zG} {x1 : Int32} {x2 : Int32} {M : zM}  {res : (Int64 × zM)} (h : gX10_comesBack x1 x2 M = some res) : Ct G 2 tX10_comesBack [.ref 98, .int x1, .int x2] M (zQl res) := by
  unfold gX10_comesBack at h
  refine Ct.of (y := yX10_comesBack) rfl plX10 (Nat.le_of_ble_eq_true rfl) (fun X hX => ?_)
  replace hX : zC G X cX10_comesBack 9 RX10 (some .long) 2 := hX
  show Z G X _ 0 [some (.ref 98), some (.int x1), some (.int x2), none, none, none, none, none, none] [] M
  refine z_aload_n hX dX10_comesBack_0 rfl 1 rfl ?_
  refine z_iconst hX dX10_comesBack_1 qi_0 2 rfl ?_
  refine z_putI hX pX10_154 dX10_comesBack_2 zs_98 (by decide) rfl 5 rfl ?_
  refine z_mem h (fun M1_ h2_ => ?_)
  refine z_iload_n hX dX10_comesBack_5 rfl 6 rfl ?_
  refine z_if_lt hX dX10_comesBack_6 24 9 (by decide) rfl (fun hc => ?_) (fun hc => ?_)
  · rw [if_pos hc] at h2_
    refine z_ldc2 hX dX10_comesBack_24 kX10_474 27 rfl ?_
    exact z_lreturn hX dX10_comesBack_27 (zend_l h2_)
  · rw [if_neg hc] at h2_
    refine z_iload_n hX dX10_comesBack_9 rfl 10 rfl ?_
    refine z_bipush hX dX10_comesBack_10 qb_6 12 rfl ?_
    refine z_icmp_gt hX dX10_comesBack_12 24 15 (by decide) rfl (fun hc => ?_) (fun hc => ?_)
    · rw [if_pos hc] at h2_
      refine z_ldc2 hX dX10_comesBack_24 kX10_474 27 rfl ?_
      exact z_lreturn hX dX10_comesBack_27 (zend_l h2_)
    · rw [if_neg hc] at h2_
      refine z_iload_n hX dX10_comesBack_15 rfl 16 rfl ?_
      refine z_if_lt hX dX10_comesBack_16 24 19 (by decide) rfl (fun hc => ?_) (fun hc => ?_)
      · rw [if_pos hc] at h2_
        refine z_ldc2 hX dX10_comesBack_24 kX10_474 27 rfl ?_
        exact z_lreturn hX dX10_comesBack_27 (zend_l h2_)
      · rw [if_neg hc] at h2_
        refine z_iload_n hX dX10_comesBack_19 rfl 20 rfl ?_
        refine z_iconst hX dX10_comesBack_20 qi_1 21 rfl ?_
        refine z_icmp_le hX dX10_comesBack_21 28 24 (by decide) rfl (fun hc => ?_) (fun hc => ?_)
        · rw [if_pos hc] at h2_
          refine z_lconst hX dX10_comesBack_28 ql_1 29 rfl ?_
          refine z_lstore_n hX dX10_comesBack_29 (by decide) 30 rfl ?_
          refine z_lconst hX dX10_comesBack_30 ql_1 31 rfl ?_
          refine z_lstore hX dX10_comesBack_31 (by decide) 33 rfl ?_
          refine z_iconst hX dX10_comesBack_33 qi_0 34 rfl ?_
          refine z_istore hX dX10_comesBack_34 (by decide) 36 rfl ?_
          refine z_mask [true, true, true, true, false, true, false, true, false] ?_
          have hz := aX10_comesBack_L36 hX _ _ h2_
          exact hz
        · rw [if_neg hc] at h2_
          refine z_ldc2 hX dX10_comesBack_24 kX10_474 27 rfl ?_
          exact z_lreturn hX dX10_comesBack_27 (zend_l h2_)
def gX10_widow_L38 (x2 : Int32) (M : zM) (rc38 : (Int32 × Int32 × Int32) → Option (Int32 × zM)) (s : (Int32 × Int32 × Int32)) : Option (Int32 × zM) :=
  (if x2 ≤ s.2.2 then some (s.1, M)
  else rc38 ((s.1 + s.2.1), ((s.2.1 * 9) / 10), (s.2.2 + 1)))
set_option maxRecDepth 100000 in
set_option maxHeartbeats 2000000 in
theorem aX10_widow_L38 {G : zG} {X : zX} {x2 : Int32} (hX : zC G X cX10_widow 6 RX10 (some .int) 2)   {M : zM} {res : (Int32 × zM)}  : ∀ (N : Nat) (s : (Int32 × Int32 × Int32)), zfix N (gX10_widow_L38 x2 M) s = some res → Z G X (zQi res) 38 [none, none, some (.int x2), some (.int s.1), some (.int s.2.1), some (.int s.2.2)] [] M := by
  intro N
  induction N with
  | zero => intro s h; cases h
  | succ N hrc38 =>
    intro s h
    replace h : gX10_widow_L38 x2 M (zfix N (gX10_widow_L38 x2 M)) s = some res := h
    unfold gX10_widow_L38 at h
    refine z_iload hX dX10_widow_38 rfl 40 rfl ?_
    refine z_iload_n hX dX10_widow_40 rfl 41 rfl ?_
    refine z_icmp_ge hX dX10_widow_41 65 44 (by decide) rfl (fun hc => ?_) (fun hc => ?_)
    · rw [if_pos hc] at h
      refine z_iload_n hX dX10_widow_65 rfl 66 rfl ?_
      exact z_ireturn hX dX10_widow_66 (zend_i h)
    · rw [if_neg hc] at h
      refine z_iload_n hX dX10_widow_44 rfl 45 rfl ?_
      refine z_iload hX dX10_widow_45 rfl 47 rfl ?_
      refine z_iadd hX dX10_widow_47 48 rfl ?_
      refine z_istore_n hX dX10_widow_48 (by decide) 49 rfl ?_
      refine z_iload hX dX10_widow_49 rfl 51 rfl ?_
      refine z_bipush hX dX10_widow_51 qb_9 53 rfl ?_
      refine z_imul hX dX10_widow_53 54 rfl ?_
      refine z_bipush hX dX10_widow_54 qb_10 56 rfl ?_
      refine z_idiv hX dX10_widow_56 (by decide) 57 rfl ?_
      refine z_istore hX dX10_widow_57 (by decide) 59 rfl ?_
      refine z_iinc (v := (s.2.2 + 1)) hX dX10_widow_59 rfl (by rfl) (by decide) 62 rfl ?_
      refine z_goto hX dX10_widow_62 38 (by decide) ?_
      refine z_mask [false, false, true, true, true, true] ?_
      have hz := hrc38 _ h
      exact hz
def gX10_widow (x1 : Int32) (x2 : Int32) (M : zM) : Option (Int32 × zM) :=
  zlet (zI M 98 0 0) (fun M1_ => zcI (gX10_isMan x1 M1_) (fun v3_ => (if v3_ = 0 then some ((-1), M1_)
  else (if x2 < 0 then some ((-1), M1_)
  else (if x2 ≤ 99 then zg (zok x1 138) (zlet ((M1_.1 123 (x1 : Int32).toNatClampNeg)) (fun x6_ => zfix zFu (gX10_widow_L38 x2 M1_) (0, x6_, 0)))
  else some ((-1), M1_))))))
set_option maxRecDepth 100000 in
set_option maxHeartbeats 2000000 in
theorem mX10_widow {G : zG} {x1 : Int32} {x2 : Int32} {M : zM}  {res : (Int32 × zM)} (h : gX10_widow x1 x2 M = some res) : Ct G 2 tX10_widow [.ref 98, .int x1, .int x2] M (zQi res) := by
  unfold gX10_widow at h
  refine Ct.of (y := yX10_widow) rfl plX10 (Nat.le_of_ble_eq_true rfl) (fun X hX => ?_)
  replace hX : zC G X cX10_widow 6 RX10 (some .int) 2 := hX
  show Z G X _ 0 [some (.ref 98), some (.int x1), some (.int x2), none, none, none] [] M
  refine z_aload_n hX dX10_widow_0 rfl 1 rfl ?_
  refine z_iconst hX dX10_widow_1 qi_0 2 rfl ?_
  refine z_putI hX pX10_154 dX10_widow_2 zs_98 (by decide) rfl 5 rfl ?_
  refine z_mem h (fun M1_ h2_ => ?_)
  refine z_aload_n hX dX10_widow_5 rfl 6 rfl ?_
  refine z_iload_n hX dX10_widow_6 rfl 7 rfl ?_
  obtain ⟨v3_, hq, h4_⟩ := zcI_of h2_
  refine z_callV hX vX10_isMan lX10_413 dX10_widow_7 zs_98 rfl (mX10_isMan  hq) (by decide) rfl rfl (Nat.le_of_ble_eq_true rfl) 10 rfl (Qi.to (fun v' M' hv => ?_))
  obtain ⟨rfl, rfl⟩ := hv
  refine z_if_eq hX dX10_widow_10 23 13 (by decide) rfl (fun hc => ?_) (fun hc => ?_)
  · rw [if_pos hc] at h4_
    refine z_iconst hX dX10_widow_23 qi_m1 24 rfl ?_
    exact z_ireturn hX dX10_widow_24 (zend_i h4_)
  · rw [if_neg hc] at h4_
    refine z_iload_n hX dX10_widow_13 rfl 14 rfl ?_
    refine z_if_lt hX dX10_widow_14 23 17 (by decide) rfl (fun hc => ?_) (fun hc => ?_)
    · rw [if_pos hc] at h4_
      refine z_iconst hX dX10_widow_23 qi_m1 24 rfl ?_
      exact z_ireturn hX dX10_widow_24 (zend_i h4_)
    · rw [if_neg hc] at h4_
      refine z_iload_n hX dX10_widow_17 rfl 18 rfl ?_
      refine z_bipush hX dX10_widow_18 qb_99 20 rfl ?_
      refine z_icmp_le hX dX10_widow_20 25 23 (by decide) rfl (fun hc => ?_) (fun hc => ?_)
      · rw [if_pos hc] at h4_
        refine z_iconst hX dX10_widow_25 qi_0 26 rfl ?_
        refine z_istore_n hX dX10_widow_26 (by decide) 27 rfl ?_
        refine z_aload_n hX dX10_widow_27 rfl 28 rfl ?_
        refine z_getF hX fX10_87 dX10_widow_28 zs_98 (by decide) rfl 31 rfl ?_
        refine z_iload_n hX dX10_widow_31 rfl 32 rfl ?_
        obtain ⟨hb, h5_⟩ := zgd h4_
        refine z_iald hX dX10_widow_32 zs_123 (zok_in hb) 33 rfl ?_
        refine z_topi h5_ (fun x6_ h7_ => ?_)
        refine z_istore hX dX10_widow_33 (by decide) 35 rfl ?_
        refine z_iconst hX dX10_widow_35 qi_0 36 rfl ?_
        refine z_istore hX dX10_widow_36 (by decide) 38 rfl ?_
        refine z_mask [false, false, true, true, true, true] ?_
        have hz := aX10_widow_L38 hX _ _ h7_
        exact hz
      · rw [if_neg hc] at h4_
        refine z_iconst hX dX10_widow_23 qi_m1 24 rfl ?_
        exact z_ireturn hX dX10_widow_24 (zend_i h4_)
def gX10_next_L19 (x1 : Int32) (M : zM) (rc19 : (Int32 × Int32) → Option (Int32 × zM)) (s : (Int32 × Int32)) : Option (Int32 × zM) :=
  (if (M.1 100 (0 : Int32).toNatClampNeg) ≤ s.2 then zcI (gX10_orNone s.1 M) (fun v5_ => some (v5_, M))
  else zg (zok s.2 138) (zlet ((M.1 129 (s.2 : Int32).toNatClampNeg)) (fun x8_ => zg (zok x8_ 138) ((if (M.1 125 (x8_ : Int32).toNatClampNeg) = 0 then zg (zok x8_ 138) ((if (M.1 128 (x8_ : Int32).toNatClampNeg) = 1 then rc19 (s.1, (s.2 + 1))
  else zg (zok x8_ 12) (zg (zok x1 16) ((if (M.1 107 (x1 : Int32).toNatClampNeg) ≤ (M.1 104 (x8_ : Int32).toNatClampNeg) then (if s.1 = (-1) then rc19 (x8_, (s.2 + 1))
  else zg (zok x8_ 12) (zg (zok s.1 12) ((if (M.1 104 (x8_ : Int32).toNatClampNeg) ≤ (M.1 104 (s.1 : Int32).toNatClampNeg) then rc19 (s.1, (s.2 + 1))
  else rc19 (x8_, (s.2 + 1))))))
  else rc19 (s.1, (s.2 + 1)))))))
  else rc19 (s.1, (s.2 + 1)))))))
set_option maxRecDepth 100000 in
set_option maxHeartbeats 2000000 in
theorem aX10_next_L19 {G : zG} {X : zX} {x1 : Int32} (hX : zC G X cX10_next 5 RX10 (some .int) 2)   {M : zM} {res : (Int32 × zM)}  : ∀ (N : Nat) (s : (Int32 × Int32)), zfix N (gX10_next_L19 x1 M) s = some res → Z G X (zQi res) 19 [some (.ref 98), some (.int x1), some (.int s.1), some (.int s.2), none] [] M := by
  intro N
  induction N with
  | zero => intro s h; cases h
  | succ N hrc19 =>
    intro s h
    replace h : gX10_next_L19 x1 M (zfix N (gX10_next_L19 x1 M)) s = some res := h
    unfold gX10_next_L19 at h
    refine z_iload_n hX dX10_next_19 rfl 20 rfl ?_
    refine z_aload_n hX dX10_next_20 rfl 21 rfl ?_
    refine z_getF hX fX10_13 dX10_next_21 zs_98 (by decide) rfl 24 rfl ?_
    refine z_iconst hX dX10_next_24 qi_0 25 rfl ?_
    refine z_iald hX dX10_next_25 zs_100 (zok_in (by decide)) 26 rfl ?_
    refine z_icmp_ge hX dX10_next_26 107 29 (by decide) rfl (fun hc => ?_) (fun hc => ?_)
    · rw [if_pos hc] at h
      refine z_iload_n hX dX10_next_107 rfl 108 rfl ?_
      obtain ⟨v5_, hq, h6_⟩ := zcI_of h
      refine z_callS hX vX10_orNone rfl lX10_416 dX10_next_108 (mX10_orNone  hq) (by decide) rfl rfl (Nat.le_of_ble_eq_true rfl) 111 rfl (Qi.to (fun v' M' hv => ?_))
      obtain ⟨rfl, rfl⟩ := hv
      exact z_ireturn hX dX10_next_111 (zend_i h6_)
    · rw [if_neg hc] at h
      refine z_aload_n hX dX10_next_29 rfl 30 rfl ?_
      refine z_getF hX fX10_105 dX10_next_30 zs_98 (by decide) rfl 33 rfl ?_
      refine z_iload_n hX dX10_next_33 rfl 34 rfl ?_
      obtain ⟨hb, h7_⟩ := zgd h
      refine z_iald hX dX10_next_34 zs_129 (zok_in hb) 35 rfl ?_
      refine z_topi h7_ (fun x8_ h9_ => ?_)
      refine z_istore hX dX10_next_35 (by decide) 37 rfl ?_
      refine z_aload_n hX dX10_next_37 rfl 38 rfl ?_
      refine z_getF hX fX10_93 dX10_next_38 zs_98 (by decide) rfl 41 rfl ?_
      refine z_iload hX dX10_next_41 rfl 43 rfl ?_
      obtain ⟨hb, h10_⟩ := zgd h9_
      refine z_iald hX dX10_next_43 zs_125 (zok_in hb) 44 rfl ?_
      refine z_if_ne hX dX10_next_44 101 47 (by decide) rfl (fun hc => ?_) (fun hc => ?_)
      · rw [if_neg hc] at h10_
        refine z_iinc (v := (s.2 + 1)) hX dX10_next_101 rfl (by rfl) (by decide) 104 rfl ?_
        refine z_goto hX dX10_next_104 19 (by decide) ?_
        refine z_mask [true, true, true, true, false] ?_
        have hz := hrc19 _ h10_
        exact hz
      · rw [if_pos hc] at h10_
        refine z_aload_n hX dX10_next_47 rfl 48 rfl ?_
        refine z_getF hX fX10_102 dX10_next_48 zs_98 (by decide) rfl 51 rfl ?_
        refine z_iload hX dX10_next_51 rfl 53 rfl ?_
        obtain ⟨hb, h11_⟩ := zgd h10_
        refine z_iald hX dX10_next_53 zs_128 (zok_in hb) 54 rfl ?_
        refine z_iconst hX dX10_next_54 qi_1 55 rfl ?_
        refine z_icmp_eq hX dX10_next_55 101 58 (by decide) rfl (fun hc => ?_) (fun hc => ?_)
        · rw [if_pos hc] at h11_
          refine z_iinc (v := (s.2 + 1)) hX dX10_next_101 rfl (by rfl) (by decide) 104 rfl ?_
          refine z_goto hX dX10_next_104 19 (by decide) ?_
          refine z_mask [true, true, true, true, false] ?_
          have hz := hrc19 _ h11_
          exact hz
        · rw [if_neg hc] at h11_
          refine z_aload_n hX dX10_next_58 rfl 59 rfl ?_
          refine z_getF hX fX10_25 dX10_next_59 zs_98 (by decide) rfl 62 rfl ?_
          refine z_iload hX dX10_next_62 rfl 64 rfl ?_
          obtain ⟨hb, h12_⟩ := zgd h11_
          refine z_iald hX dX10_next_64 zs_104 (zok_in hb) 65 rfl ?_
          refine z_aload_n hX dX10_next_65 rfl 66 rfl ?_
          refine z_getF hX fX10_34 dX10_next_66 zs_98 (by decide) rfl 69 rfl ?_
          refine z_iload_n hX dX10_next_69 rfl 70 rfl ?_
          obtain ⟨hb, h13_⟩ := zgd h12_
          refine z_iald hX dX10_next_70 zs_107 (zok_in hb) 71 rfl ?_
          refine z_icmp_ge hX dX10_next_71 77 74 (by decide) rfl (fun hc => ?_) (fun hc => ?_)
          · rw [if_pos hc] at h13_
            refine z_iload_n hX dX10_next_77 rfl 78 rfl ?_
            refine z_iconst hX dX10_next_78 qi_m1 79 rfl ?_
            refine z_icmp_eq hX dX10_next_79 98 82 (by decide) rfl (fun hc => ?_) (fun hc => ?_)
            · rw [if_pos hc] at h13_
              refine z_iload hX dX10_next_98 rfl 100 rfl ?_
              refine z_istore_n hX dX10_next_100 (by decide) 101 rfl ?_
              refine z_iinc (v := (s.2 + 1)) hX dX10_next_101 rfl (by rfl) (by decide) 104 rfl ?_
              refine z_goto hX dX10_next_104 19 (by decide) ?_
              refine z_mask [true, true, true, true, false] ?_
              have hz := hrc19 _ h13_
              exact hz
            · rw [if_neg hc] at h13_
              refine z_aload_n hX dX10_next_82 rfl 83 rfl ?_
              refine z_getF hX fX10_25 dX10_next_83 zs_98 (by decide) rfl 86 rfl ?_
              refine z_iload hX dX10_next_86 rfl 88 rfl ?_
              obtain ⟨hb, h14_⟩ := zgd h13_
              refine z_iald hX dX10_next_88 zs_104 (zok_in hb) 89 rfl ?_
              refine z_aload_n hX dX10_next_89 rfl 90 rfl ?_
              refine z_getF hX fX10_25 dX10_next_90 zs_98 (by decide) rfl 93 rfl ?_
              refine z_iload_n hX dX10_next_93 rfl 94 rfl ?_
              obtain ⟨hb, h15_⟩ := zgd h14_
              refine z_iald hX dX10_next_94 zs_104 (zok_in hb) 95 rfl ?_
              refine z_icmp_le hX dX10_next_95 101 98 (by decide) rfl (fun hc => ?_) (fun hc => ?_)
              · rw [if_pos hc] at h15_
                refine z_iinc (v := (s.2 + 1)) hX dX10_next_101 rfl (by rfl) (by decide) 104 rfl ?_
                refine z_goto hX dX10_next_104 19 (by decide) ?_
                refine z_mask [true, true, true, true, false] ?_
                have hz := hrc19 _ h15_
                exact hz
              · rw [if_neg hc] at h15_
                refine z_iload hX dX10_next_98 rfl 100 rfl ?_
                refine z_istore_n hX dX10_next_100 (by decide) 101 rfl ?_
                refine z_iinc (v := (s.2 + 1)) hX dX10_next_101 rfl (by rfl) (by decide) 104 rfl ?_
                refine z_goto hX dX10_next_104 19 (by decide) ?_
                refine z_mask [true, true, true, true, false] ?_
                have hz := hrc19 _ h15_
                exact hz
          · rw [if_neg hc] at h13_
            refine z_goto hX dX10_next_74 101 (by decide) ?_
            refine z_iinc (v := (s.2 + 1)) hX dX10_next_101 rfl (by rfl) (by decide) 104 rfl ?_
            refine z_goto hX dX10_next_104 19 (by decide) ?_
            refine z_mask [true, true, true, true, false] ?_
            have hz := hrc19 _ h13_
            exact hz
def gX10_next (x1 : Int32) (M : zM) : Option (Int32 × zM) :=
  zlet (zI M 98 0 0) (fun M1_ => zcI (gX10_isThing x1 M1_) (fun v3_ => (if v3_ = 0 then some ((-1), M1_)
  else zfix zFu (gX10_next_L19 x1 M1_) ((-1), 0))))
set_option maxRecDepth 100000 in
set_option maxHeartbeats 2000000 in
theorem mX10_next {G : zG} {x1 : Int32} {M : zM}  {res : (Int32 × zM)} (h : gX10_next x1 M = some res) : Ct G 2 tX10_next [.ref 98, .int x1] M (zQi res) := by
  unfold gX10_next at h
  refine Ct.of (y := yX10_next) rfl plX10 (Nat.le_of_ble_eq_true rfl) (fun X hX => ?_)
  replace hX : zC G X cX10_next 5 RX10 (some .int) 2 := hX
  show Z G X _ 0 [some (.ref 98), some (.int x1), none, none, none] [] M
  refine z_aload_n hX dX10_next_0 rfl 1 rfl ?_
  refine z_iconst hX dX10_next_1 qi_0 2 rfl ?_
  refine z_putI hX pX10_154 dX10_next_2 zs_98 (by decide) rfl 5 rfl ?_
  refine z_mem h (fun M1_ h2_ => ?_)
  refine z_aload_n hX dX10_next_5 rfl 6 rfl ?_
  refine z_iload_n hX dX10_next_6 rfl 7 rfl ?_
  obtain ⟨v3_, hq, h4_⟩ := zcI_of h2_
  refine z_callV hX vX10_isThing lX10_422 dX10_next_7 zs_98 rfl (mX10_isThing  hq) (by decide) rfl rfl (Nat.le_of_ble_eq_true rfl) 10 rfl (Qi.to (fun v' M' hv => ?_))
  obtain ⟨rfl, rfl⟩ := hv
  refine z_if_ne hX dX10_next_10 15 13 (by decide) rfl (fun hc => ?_) (fun hc => ?_)
  · rw [if_neg hc] at h4_
    refine z_iconst hX dX10_next_15 qi_m1 16 rfl ?_
    refine z_istore_n hX dX10_next_16 (by decide) 17 rfl ?_
    refine z_iconst hX dX10_next_17 qi_0 18 rfl ?_
    refine z_istore_n hX dX10_next_18 (by decide) 19 rfl ?_
    refine z_mask [true, true, true, true, false] ?_
    have hz := aX10_next_L19 hX _ _ h4_
    exact hz
  · rw [if_pos hc] at h4_
    refine z_iconst hX dX10_next_13 qi_m1 14 rfl ?_
    exact z_ireturn hX dX10_next_14 (zend_i h4_)
def gX10_see (x1 : Int32) (x2 : Int32) (x3 : Int32) (M : zM) : Option (Int32 × zM) :=
  zlet (zI M 98 0 0) (fun M1_ => (if x1 < 1 then some ((-1), M1_)
  else (if 60 < x1 then some ((-1), M1_)
  else zcI (gX10_isThing x2 M1_) (fun v3_ => (if v3_ = 0 then some ((-1), M1_)
  else (if (M1_.1 98 61) = 24 then some ((-1), M1_)
  else zg (zok (M1_.1 98 61) 24) (zlet (zI M1_ 137 ((M1_.1 98 61) : Int32).toNatClampNeg x1) (fun M6_ => zg (zok (M6_.1 98 61) 24) (zlet (zI M6_ 138 ((M6_.1 98 61) : Int32).toNatClampNeg x2) (fun M9_ => zg (zok (M9_.1 98 61) 24) (zlet (zI M9_ 139 ((M9_.1 98 61) : Int32).toNatClampNeg (vp_nar .boolean x3)) (fun M12_ => zg (zok (M12_.1 98 61) 24) (zlet (zI M12_ 140 ((M12_.1 98 61) : Int32).toNatClampNeg (-1)) (fun M15_ => zlet (zI M15_ 98 61 ((M15_.1 98 61) + 1)) (fun M17_ => some (((M17_.1 98 61) - 1), M17_))))))))))))))))
set_option maxRecDepth 100000 in
set_option maxHeartbeats 2000000 in
theorem mX10_see {G : zG} {x1 : Int32} {x2 : Int32} {x3 : Int32} {M : zM}  {res : (Int32 × zM)} (h : gX10_see x1 x2 x3 M = some res) : Ct G 2 tX10_see [.ref 98, .int x1, .int x2, .int x3] M (zQi res) := by
  unfold gX10_see at h
  refine Ct.of (y := yX10_see) rfl plX10 (Nat.le_of_ble_eq_true rfl) (fun X hX => ?_)
  replace hX : zC G X cX10_see 4 RX10 (some .int) 2 := hX
  show Z G X _ 0 [some (.ref 98), some (.int x1), some (.int x2), some (.int x3)] [] M
  refine z_aload_n hX dX10_see_0 rfl 1 rfl ?_
  refine z_iconst hX dX10_see_1 qi_0 2 rfl ?_
  refine z_putI hX pX10_154 dX10_see_2 zs_98 (by decide) rfl 5 rfl ?_
  refine z_mem h (fun M1_ h2_ => ?_)
  refine z_iload_n hX dX10_see_5 rfl 6 rfl ?_
  refine z_iconst hX dX10_see_6 qi_1 7 rfl ?_
  refine z_icmp_lt hX dX10_see_7 33 10 (by decide) rfl (fun hc => ?_) (fun hc => ?_)
  · rw [if_pos hc] at h2_
    refine z_iconst hX dX10_see_33 qi_m1 34 rfl ?_
    exact z_ireturn hX dX10_see_34 (zend_i h2_)
  · rw [if_neg hc] at h2_
    refine z_iload_n hX dX10_see_10 rfl 11 rfl ?_
    refine z_bipush hX dX10_see_11 qb_60 13 rfl ?_
    refine z_icmp_gt hX dX10_see_13 33 16 (by decide) rfl (fun hc => ?_) (fun hc => ?_)
    · rw [if_pos hc] at h2_
      refine z_iconst hX dX10_see_33 qi_m1 34 rfl ?_
      exact z_ireturn hX dX10_see_34 (zend_i h2_)
    · rw [if_neg hc] at h2_
      refine z_aload_n hX dX10_see_16 rfl 17 rfl ?_
      refine z_iload_n hX dX10_see_17 rfl 18 rfl ?_
      obtain ⟨v3_, hq, h4_⟩ := zcI_of h2_
      refine z_callV hX vX10_isThing lX10_422 dX10_see_18 zs_98 rfl (mX10_isThing  hq) (by decide) rfl rfl (Nat.le_of_ble_eq_true rfl) 21 rfl (Qi.to (fun v' M' hv => ?_))
      obtain ⟨rfl, rfl⟩ := hv
      refine z_if_eq hX dX10_see_21 33 24 (by decide) rfl (fun hc => ?_) (fun hc => ?_)
      · rw [if_pos hc] at h4_
        refine z_iconst hX dX10_see_33 qi_m1 34 rfl ?_
        exact z_ireturn hX dX10_see_34 (zend_i h4_)
      · rw [if_neg hc] at h4_
        refine z_aload_n hX dX10_see_24 rfl 25 rfl ?_
        refine z_getI hX fX10_304 dX10_see_25 zs_98 (by decide) rfl 28 rfl ?_
        refine z_bipush hX dX10_see_28 qb_24 30 rfl ?_
        refine z_icmp_ne hX dX10_see_30 35 33 (by decide) rfl (fun hc => ?_) (fun hc => ?_)
        · rw [if_neg hc] at h4_
          refine z_aload_n hX dX10_see_35 rfl 36 rfl ?_
          refine z_getF hX fX10_135 dX10_see_36 zs_98 (by decide) rfl 39 rfl ?_
          refine z_aload_n hX dX10_see_39 rfl 40 rfl ?_
          refine z_getI hX fX10_304 dX10_see_40 zs_98 (by decide) rfl 43 rfl ?_
          refine z_iload_n hX dX10_see_43 rfl 44 rfl ?_
          obtain ⟨hb, h5_⟩ := zgd h4_
          refine z_iast hX dX10_see_44 zs_137 (zok_in hb) 45 rfl ?_
          refine z_mem h5_ (fun M6_ h7_ => ?_)
          refine z_aload_n hX dX10_see_45 rfl 46 rfl ?_
          refine z_getF hX fX10_138 dX10_see_46 zs_98 (by decide) rfl 49 rfl ?_
          refine z_aload_n hX dX10_see_49 rfl 50 rfl ?_
          refine z_getI hX fX10_304 dX10_see_50 zs_98 (by decide) rfl 53 rfl ?_
          refine z_iload_n hX dX10_see_53 rfl 54 rfl ?_
          obtain ⟨hb, h8_⟩ := zgd h7_
          refine z_iast hX dX10_see_54 zs_138 (zok_in hb) 55 rfl ?_
          refine z_mem h8_ (fun M9_ h10_ => ?_)
          refine z_aload_n hX dX10_see_55 rfl 56 rfl ?_
          refine z_getF hX fX10_141 dX10_see_56 zs_98 (by decide) rfl 59 rfl ?_
          refine z_aload_n hX dX10_see_59 rfl 60 rfl ?_
          refine z_getI hX fX10_304 dX10_see_60 zs_98 (by decide) rfl 63 rfl ?_
          refine z_iload_n hX dX10_see_63 rfl 64 rfl ?_
          obtain ⟨hb, h11_⟩ := zgd h10_
          refine z_zast hX dX10_see_64 zs_139 (zok_in hb) 65 rfl ?_
          refine z_mem h11_ (fun M12_ h13_ => ?_)
          refine z_aload_n hX dX10_see_65 rfl 66 rfl ?_
          refine z_getF hX fX10_145 dX10_see_66 zs_98 (by decide) rfl 69 rfl ?_
          refine z_aload_n hX dX10_see_69 rfl 70 rfl ?_
          refine z_getI hX fX10_304 dX10_see_70 zs_98 (by decide) rfl 73 rfl ?_
          refine z_iconst hX dX10_see_73 qi_m1 74 rfl ?_
          obtain ⟨hb, h14_⟩ := zgd h13_
          refine z_iast hX dX10_see_74 zs_140 (zok_in hb) 75 rfl ?_
          refine z_mem h14_ (fun M15_ h16_ => ?_)
          refine z_aload_n hX dX10_see_75 rfl 76 rfl ?_
          refine z_dup hX dX10_see_76 rfl 77 rfl ?_
          refine z_getI hX fX10_304 dX10_see_77 zs_98 (by decide) rfl 80 rfl ?_
          refine z_iconst hX dX10_see_80 qi_1 81 rfl ?_
          refine z_iadd hX dX10_see_81 82 rfl ?_
          refine z_putI hX pX10_304 dX10_see_82 zs_98 (by decide) rfl 85 rfl ?_
          refine z_mem h16_ (fun M17_ h18_ => ?_)
          refine z_aload_n hX dX10_see_85 rfl 86 rfl ?_
          refine z_getI hX fX10_304 dX10_see_86 zs_98 (by decide) rfl 89 rfl ?_
          refine z_iconst hX dX10_see_89 qi_1 90 rfl ?_
          refine z_isub hX dX10_see_90 91 rfl ?_
          exact z_ireturn hX dX10_see_91 (zend_i h18_)
        · rw [if_pos hc] at h4_
          refine z_iconst hX dX10_see_33 qi_m1 34 rfl ?_
          exact z_ireturn hX dX10_see_34 (zend_i h4_)
def gX10_strike (x1 : Int32) (M : zM) : Option (Int32 × zM) :=
  zlet (zI M 98 0 0) (fun M1_ => (if x1 < 0 then some ((-1), M1_)
  else (if (M1_.1 98 61) ≤ x1 then some ((-1), M1_)
  else (if (M1_.1 98 61) = 24 then some ((-1), M1_)
  else zg (zok (M1_.1 98 61) 24) (zlet (zI M1_ 140 ((M1_.1 98 61) : Int32).toNatClampNeg x1) (fun M4_ => zlet (zI M4_ 98 61 ((M4_.1 98 61) + 1)) (fun M6_ => some (((M6_.1 98 61) - 1), M6_))))))))
set_option maxRecDepth 100000 in
set_option maxHeartbeats 2000000 in
theorem mX10_strike {G : zG} {x1 : Int32} {M : zM}  {res : (Int32 × zM)} (h : gX10_strike x1 M = some res) : Ct G 1 tX10_strike [.ref 98, .int x1] M (zQi res) := by
  unfold gX10_strike at h
  refine Ct.of (y := yX10_strike) rfl plX10 (Nat.le_of_ble_eq_true rfl) (fun X hX => ?_)
  replace hX : zC G X cX10_strike 2 RX10 (some .int) 1 := hX
  show Z G X _ 0 [some (.ref 98), some (.int x1)] [] M
  refine z_aload_n hX dX10_strike_0 rfl 1 rfl ?_
  refine z_iconst hX dX10_strike_1 qi_0 2 rfl ?_
  refine z_putI hX pX10_154 dX10_strike_2 zs_98 (by decide) rfl 5 rfl ?_
  refine z_mem h (fun M1_ h2_ => ?_)
  refine z_iload_n hX dX10_strike_5 rfl 6 rfl ?_
  refine z_if_lt hX dX10_strike_6 26 9 (by decide) rfl (fun hc => ?_) (fun hc => ?_)
  · rw [if_pos hc] at h2_
    refine z_iconst hX dX10_strike_26 qi_m1 27 rfl ?_
    exact z_ireturn hX dX10_strike_27 (zend_i h2_)
  · rw [if_neg hc] at h2_
    refine z_iload_n hX dX10_strike_9 rfl 10 rfl ?_
    refine z_aload_n hX dX10_strike_10 rfl 11 rfl ?_
    refine z_getI hX fX10_304 dX10_strike_11 zs_98 (by decide) rfl 14 rfl ?_
    refine z_icmp_ge hX dX10_strike_14 26 17 (by decide) rfl (fun hc => ?_) (fun hc => ?_)
    · rw [if_pos hc] at h2_
      refine z_iconst hX dX10_strike_26 qi_m1 27 rfl ?_
      exact z_ireturn hX dX10_strike_27 (zend_i h2_)
    · rw [if_neg hc] at h2_
      refine z_aload_n hX dX10_strike_17 rfl 18 rfl ?_
      refine z_getI hX fX10_304 dX10_strike_18 zs_98 (by decide) rfl 21 rfl ?_
      refine z_bipush hX dX10_strike_21 qb_24 23 rfl ?_
      refine z_icmp_ne hX dX10_strike_23 28 26 (by decide) rfl (fun hc => ?_) (fun hc => ?_)
      · rw [if_neg hc] at h2_
        refine z_aload_n hX dX10_strike_28 rfl 29 rfl ?_
        refine z_getF hX fX10_145 dX10_strike_29 zs_98 (by decide) rfl 32 rfl ?_
        refine z_aload_n hX dX10_strike_32 rfl 33 rfl ?_
        refine z_getI hX fX10_304 dX10_strike_33 zs_98 (by decide) rfl 36 rfl ?_
        refine z_iload_n hX dX10_strike_36 rfl 37 rfl ?_
        obtain ⟨hb, h3_⟩ := zgd h2_
        refine z_iast hX dX10_strike_37 zs_140 (zok_in hb) 38 rfl ?_
        refine z_mem h3_ (fun M4_ h5_ => ?_)
        refine z_aload_n hX dX10_strike_38 rfl 39 rfl ?_
        refine z_dup hX dX10_strike_39 rfl 40 rfl ?_
        refine z_getI hX fX10_304 dX10_strike_40 zs_98 (by decide) rfl 43 rfl ?_
        refine z_iconst hX dX10_strike_43 qi_1 44 rfl ?_
        refine z_iadd hX dX10_strike_44 45 rfl ?_
        refine z_putI hX pX10_304 dX10_strike_45 zs_98 (by decide) rfl 48 rfl ?_
        refine z_mem h5_ (fun M6_ h7_ => ?_)
        refine z_aload_n hX dX10_strike_48 rfl 49 rfl ?_
        refine z_getI hX fX10_304 dX10_strike_49 zs_98 (by decide) rfl 52 rfl ?_
        refine z_iconst hX dX10_strike_52 qi_1 53 rfl ?_
        refine z_isub hX dX10_strike_53 54 rfl ?_
        exact z_ireturn hX dX10_strike_54 (zend_i h7_)
      · rw [if_pos hc] at h2_
        refine z_iconst hX dX10_strike_26 qi_m1 27 rfl ?_
        exact z_ireturn hX dX10_strike_27 (zend_i h2_)
def gX10_known (x1 : Int32) (M : zM) : Option (Int32 × zM) :=
  zlet (zI M 98 0 0) (fun M1_ => (if x1 < (-1) then some (0, M1_)
  else (if x1 ≤ (M1_.1 98 61) then zlet (zI M1_ 98 62 x1) (fun M3_ => some (1, M3_))
  else some (0, M1_))))
set_option maxRecDepth 100000 in
set_option maxHeartbeats 2000000 in
theorem mX10_known {G : zG} {x1 : Int32} {M : zM}  {res : (Int32 × zM)} (h : gX10_known x1 M = some res) : Ct G 1 tX10_known [.ref 98, .int x1] M (zQi res) := by
  unfold gX10_known at h
  refine Ct.of (y := yX10_known) rfl plX10 (Nat.le_of_ble_eq_true rfl) (fun X hX => ?_)
  replace hX : zC G X cX10_known 2 RX10 (some .boolean) 1 := hX
  show Z G X _ 0 [some (.ref 98), some (.int x1)] [] M
  refine z_aload_n hX dX10_known_0 rfl 1 rfl ?_
  refine z_iconst hX dX10_known_1 qi_0 2 rfl ?_
  refine z_putI hX pX10_154 dX10_known_2 zs_98 (by decide) rfl 5 rfl ?_
  refine z_mem h (fun M1_ h2_ => ?_)
  refine z_iload_n hX dX10_known_5 rfl 6 rfl ?_
  refine z_iconst hX dX10_known_6 qi_m1 7 rfl ?_
  refine z_icmp_lt hX dX10_known_7 18 10 (by decide) rfl (fun hc => ?_) (fun hc => ?_)
  · rw [if_pos hc] at h2_
    refine z_iconst hX dX10_known_18 qi_0 19 rfl ?_
    exact z_zreturn hX dX10_known_19 (by decide) (zend_i h2_)
  · rw [if_neg hc] at h2_
    refine z_iload_n hX dX10_known_10 rfl 11 rfl ?_
    refine z_aload_n hX dX10_known_11 rfl 12 rfl ?_
    refine z_getI hX fX10_304 dX10_known_12 zs_98 (by decide) rfl 15 rfl ?_
    refine z_icmp_le hX dX10_known_15 20 18 (by decide) rfl (fun hc => ?_) (fun hc => ?_)
    · rw [if_pos hc] at h2_
      refine z_aload_n hX dX10_known_20 rfl 21 rfl ?_
      refine z_iload_n hX dX10_known_21 rfl 22 rfl ?_
      refine z_putI hX pX10_132 dX10_known_22 zs_98 (by decide) rfl 25 rfl ?_
      refine z_mem h2_ (fun M3_ h4_ => ?_)
      refine z_iconst hX dX10_known_25 qi_1 26 rfl ?_
      exact z_zreturn hX dX10_known_26 (by decide) (zend_i h4_)
    · rw [if_neg hc] at h2_
      refine z_iconst hX dX10_known_18 qi_0 19 rfl ?_
      exact z_zreturn hX dX10_known_19 (by decide) (zend_i h2_)
def gX10_knownMany (M : zM) : Option Int32 :=
  (if (M.1 98 62) = (-1) then some (M.1 98 61)
  else some (M.1 98 62))
set_option maxRecDepth 100000 in
set_option maxHeartbeats 2000000 in
theorem mX10_knownMany {G : zG}  {M : zM}  {res : Int32} (h : gX10_knownMany M = some res) : Ct G 1 tX10_knownMany [.ref 98] M (zQip M res) := by
  unfold gX10_knownMany at h
  refine Ct.of (y := yX10_knownMany) rfl plX10 (Nat.le_of_ble_eq_true rfl) (fun X hX => ?_)
  replace hX : zC G X cX10_knownMany 1 RX10 (some .int) 1 := hX
  show Z G X _ 0 [some (.ref 98)] [] M
  refine z_aload_n hX dX10_knownMany_0 rfl 1 rfl ?_
  refine z_getI hX fX10_132 dX10_knownMany_1 zs_98 (by decide) rfl 4 rfl ?_
  refine z_iconst hX dX10_knownMany_4 qi_m1 5 rfl ?_
  refine z_icmp_ne hX dX10_knownMany_5 15 8 (by decide) rfl (fun hc => ?_) (fun hc => ?_)
  · rw [if_neg hc] at h
    refine z_aload_n hX dX10_knownMany_15 rfl 16 rfl ?_
    refine z_getI hX fX10_132 dX10_knownMany_16 zs_98 (by decide) rfl 19 rfl ?_
    exact z_ireturn hX dX10_knownMany_19 (zend_ip h)
  · rw [if_pos hc] at h
    refine z_aload_n hX dX10_knownMany_8 rfl 9 rfl ?_
    refine z_getI hX fX10_304 dX10_knownMany_9 zs_98 (by decide) rfl 12 rfl ?_
    refine z_goto hX dX10_knownMany_12 19 (by decide) ?_
    exact z_ireturn hX dX10_knownMany_19 (zend_ip h)
def gX10_isSo_J65 (x1 : Int32) (x2 : Int32) (y0 : Int32) (rc2 : Int32 → Option Int32) (M : zM) : Option Int32 :=
  zg (zok x2 24) ((if y0 = (M.1 139 (x2 : Int32).toNatClampNeg) then rc2 (x2 + 1)
  else some 0))
set_option maxRecDepth 100000 in
set_option maxHeartbeats 2000000 in
theorem aX10_isSo_J65 {G : zG} {X : zX} {x1 : Int32} {x2 : Int32} {y0 : Int32} (hX : zC G X cX10_isSo 3 RX10 (some .boolean) 2)  {rc2 : Int32 → Option Int32} {M : zM} {res : Int32} (hrc2 : ∀ s : Int32, rc2 s = some res → Z G X (zQip M res) 2 [some (.ref 98), some (.int x1), some (.int s)] [] M) (h : gX10_isSo_J65 x1 x2 y0 rc2 M = some res) : Z G X (zQip M res) 65 [some (.ref 98), some (.int x1), some (.int x2)] [.int y0] M := by
  unfold gX10_isSo_J65 at h
  refine z_aload_n hX dX10_isSo_65 rfl 66 rfl ?_
  refine z_getF hX fX10_141 dX10_isSo_66 zs_98 (by decide) rfl 69 rfl ?_
  refine z_iload_n hX dX10_isSo_69 rfl 70 rfl ?_
  obtain ⟨hb, h8_⟩ := zgd h
  refine z_zald hX dX10_isSo_70 zs_139 (zok_in hb) 71 rfl ?_
  refine z_icmp_eq hX dX10_isSo_71 76 74 (by decide) rfl (fun hc => ?_) (fun hc => ?_)
  · rw [if_pos hc] at h8_
    refine z_iinc (v := (x2 + 1)) hX dX10_isSo_76 rfl (by rfl) (by decide) 79 rfl ?_
    refine z_goto hX dX10_isSo_79 2 (by decide) ?_
    refine z_mask [true, true, true] ?_
    have hz := hrc2 _ h8_
    exact hz
  · rw [if_neg hc] at h8_
    refine z_iconst hX dX10_isSo_74 qi_0 75 rfl ?_
    exact z_zreturn hX dX10_isSo_75 (by decide) (zend_ip h8_)
def gX10_isSo_L2 (x1 : Int32) (M : zM) (rc2 : Int32 → Option Int32) (s : Int32) : Option Int32 :=
  zcI (gX10_knownMany M) (fun v1_ => (if v1_ ≤ s then some 1
  else zg (zok s 24) ((if (M.1 141 (s : Int32).toNatClampNeg) = 0 then zg (zok s 24) ((if (M.1 140 (s : Int32).toNatClampNeg) = (-1) then zg (zok s 24) ((if (M.1 137 (s : Int32).toNatClampNeg) = x1 then zg (zok s 24) (zg (zok (8 + (M.1 138 (s : Int32).toNatClampNeg)) 184) ((if (M.1 130 ((8 + (M.1 138 (s : Int32).toNatClampNeg)) : Int32).toNatClampNeg) = 2 then gX10_isSo_J65 x1 s 1 rc2 M
  else gX10_isSo_J65 x1 s 0 rc2 M)))
  else rc2 (s + 1)))
  else rc2 (s + 1)))
  else rc2 (s + 1)))))
set_option maxRecDepth 100000 in
set_option maxHeartbeats 2000000 in
theorem aX10_isSo_L2 {G : zG} {X : zX} {x1 : Int32} (hX : zC G X cX10_isSo 3 RX10 (some .boolean) 2)   {M : zM} {res : Int32}  : ∀ (N : Nat) (s : Int32), zfix N (gX10_isSo_L2 x1 M) s = some res → Z G X (zQip M res) 2 [some (.ref 98), some (.int x1), some (.int s)] [] M := by
  intro N
  induction N with
  | zero => intro s h; cases h
  | succ N hrc2 =>
    intro s h
    replace h : gX10_isSo_L2 x1 M (zfix N (gX10_isSo_L2 x1 M)) s = some res := h
    unfold gX10_isSo_L2 at h
    refine z_iload_n hX dX10_isSo_2 rfl 3 rfl ?_
    refine z_aload_n hX dX10_isSo_3 rfl 4 rfl ?_
    obtain ⟨v1_, hq, h2_⟩ := zcI_of h
    refine z_callV hX vX10_knownMany lX10_481 dX10_isSo_4 zs_98 rfl (mX10_knownMany  hq) (by decide) rfl rfl (Nat.le_of_ble_eq_true rfl) 7 rfl (Qi.to (fun v' M' hv => ?_))
    obtain ⟨rfl, rfl⟩ := hv
    refine z_icmp_ge hX dX10_isSo_7 82 10 (by decide) rfl (fun hc => ?_) (fun hc => ?_)
    · rw [if_pos hc] at h2_
      refine z_iconst hX dX10_isSo_82 qi_1 83 rfl ?_
      exact z_zreturn hX dX10_isSo_83 (by decide) (zend_ip h2_)
    · rw [if_neg hc] at h2_
      refine z_aload_n hX dX10_isSo_10 rfl 11 rfl ?_
      refine z_getF hX fX10_148 dX10_isSo_11 zs_98 (by decide) rfl 14 rfl ?_
      refine z_iload_n hX dX10_isSo_14 rfl 15 rfl ?_
      obtain ⟨hb, h3_⟩ := zgd h2_
      refine z_zald hX dX10_isSo_15 zs_141 (zok_in hb) 16 rfl ?_
      refine z_if_ne hX dX10_isSo_16 76 19 (by decide) rfl (fun hc => ?_) (fun hc => ?_)
      · rw [if_neg hc] at h3_
        refine z_iinc (v := (s + 1)) hX dX10_isSo_76 rfl (by rfl) (by decide) 79 rfl ?_
        refine z_goto hX dX10_isSo_79 2 (by decide) ?_
        refine z_mask [true, true, true] ?_
        have hz := hrc2 _ h3_
        exact hz
      · rw [if_pos hc] at h3_
        refine z_aload_n hX dX10_isSo_19 rfl 20 rfl ?_
        refine z_getF hX fX10_145 dX10_isSo_20 zs_98 (by decide) rfl 23 rfl ?_
        refine z_iload_n hX dX10_isSo_23 rfl 24 rfl ?_
        obtain ⟨hb, h4_⟩ := zgd h3_
        refine z_iald hX dX10_isSo_24 zs_140 (zok_in hb) 25 rfl ?_
        refine z_iconst hX dX10_isSo_25 qi_m1 26 rfl ?_
        refine z_icmp_ne hX dX10_isSo_26 76 29 (by decide) rfl (fun hc => ?_) (fun hc => ?_)
        · rw [if_neg hc] at h4_
          refine z_iinc (v := (s + 1)) hX dX10_isSo_76 rfl (by rfl) (by decide) 79 rfl ?_
          refine z_goto hX dX10_isSo_79 2 (by decide) ?_
          refine z_mask [true, true, true] ?_
          have hz := hrc2 _ h4_
          exact hz
        · rw [if_pos hc] at h4_
          refine z_aload_n hX dX10_isSo_29 rfl 30 rfl ?_
          refine z_getF hX fX10_135 dX10_isSo_30 zs_98 (by decide) rfl 33 rfl ?_
          refine z_iload_n hX dX10_isSo_33 rfl 34 rfl ?_
          obtain ⟨hb, h5_⟩ := zgd h4_
          refine z_iald hX dX10_isSo_34 zs_137 (zok_in hb) 35 rfl ?_
          refine z_iload_n hX dX10_isSo_35 rfl 36 rfl ?_
          refine z_icmp_eq hX dX10_isSo_36 42 39 (by decide) rfl (fun hc => ?_) (fun hc => ?_)
          · rw [if_pos hc] at h5_
            refine z_aload_n hX dX10_isSo_42 rfl 43 rfl ?_
            refine z_getF hX fX10_108 dX10_isSo_43 zs_98 (by decide) rfl 46 rfl ?_
            refine z_bipush hX dX10_isSo_46 qb_8 48 rfl ?_
            refine z_aload_n hX dX10_isSo_48 rfl 49 rfl ?_
            refine z_getF hX fX10_138 dX10_isSo_49 zs_98 (by decide) rfl 52 rfl ?_
            refine z_iload_n hX dX10_isSo_52 rfl 53 rfl ?_
            obtain ⟨hb, h6_⟩ := zgd h5_
            refine z_iald hX dX10_isSo_53 zs_138 (zok_in hb) 54 rfl ?_
            refine z_iadd hX dX10_isSo_54 55 rfl ?_
            obtain ⟨hb, h7_⟩ := zgd h6_
            refine z_iald hX dX10_isSo_55 zs_130 (zok_in hb) 56 rfl ?_
            refine z_iconst hX dX10_isSo_56 qi_2 57 rfl ?_
            refine z_icmp_ne hX dX10_isSo_57 64 60 (by decide) rfl (fun hc => ?_) (fun hc => ?_)
            · rw [if_neg hc] at h7_
              refine z_iconst hX dX10_isSo_64 qi_0 65 rfl ?_
              refine z_mask [true, true, true] ?_
              have hz := aX10_isSo_J65 hX hrc2 h7_
              exact hz
            · rw [if_pos hc] at h7_
              refine z_iconst hX dX10_isSo_60 qi_1 61 rfl ?_
              refine z_goto hX dX10_isSo_61 65 (by decide) ?_
              refine z_mask [true, true, true] ?_
              have hz := aX10_isSo_J65 hX hrc2 h7_
              exact hz
          · rw [if_neg hc] at h5_
            refine z_goto hX dX10_isSo_39 76 (by decide) ?_
            refine z_iinc (v := (s + 1)) hX dX10_isSo_76 rfl (by rfl) (by decide) 79 rfl ?_
            refine z_goto hX dX10_isSo_79 2 (by decide) ?_
            refine z_mask [true, true, true] ?_
            have hz := hrc2 _ h5_
            exact hz
def gX10_isSo (x1 : Int32) (M : zM) : Option Int32 :=
  zfix zFu (gX10_isSo_L2 x1 M) 0
set_option maxRecDepth 100000 in
set_option maxHeartbeats 2000000 in
theorem mX10_isSo {G : zG} {x1 : Int32} {M : zM}  {res : Int32} (h : gX10_isSo x1 M = some res) : Ct G 2 tX10_isSo [.ref 98, .int x1] M (zQip M res) := by
  unfold gX10_isSo at h
  refine Ct.of (y := yX10_isSo) rfl plX10 (Nat.le_of_ble_eq_true rfl) (fun X hX => ?_)
  replace hX : zC G X cX10_isSo 3 RX10 (some .boolean) 2 := hX
  show Z G X _ 0 [some (.ref 98), some (.int x1), none] [] M
  refine z_iconst hX dX10_isSo_0 qi_0 1 rfl ?_
  refine z_istore_n hX dX10_isSo_1 (by decide) 2 rfl ?_
  refine z_mask [true, true, true] ?_
  have hz := aX10_isSo_L2 hX _ _ h
  exact hz
def gX10_fitsRue_L18 (x3 : Int32) (rc18 : (Int32 × zM) → Option (Int32 × zM)) (s : (Int32 × zM)) : Option (Int32 × zM) :=
  (if x3 < s.1 then some (1, s.2)
  else zcV (gX10_passes 1 0 s.2) (fun M6_ => zcI (gX10_isSo s.1 M6_) (fun v8_ => (if v8_ = 0 then some (0, M6_)
  else rc18 ((s.1 + 1), M6_)))))
set_option maxRecDepth 100000 in
set_option maxHeartbeats 2000000 in
theorem aX10_fitsRue_L18 {G : zG} {X : zX} {x3 : Int32} (hX : zC G X cX10_fitsRue 5 RX10 (some .boolean) 8)    {res : (Int32 × zM)}  : ∀ (N : Nat) (s : (Int32 × zM)), zfix N (gX10_fitsRue_L18 x3) s = some res → Z G X (zQi res) 18 [some (.ref 98), none, none, some (.int x3), some (.int s.1)] [] s.2 := by
  intro N
  induction N with
  | zero => intro s h; cases h
  | succ N hrc18 =>
    intro s h
    replace h : gX10_fitsRue_L18 x3 (zfix N (gX10_fitsRue_L18 x3)) s = some res := h
    unfold gX10_fitsRue_L18 at h
    refine z_iload hX dX10_fitsRue_18 rfl 20 rfl ?_
    refine z_iload_n hX dX10_fitsRue_20 rfl 21 rfl ?_
    refine z_icmp_gt hX dX10_fitsRue_21 47 24 (by decide) rfl (fun hc => ?_) (fun hc => ?_)
    · rw [if_pos hc] at h
      refine z_iconst hX dX10_fitsRue_47 qi_1 48 rfl ?_
      exact z_zreturn hX dX10_fitsRue_48 (by decide) (zend_i h)
    · rw [if_neg hc] at h
      refine z_aload_n hX dX10_fitsRue_24 rfl 25 rfl ?_
      refine z_iconst hX dX10_fitsRue_25 qi_1 26 rfl ?_
      refine z_iconst hX dX10_fitsRue_26 qi_0 27 rfl ?_
      obtain ⟨M6_, hq, h7_⟩ := zcV_of h
      refine z_callV hX vX10_passes lX10_403 dX10_fitsRue_27 zs_98 rfl (mX10_passes  hq) (by decide) rfl rfl (Nat.le_of_ble_eq_true rfl) 30 rfl (Qv.to (fun M' hv => ?_))
      subst hv
      refine z_aload_n hX dX10_fitsRue_30 rfl 31 rfl ?_
      refine z_iload hX dX10_fitsRue_31 rfl 33 rfl ?_
      obtain ⟨v8_, hq, h9_⟩ := zcI_of h7_
      refine z_callV hX vX10_isSo lX10_484 dX10_fitsRue_33 zs_98 rfl (mX10_isSo  hq) (by decide) rfl rfl (Nat.le_of_ble_eq_true rfl) 36 rfl (Qi.to (fun v' M' hv => ?_))
      obtain ⟨rfl, rfl⟩ := hv
      refine z_if_ne hX dX10_fitsRue_36 41 39 (by decide) rfl (fun hc => ?_) (fun hc => ?_)
      · rw [if_neg hc] at h9_
        refine z_iinc (v := (s.1 + 1)) hX dX10_fitsRue_41 rfl (by rfl) (by decide) 44 rfl ?_
        refine z_goto hX dX10_fitsRue_44 18 (by decide) ?_
        refine z_mask [true, false, false, true, true] ?_
        have hz := hrc18 _ h9_
        exact hz
      · rw [if_pos hc] at h9_
        refine z_iconst hX dX10_fitsRue_39 qi_0 40 rfl ?_
        exact z_zreturn hX dX10_fitsRue_40 (by decide) (zend_i h9_)
def gX10_fitsRue (x1 : Int32) (x2 : Int32) (x3 : Int32) (M : zM) : Option (Int32 × zM) :=
  zcV (gX10_starts 1 M) (fun M1_ => zg (zok (6 + x1) 138) (zlet (zI M1_ 123 ((6 + x1) : Int32).toNatClampNeg x2) (fun M4_ => zfix zFu (gX10_fitsRue_L18 x3) (1, M4_))))
set_option maxRecDepth 100000 in
set_option maxHeartbeats 2000000 in
theorem mX10_fitsRue {G : zG} {x1 : Int32} {x2 : Int32} {x3 : Int32} {M : zM}  {res : (Int32 × zM)} (h : gX10_fitsRue x1 x2 x3 M = some res) : Ct G 8 tX10_fitsRue [.ref 98, .int x1, .int x2, .int x3] M (zQi res) := by
  unfold gX10_fitsRue at h
  refine Ct.of (y := yX10_fitsRue) rfl plX10 (Nat.le_of_ble_eq_true rfl) (fun X hX => ?_)
  replace hX : zC G X cX10_fitsRue 5 RX10 (some .boolean) 8 := hX
  show Z G X _ 0 [some (.ref 98), some (.int x1), some (.int x2), some (.int x3), none] [] M
  refine z_aload_n hX dX10_fitsRue_0 rfl 1 rfl ?_
  refine z_iconst hX dX10_fitsRue_1 qi_1 2 rfl ?_
  obtain ⟨M1_, hq, h2_⟩ := zcV_of h
  refine z_callV hX vX10_starts lX10_334 dX10_fitsRue_2 zs_98 rfl (mX10_starts  hq) (by decide) rfl rfl (Nat.le_of_ble_eq_true rfl) 5 rfl (Qv.to (fun M' hv => ?_))
  subst hv
  refine z_aload_n hX dX10_fitsRue_5 rfl 6 rfl ?_
  refine z_getF hX fX10_87 dX10_fitsRue_6 zs_98 (by decide) rfl 9 rfl ?_
  refine z_bipush hX dX10_fitsRue_9 qb_6 11 rfl ?_
  refine z_iload_n hX dX10_fitsRue_11 rfl 12 rfl ?_
  refine z_iadd hX dX10_fitsRue_12 13 rfl ?_
  refine z_iload_n hX dX10_fitsRue_13 rfl 14 rfl ?_
  obtain ⟨hb, h3_⟩ := zgd h2_
  refine z_iast hX dX10_fitsRue_14 zs_123 (zok_in hb) 15 rfl ?_
  refine z_mem h3_ (fun M4_ h5_ => ?_)
  refine z_iconst hX dX10_fitsRue_15 qi_1 16 rfl ?_
  refine z_istore hX dX10_fitsRue_16 (by decide) 18 rfl ?_
  refine z_mask [true, false, false, true, true] ?_
  have hz := aX10_fitsRue_L18 hX _ _ h5_
  exact hz
def gX10_rues_L139 (x1 : Int32) (x2 : Int32) (rc139 : (Int32 × Int32 × zM) → Option (Int32 × zM)) (s : (Int32 × Int32 × zM)) : Option (Int32 × zM) :=
  (if 10 ≤ s.2.1 then some (s.1, s.2.2)
  else zcIM (gX10_fitsRue x1 (10 * s.2.1) x2 s.2.2) (fun v11_ M12_ => (if v11_ = 0 then rc139 ((s.1 ||| 0), (s.2.1 + 1), M12_)
  else zlet ((s.1 ||| ((1 : Int32) <<< ((s.2.1 : Int32) &&& 31)))) (fun x14_ => rc139 (x14_, (s.2.1 + 1), M12_)))))
set_option maxRecDepth 100000 in
set_option maxHeartbeats 2000000 in
theorem aX10_rues_L139 {G : zG} {X : zX} {x1 : Int32} {x2 : Int32} (hX : zC G X cX10_rues 5 RX10 (some .int) 9)    {res : (Int32 × zM)}  : ∀ (N : Nat) (s : (Int32 × Int32 × zM)), zfix N (gX10_rues_L139 x1 x2) s = some res → Z G X (zQi res) 139 [some (.ref 98), some (.int x1), some (.int x2), some (.int s.1), some (.int s.2.1)] [] s.2.2 := by
  intro N
  induction N with
  | zero => intro s h; cases h
  | succ N hrc139 =>
    intro s h
    replace h : gX10_rues_L139 x1 x2 (zfix N (gX10_rues_L139 x1 x2)) s = some res := h
    unfold gX10_rues_L139 at h
    refine z_iload hX dX10_rues_139 rfl 141 rfl ?_
    refine z_bipush hX dX10_rues_141 qb_10 143 rfl ?_
    refine z_icmp_ge hX dX10_rues_143 177 146 (by decide) rfl (fun hc => ?_) (fun hc => ?_)
    · rw [if_pos hc] at h
      refine z_iload_n hX dX10_rues_177 rfl 178 rfl ?_
      exact z_ireturn hX dX10_rues_178 (zend_i h)
    · rw [if_neg hc] at h
      refine z_iload_n hX dX10_rues_146 rfl 147 rfl ?_
      refine z_aload_n hX dX10_rues_147 rfl 148 rfl ?_
      refine z_iload_n hX dX10_rues_148 rfl 149 rfl ?_
      refine z_bipush hX dX10_rues_149 qb_10 151 rfl ?_
      refine z_iload hX dX10_rues_151 rfl 153 rfl ?_
      refine z_imul hX dX10_rues_153 154 rfl ?_
      refine z_iload_n hX dX10_rues_154 rfl 155 rfl ?_
      obtain ⟨v11_, M12_, hq, h13_⟩ := zcIM_of h
      refine z_callV hX vX10_fitsRue lX10_487 dX10_rues_155 zs_98 rfl (mX10_fitsRue  hq) (by decide) rfl rfl (Nat.le_of_ble_eq_true rfl) 158 rfl (Qi.to (fun v' M' hv => ?_))
      cases hv
      refine z_if_eq hX dX10_rues_158 168 161 (by decide) rfl (fun hc => ?_) (fun hc => ?_)
      · rw [if_pos hc] at h13_
        refine z_iconst hX dX10_rues_168 qi_0 169 rfl ?_
        refine z_ior hX dX10_rues_169 170 rfl ?_
        refine z_istore_n hX dX10_rues_170 (by decide) 171 rfl ?_
        refine z_iinc (v := (s.2.1 + 1)) hX dX10_rues_171 rfl (by rfl) (by decide) 174 rfl ?_
        refine z_goto hX dX10_rues_174 139 (by decide) ?_
        refine z_mask [true, true, true, true, true] ?_
        have hz := hrc139 _ h13_
        exact hz
      · rw [if_neg hc] at h13_
        refine z_iconst hX dX10_rues_161 qi_1 162 rfl ?_
        refine z_iload hX dX10_rues_162 rfl 164 rfl ?_
        refine z_ishl hX dX10_rues_164 165 rfl ?_
        refine z_goto hX dX10_rues_165 169 (by decide) ?_
        refine z_ior hX dX10_rues_169 170 rfl ?_
        refine z_topi h13_ (fun x14_ h15_ => ?_)
        refine z_istore_n hX dX10_rues_170 (by decide) 171 rfl ?_
        refine z_iinc (v := (s.2.1 + 1)) hX dX10_rues_171 rfl (by rfl) (by decide) 174 rfl ?_
        refine z_goto hX dX10_rues_174 139 (by decide) ?_
        refine z_mask [true, true, true, true, true] ?_
        have hz := hrc139 _ h15_
        exact hz
def gX10_rues_L90 (x1 : Int32) (M : zM) (rc90 : (Int32 × Int32) → Option (Int32 × zM)) (s : (Int32 × Int32)) : Option (Int32 × zM) :=
  zcI (gX10_knownMany M) (fun v9_ => (if v9_ ≤ s.2 then zfix zFu (gX10_rues_L139 x1 s.1) (0, 0, M)
  else zg (zok s.2 24) ((if (M.1 141 (s.2 : Int32).toNatClampNeg) = 0 then zg (zok s.2 24) ((if (M.1 140 (s.2 : Int32).toNatClampNeg) = (-1) then zg (zok s.2 24) (zlet ((if s.1 < (M.1 137 (s.2 : Int32).toNatClampNeg) then (M.1 137 (s.2 : Int32).toNatClampNeg) else s.1)) (fun x19_ => rc90 (x19_, (s.2 + 1))))
  else rc90 (s.1, (s.2 + 1))))
  else rc90 (s.1, (s.2 + 1))))))
set_option maxRecDepth 100000 in
set_option maxHeartbeats 2000000 in
theorem aX10_rues_L90 {G : zG} {X : zX} {x1 : Int32} (hX : zC G X cX10_rues 5 RX10 (some .int) 9)   {M : zM} {res : (Int32 × zM)}  : ∀ (N : Nat) (s : (Int32 × Int32)), zfix N (gX10_rues_L90 x1 M) s = some res → Z G X (zQi res) 90 [some (.ref 98), some (.int x1), some (.int s.1), some (.int s.2), none] [] M := by
  intro N
  induction N with
  | zero => intro s h; cases h
  | succ N hrc90 =>
    intro s h
    replace h : gX10_rues_L90 x1 M (zfix N (gX10_rues_L90 x1 M)) s = some res := h
    unfold gX10_rues_L90 at h
    refine z_iload_n hX dX10_rues_90 rfl 91 rfl ?_
    refine z_aload_n hX dX10_rues_91 rfl 92 rfl ?_
    obtain ⟨v9_, hq, h10_⟩ := zcI_of h
    refine z_callV hX vX10_knownMany lX10_481 dX10_rues_92 zs_98 rfl (mX10_knownMany  hq) (by decide) rfl rfl (Nat.le_of_ble_eq_true rfl) 95 rfl (Qi.to (fun v' M' hv => ?_))
    obtain ⟨rfl, rfl⟩ := hv
    refine z_icmp_ge hX dX10_rues_95 134 98 (by decide) rfl (fun hc => ?_) (fun hc => ?_)
    · rw [if_pos hc] at h10_
      refine z_iconst hX dX10_rues_134 qi_0 135 rfl ?_
      refine z_istore_n hX dX10_rues_135 (by decide) 136 rfl ?_
      refine z_iconst hX dX10_rues_136 qi_0 137 rfl ?_
      refine z_istore hX dX10_rues_137 (by decide) 139 rfl ?_
      refine z_mask [true, true, true, true, true] ?_
      have hz := aX10_rues_L139 hX _ _ h10_
      exact hz
    · rw [if_neg hc] at h10_
      refine z_aload_n hX dX10_rues_98 rfl 99 rfl ?_
      refine z_getF hX fX10_148 dX10_rues_99 zs_98 (by decide) rfl 102 rfl ?_
      refine z_iload_n hX dX10_rues_102 rfl 103 rfl ?_
      obtain ⟨hb, h16_⟩ := zgd h10_
      refine z_zald hX dX10_rues_103 zs_141 (zok_in hb) 104 rfl ?_
      refine z_if_ne hX dX10_rues_104 128 107 (by decide) rfl (fun hc => ?_) (fun hc => ?_)
      · rw [if_neg hc] at h16_
        refine z_iinc (v := (s.2 + 1)) hX dX10_rues_128 rfl (by rfl) (by decide) 131 rfl ?_
        refine z_goto hX dX10_rues_131 90 (by decide) ?_
        refine z_mask [true, true, true, true, false] ?_
        have hz := hrc90 _ h16_
        exact hz
      · rw [if_pos hc] at h16_
        refine z_aload_n hX dX10_rues_107 rfl 108 rfl ?_
        refine z_getF hX fX10_145 dX10_rues_108 zs_98 (by decide) rfl 111 rfl ?_
        refine z_iload_n hX dX10_rues_111 rfl 112 rfl ?_
        obtain ⟨hb, h17_⟩ := zgd h16_
        refine z_iald hX dX10_rues_112 zs_140 (zok_in hb) 113 rfl ?_
        refine z_iconst hX dX10_rues_113 qi_m1 114 rfl ?_
        refine z_icmp_ne hX dX10_rues_114 128 117 (by decide) rfl (fun hc => ?_) (fun hc => ?_)
        · rw [if_neg hc] at h17_
          refine z_iinc (v := (s.2 + 1)) hX dX10_rues_128 rfl (by rfl) (by decide) 131 rfl ?_
          refine z_goto hX dX10_rues_131 90 (by decide) ?_
          refine z_mask [true, true, true, true, false] ?_
          have hz := hrc90 _ h17_
          exact hz
        · rw [if_pos hc] at h17_
          refine z_iload_n hX dX10_rues_117 rfl 118 rfl ?_
          refine z_aload_n hX dX10_rues_118 rfl 119 rfl ?_
          refine z_getF hX fX10_135 dX10_rues_119 zs_98 (by decide) rfl 122 rfl ?_
          refine z_iload_n hX dX10_rues_122 rfl 123 rfl ?_
          obtain ⟨hb, h18_⟩ := zgd h17_
          refine z_iald hX dX10_rues_123 zs_137 (zok_in hb) 124 rfl ?_
          refine z_max hX dX10_rues_124 lX10_391 (by decide) (Nat.le_of_ble_eq_true rfl) 127 rfl ?_
          refine z_topi h18_ (fun x19_ h20_ => ?_)
          refine z_istore_n hX dX10_rues_127 (by decide) 128 rfl ?_
          refine z_iinc (v := (s.2 + 1)) hX dX10_rues_128 rfl (by rfl) (by decide) 131 rfl ?_
          refine z_goto hX dX10_rues_131 90 (by decide) ?_
          refine z_mask [true, true, true, true, false] ?_
          have hz := hrc90 _ h20_
          exact hz
def gX10_rues_L47 (x1 : Int32) (x2 : Int32) (rc47 : (Int32 × zM) → Option (Int32 × zM)) (s : (Int32 × zM)) : Option (Int32 × zM) :=
  (if s.1 < 0 then zfix zFu (gX10_rues_L90 x1 s.2) (x2, 0)
  else zg (zok s.1 24) ((if (s.2.1 141 (s.1 : Int32).toNatClampNeg) = 0 then zg (zok s.1 24) ((if (s.2.1 140 (s.1 : Int32).toNatClampNeg) = (-1) then rc47 ((s.1 + (-1)), s.2)
  else zg (zok s.1 24) (zg (zok (s.2.1 140 (s.1 : Int32).toNatClampNeg) 24) (zlet (zI s.2 141 ((s.2.1 140 (s.1 : Int32).toNatClampNeg) : Int32).toNatClampNeg (vp_nar .boolean 1)) (fun M25_ => rc47 ((s.1 + (-1)), M25_))))))
  else rc47 ((s.1 + (-1)), s.2))))
set_option maxRecDepth 100000 in
set_option maxHeartbeats 2000000 in
theorem aX10_rues_L47 {G : zG} {X : zX} {x1 : Int32} {x2 : Int32} (hX : zC G X cX10_rues 5 RX10 (some .int) 9)    {res : (Int32 × zM)}  : ∀ (N : Nat) (s : (Int32 × zM)), zfix N (gX10_rues_L47 x1 x2) s = some res → Z G X (zQi res) 47 [some (.ref 98), some (.int x1), some (.int x2), some (.int s.1), none] [] s.2 := by
  intro N
  induction N with
  | zero => intro s h; cases h
  | succ N hrc47 =>
    intro s h
    replace h : gX10_rues_L47 x1 x2 (zfix N (gX10_rues_L47 x1 x2)) s = some res := h
    unfold gX10_rues_L47 at h
    refine z_iload_n hX dX10_rues_47 rfl 48 rfl ?_
    refine z_if_lt hX dX10_rues_48 88 51 (by decide) rfl (fun hc => ?_) (fun hc => ?_)
    · rw [if_pos hc] at h
      refine z_iconst hX dX10_rues_88 qi_0 89 rfl ?_
      refine z_istore_n hX dX10_rues_89 (by decide) 90 rfl ?_
      refine z_mask [true, true, true, true, false] ?_
      have hz := aX10_rues_L90 hX _ _ h
      exact hz
    · rw [if_neg hc] at h
      refine z_aload_n hX dX10_rues_51 rfl 52 rfl ?_
      refine z_getF hX fX10_148 dX10_rues_52 zs_98 (by decide) rfl 55 rfl ?_
      refine z_iload_n hX dX10_rues_55 rfl 56 rfl ?_
      obtain ⟨hb, h21_⟩ := zgd h
      refine z_zald hX dX10_rues_56 zs_141 (zok_in hb) 57 rfl ?_
      refine z_if_ne hX dX10_rues_57 82 60 (by decide) rfl (fun hc => ?_) (fun hc => ?_)
      · rw [if_neg hc] at h21_
        refine z_iinc (v := (s.1 + (-1))) hX dX10_rues_82 rfl (by rfl) (by decide) 85 rfl ?_
        refine z_goto hX dX10_rues_85 47 (by decide) ?_
        refine z_mask [true, true, true, true, false] ?_
        have hz := hrc47 _ h21_
        exact hz
      · rw [if_pos hc] at h21_
        refine z_aload_n hX dX10_rues_60 rfl 61 rfl ?_
        refine z_getF hX fX10_145 dX10_rues_61 zs_98 (by decide) rfl 64 rfl ?_
        refine z_iload_n hX dX10_rues_64 rfl 65 rfl ?_
        obtain ⟨hb, h22_⟩ := zgd h21_
        refine z_iald hX dX10_rues_65 zs_140 (zok_in hb) 66 rfl ?_
        refine z_iconst hX dX10_rues_66 qi_m1 67 rfl ?_
        refine z_icmp_eq hX dX10_rues_67 82 70 (by decide) rfl (fun hc => ?_) (fun hc => ?_)
        · rw [if_pos hc] at h22_
          refine z_iinc (v := (s.1 + (-1))) hX dX10_rues_82 rfl (by rfl) (by decide) 85 rfl ?_
          refine z_goto hX dX10_rues_85 47 (by decide) ?_
          refine z_mask [true, true, true, true, false] ?_
          have hz := hrc47 _ h22_
          exact hz
        · rw [if_neg hc] at h22_
          refine z_aload_n hX dX10_rues_70 rfl 71 rfl ?_
          refine z_getF hX fX10_148 dX10_rues_71 zs_98 (by decide) rfl 74 rfl ?_
          refine z_aload_n hX dX10_rues_74 rfl 75 rfl ?_
          refine z_getF hX fX10_145 dX10_rues_75 zs_98 (by decide) rfl 78 rfl ?_
          refine z_iload_n hX dX10_rues_78 rfl 79 rfl ?_
          obtain ⟨hb, h23_⟩ := zgd h22_
          refine z_iald hX dX10_rues_79 zs_140 (zok_in hb) 80 rfl ?_
          refine z_iconst hX dX10_rues_80 qi_1 81 rfl ?_
          obtain ⟨hb, h24_⟩ := zgd h23_
          refine z_zast hX dX10_rues_81 zs_141 (zok_in hb) 82 rfl ?_
          refine z_mem h24_ (fun M25_ h26_ => ?_)
          refine z_iinc (v := (s.1 + (-1))) hX dX10_rues_82 rfl (by rfl) (by decide) 85 rfl ?_
          refine z_goto hX dX10_rues_85 47 (by decide) ?_
          refine z_mask [true, true, true, true, false] ?_
          have hz := hrc47 _ h26_
          exact hz
def gX10_rues_L19 (x1 : Int32) (x2 : Int32) (rc19 : (Int32 × zM) → Option (Int32 × zM)) (s : (Int32 × zM)) : Option (Int32 × zM) :=
  zcI (gX10_knownMany s.2) (fun v5_ => (if v5_ ≤ s.1 then zcI (gX10_knownMany s.2) (fun v7_ => zfix zFu (gX10_rues_L47 x1 x2) ((v7_ - 1), s.2))
  else zg (zok s.1 24) (zlet (zI s.2 141 (s.1 : Int32).toNatClampNeg (vp_nar .boolean 0)) (fun M28_ => rc19 ((s.1 + 1), M28_)))))
set_option maxRecDepth 100000 in
set_option maxHeartbeats 2000000 in
theorem aX10_rues_L19 {G : zG} {X : zX} {x1 : Int32} {x2 : Int32} (hX : zC G X cX10_rues 5 RX10 (some .int) 9)    {res : (Int32 × zM)}  : ∀ (N : Nat) (s : (Int32 × zM)), zfix N (gX10_rues_L19 x1 x2) s = some res → Z G X (zQi res) 19 [some (.ref 98), some (.int x1), some (.int x2), some (.int s.1), none] [] s.2 := by
  intro N
  induction N with
  | zero => intro s h; cases h
  | succ N hrc19 =>
    intro s h
    replace h : gX10_rues_L19 x1 x2 (zfix N (gX10_rues_L19 x1 x2)) s = some res := h
    unfold gX10_rues_L19 at h
    refine z_iload_n hX dX10_rues_19 rfl 20 rfl ?_
    refine z_aload_n hX dX10_rues_20 rfl 21 rfl ?_
    obtain ⟨v5_, hq, h6_⟩ := zcI_of h
    refine z_callV hX vX10_knownMany lX10_481 dX10_rues_21 zs_98 rfl (mX10_knownMany  hq) (by decide) rfl rfl (Nat.le_of_ble_eq_true rfl) 24 rfl (Qi.to (fun v' M' hv => ?_))
    obtain ⟨rfl, rfl⟩ := hv
    refine z_icmp_ge hX dX10_rues_24 40 27 (by decide) rfl (fun hc => ?_) (fun hc => ?_)
    · rw [if_pos hc] at h6_
      refine z_aload_n hX dX10_rues_40 rfl 41 rfl ?_
      obtain ⟨v7_, hq, h8_⟩ := zcI_of h6_
      refine z_callV hX vX10_knownMany lX10_481 dX10_rues_41 zs_98 rfl (mX10_knownMany  hq) (by decide) rfl rfl (Nat.le_of_ble_eq_true rfl) 44 rfl (Qi.to (fun v' M' hv => ?_))
      obtain ⟨rfl, rfl⟩ := hv
      refine z_iconst hX dX10_rues_44 qi_1 45 rfl ?_
      refine z_isub hX dX10_rues_45 46 rfl ?_
      refine z_istore_n hX dX10_rues_46 (by decide) 47 rfl ?_
      refine z_mask [true, true, true, true, false] ?_
      have hz := aX10_rues_L47 hX _ _ h8_
      exact hz
    · rw [if_neg hc] at h6_
      refine z_aload_n hX dX10_rues_27 rfl 28 rfl ?_
      refine z_getF hX fX10_148 dX10_rues_28 zs_98 (by decide) rfl 31 rfl ?_
      refine z_iload_n hX dX10_rues_31 rfl 32 rfl ?_
      refine z_iconst hX dX10_rues_32 qi_0 33 rfl ?_
      obtain ⟨hb, h27_⟩ := zgd h6_
      refine z_zast hX dX10_rues_33 zs_141 (zok_in hb) 34 rfl ?_
      refine z_mem h27_ (fun M28_ h29_ => ?_)
      refine z_iinc (v := (s.1 + 1)) hX dX10_rues_34 rfl (by rfl) (by decide) 37 rfl ?_
      refine z_goto hX dX10_rues_37 19 (by decide) ?_
      refine z_mask [true, true, true, true, false] ?_
      have hz := hrc19 _ h29_
      exact hz
def gX10_rues (x1 : Int32) (M : zM) : Option (Int32 × zM) :=
  zlet (zI M 98 0 0) (fun M1_ => zcI (gX10_isMan x1 M1_) (fun v3_ => (if v3_ = 0 then some ((-1), M1_)
  else zfix zFu (gX10_rues_L19 x1 0) (0, M1_))))
set_option maxRecDepth 100000 in
set_option maxHeartbeats 2000000 in
theorem mX10_rues {G : zG} {x1 : Int32} {M : zM}  {res : (Int32 × zM)} (h : gX10_rues x1 M = some res) : Ct G 9 tX10_rues [.ref 98, .int x1] M (zQi res) := by
  unfold gX10_rues at h
  refine Ct.of (y := yX10_rues) rfl plX10 (Nat.le_of_ble_eq_true rfl) (fun X hX => ?_)
  replace hX : zC G X cX10_rues 5 RX10 (some .int) 9 := hX
  show Z G X _ 0 [some (.ref 98), some (.int x1), none, none, none] [] M
  refine z_aload_n hX dX10_rues_0 rfl 1 rfl ?_
  refine z_iconst hX dX10_rues_1 qi_0 2 rfl ?_
  refine z_putI hX pX10_154 dX10_rues_2 zs_98 (by decide) rfl 5 rfl ?_
  refine z_mem h (fun M1_ h2_ => ?_)
  refine z_aload_n hX dX10_rues_5 rfl 6 rfl ?_
  refine z_iload_n hX dX10_rues_6 rfl 7 rfl ?_
  obtain ⟨v3_, hq, h4_⟩ := zcI_of h2_
  refine z_callV hX vX10_isMan lX10_413 dX10_rues_7 zs_98 rfl (mX10_isMan  hq) (by decide) rfl rfl (Nat.le_of_ble_eq_true rfl) 10 rfl (Qi.to (fun v' M' hv => ?_))
  obtain ⟨rfl, rfl⟩ := hv
  refine z_if_ne hX dX10_rues_10 15 13 (by decide) rfl (fun hc => ?_) (fun hc => ?_)
  · rw [if_neg hc] at h4_
    refine z_iconst hX dX10_rues_15 qi_0 16 rfl ?_
    refine z_istore_n hX dX10_rues_16 (by decide) 17 rfl ?_
    refine z_iconst hX dX10_rues_17 qi_0 18 rfl ?_
    refine z_istore_n hX dX10_rues_18 (by decide) 19 rfl ?_
    refine z_mask [true, true, true, true, false] ?_
    have hz := aX10_rues_L19 hX _ _ h4_
    exact hz
  · rw [if_pos hc] at h4_
    refine z_iconst hX dX10_rues_13 qi_m1 14 rfl ?_
    exact z_ireturn hX dX10_rues_14 (zend_i h4_)
def gX10_chance_L65 (x2 : Int32) (x3 : Int32) (x5 : Int32) (x6 : Int32) (rc41 : (Int32 × Int32 × Int32 × zM) → Option (Int32 × zM)) (rc65 : (Int32 × zM) → Option (Int32 × zM)) (s : (Int32 × zM)) : Option (Int32 × zM) :=
  (if x2 ≤ s.1 then zlet ((s.2.1 119 (1 : Int32).toNatClampNeg)) (fun x7_ => zcI (gX10_thingsOf 1 2 s.2) (fun v9_ => (if v9_ < x3 then rc41 (x7_, (x5 + 0), (x6 + 1), s.2)
  else rc41 (x7_, (x5 + 1), (x6 + 1), s.2))))
  else zcV (gX10_passes 1 1 s.2) (fun M11_ => rc65 ((s.1 + 1), M11_)))
set_option maxRecDepth 100000 in
set_option maxHeartbeats 2000000 in
theorem aX10_chance_L65 {G : zG} {X : zX} {x2 : Int32} {x3 : Int32} {x5 : Int32} {x6 : Int32} (hX : zC G X cX10_chance 8 RX10 (some .int) 8)  {rc41 : (Int32 × Int32 × Int32 × zM) → Option (Int32 × zM)}  {res : (Int32 × zM)} (hrc41 : ∀ s : (Int32 × Int32 × Int32 × zM), rc41 s = some res → Z G X (zQi res) 41 [some (.ref 98), none, some (.int x2), some (.int x3), some (.int s.1), some (.int s.2.1), some (.int s.2.2.1), none] [] s.2.2.2) : ∀ (N : Nat) (s : (Int32 × zM)), zfix N (gX10_chance_L65 x2 x3 x5 x6 rc41) s = some res → Z G X (zQi res) 65 [some (.ref 98), none, some (.int x2), some (.int x3), none, some (.int x5), some (.int x6), some (.int s.1)] [] s.2 := by
  intro N
  induction N with
  | zero => intro s h; cases h
  | succ N hrc65 =>
    intro s h
    replace h : gX10_chance_L65 x2 x3 x5 x6 rc41 (zfix N (gX10_chance_L65 x2 x3 x5 x6 rc41)) s = some res := h
    unfold gX10_chance_L65 at h
    refine z_iload hX dX10_chance_65 rfl 67 rfl ?_
    refine z_iload_n hX dX10_chance_67 rfl 68 rfl ?_
    refine z_icmp_ge hX dX10_chance_68 83 71 (by decide) rfl (fun hc => ?_) (fun hc => ?_)
    · rw [if_pos hc] at h
      refine z_aload_n hX dX10_chance_83 rfl 84 rfl ?_
      refine z_getF hX fX10_75 dX10_chance_84 zs_98 (by decide) rfl 87 rfl ?_
      refine z_iconst hX dX10_chance_87 qi_1 88 rfl ?_
      refine z_iald hX dX10_chance_88 zs_119 (zok_in (by decide)) 89 rfl ?_
      refine z_topi h (fun x7_ h8_ => ?_)
      refine z_istore hX dX10_chance_89 (by decide) 91 rfl ?_
      refine z_iload hX dX10_chance_91 rfl 93 rfl ?_
      refine z_aload_n hX dX10_chance_93 rfl 94 rfl ?_
      refine z_iconst hX dX10_chance_94 qi_1 95 rfl ?_
      refine z_iconst hX dX10_chance_95 qi_2 96 rfl ?_
      obtain ⟨v9_, hq, h10_⟩ := zcI_of h8_
      refine z_callV hX vX10_thingsOf lX10_435 dX10_chance_96 zs_98 rfl (mX10_thingsOf  hq) (by decide) rfl rfl (Nat.le_of_ble_eq_true rfl) 99 rfl (Qi.to (fun v' M' hv => ?_))
      obtain ⟨rfl, rfl⟩ := hv
      refine z_iload_n hX dX10_chance_99 rfl 100 rfl ?_
      refine z_icmp_lt hX dX10_chance_100 107 103 (by decide) rfl (fun hc => ?_) (fun hc => ?_)
      · rw [if_pos hc] at h10_
        refine z_iconst hX dX10_chance_107 qi_0 108 rfl ?_
        refine z_iadd hX dX10_chance_108 109 rfl ?_
        refine z_istore hX dX10_chance_109 (by decide) 111 rfl ?_
        refine z_iinc (v := (x6 + 1)) hX dX10_chance_111 rfl (by rfl) (by decide) 114 rfl ?_
        refine z_goto hX dX10_chance_114 41 (by decide) ?_
        refine z_mask [true, false, true, true, true, true, true, false] ?_
        have hz := hrc41 _ h10_
        exact hz
      · rw [if_neg hc] at h10_
        refine z_iconst hX dX10_chance_103 qi_1 104 rfl ?_
        refine z_goto hX dX10_chance_104 108 (by decide) ?_
        refine z_iadd hX dX10_chance_108 109 rfl ?_
        refine z_istore hX dX10_chance_109 (by decide) 111 rfl ?_
        refine z_iinc (v := (x6 + 1)) hX dX10_chance_111 rfl (by rfl) (by decide) 114 rfl ?_
        refine z_goto hX dX10_chance_114 41 (by decide) ?_
        refine z_mask [true, false, true, true, true, true, true, false] ?_
        have hz := hrc41 _ h10_
        exact hz
    · rw [if_neg hc] at h
      refine z_aload_n hX dX10_chance_71 rfl 72 rfl ?_
      refine z_iconst hX dX10_chance_72 qi_1 73 rfl ?_
      refine z_iconst hX dX10_chance_73 qi_1 74 rfl ?_
      obtain ⟨M11_, hq, h12_⟩ := zcV_of h
      refine z_callV hX vX10_passes lX10_403 dX10_chance_74 zs_98 rfl (mX10_passes  hq) (by decide) rfl rfl (Nat.le_of_ble_eq_true rfl) 77 rfl (Qv.to (fun M' hv => ?_))
      subst hv
      refine z_iinc (v := (s.1 + 1)) hX dX10_chance_77 rfl (by rfl) (by decide) 80 rfl ?_
      refine z_goto hX dX10_chance_80 65 (by decide) ?_
      refine z_mask [true, false, true, true, false, true, true, true] ?_
      have hz := hrc65 _ h12_
      exact hz
def gX10_chance_L41 (x2 : Int32) (x3 : Int32) (rc41 : (Int32 × Int32 × Int32 × zM) → Option (Int32 × zM)) (s : (Int32 × Int32 × Int32 × zM)) : Option (Int32 × zM) :=
  (if 10 ≤ s.2.2.1 then some (s.2.1, s.2.2.2)
  else zcV (gX10_copies 1 0 s.2.2.2) (fun M3_ => zlet (zI M3_ 119 (1 : Int32).toNatClampNeg s.1) (fun M5_ => zfix zFu (gX10_chance_L65 x2 x3 s.2.1 s.2.2.1 rc41) (0, M5_))))
set_option maxRecDepth 100000 in
set_option maxHeartbeats 2000000 in
theorem aX10_chance_L41 {G : zG} {X : zX} {x2 : Int32} {x3 : Int32} (hX : zC G X cX10_chance 8 RX10 (some .int) 8)    {res : (Int32 × zM)}  : ∀ (N : Nat) (s : (Int32 × Int32 × Int32 × zM)), zfix N (gX10_chance_L41 x2 x3) s = some res → Z G X (zQi res) 41 [some (.ref 98), none, some (.int x2), some (.int x3), some (.int s.1), some (.int s.2.1), some (.int s.2.2.1), none] [] s.2.2.2 := by
  intro N
  induction N with
  | zero => intro s h; cases h
  | succ N hrc41 =>
    intro s h
    replace h : gX10_chance_L41 x2 x3 (zfix N (gX10_chance_L41 x2 x3)) s = some res := h
    unfold gX10_chance_L41 at h
    refine z_iload hX dX10_chance_41 rfl 43 rfl ?_
    refine z_bipush hX dX10_chance_43 qb_10 45 rfl ?_
    refine z_icmp_ge hX dX10_chance_45 117 48 (by decide) rfl (fun hc => ?_) (fun hc => ?_)
    · rw [if_pos hc] at h
      refine z_iload hX dX10_chance_117 rfl 119 rfl ?_
      exact z_ireturn hX dX10_chance_119 (zend_i h)
    · rw [if_neg hc] at h
      refine z_aload_n hX dX10_chance_48 rfl 49 rfl ?_
      refine z_iconst hX dX10_chance_49 qi_1 50 rfl ?_
      refine z_iconst hX dX10_chance_50 qi_0 51 rfl ?_
      obtain ⟨M3_, hq, h4_⟩ := zcV_of h
      refine z_callV hX vX10_copies lX10_407 dX10_chance_51 zs_98 rfl (mX10_copies  hq) (by decide) rfl rfl (Nat.le_of_ble_eq_true rfl) 54 rfl (Qv.to (fun M' hv => ?_))
      subst hv
      refine z_aload_n hX dX10_chance_54 rfl 55 rfl ?_
      refine z_getF hX fX10_75 dX10_chance_55 zs_98 (by decide) rfl 58 rfl ?_
      refine z_iconst hX dX10_chance_58 qi_1 59 rfl ?_
      refine z_iload hX dX10_chance_59 rfl 61 rfl ?_
      refine z_iast hX dX10_chance_61 zs_119 (zok_in (by decide)) 62 rfl ?_
      refine z_mem h4_ (fun M5_ h6_ => ?_)
      refine z_iconst hX dX10_chance_62 qi_0 63 rfl ?_
      refine z_istore hX dX10_chance_63 (by decide) 65 rfl ?_
      refine z_mask [true, false, true, true, false, true, true, true] ?_
      have hz := aX10_chance_L65 hX hrc41 _ _ h6_
      exact hz
def gX10_chance (x1 : Int32) (x2 : Int32) (x3 : Int32) (M : zM) : Option (Int32 × zM) :=
  zlet (zI M 98 0 0) (fun M1_ => (if x1 < 0 then some ((-1), M1_)
  else (if x2 < 1 then some ((-1), M1_)
  else (if 99 < x2 then some ((-1), M1_)
  else (if x3 < 0 then some ((-1), M1_)
  else (if x3 ≤ 8 then zfix zFu (gX10_chance_L41 x2 x3) (x1, 0, 0, M1_)
  else some ((-1), M1_)))))))
set_option maxRecDepth 100000 in
set_option maxHeartbeats 2000000 in
theorem mX10_chance {G : zG} {x1 : Int32} {x2 : Int32} {x3 : Int32} {M : zM}  {res : (Int32 × zM)} (h : gX10_chance x1 x2 x3 M = some res) : Ct G 8 tX10_chance [.ref 98, .int x1, .int x2, .int x3] M (zQi res) := by
  unfold gX10_chance at h
  refine Ct.of (y := yX10_chance) rfl plX10 (Nat.le_of_ble_eq_true rfl) (fun X hX => ?_)
  replace hX : zC G X cX10_chance 8 RX10 (some .int) 8 := hX
  show Z G X _ 0 [some (.ref 98), some (.int x1), some (.int x2), some (.int x3), none, none, none, none] [] M
  refine z_aload_n hX dX10_chance_0 rfl 1 rfl ?_
  refine z_iconst hX dX10_chance_1 qi_0 2 rfl ?_
  refine z_putI hX pX10_154 dX10_chance_2 zs_98 (by decide) rfl 5 rfl ?_
  refine z_mem h (fun M1_ h2_ => ?_)
  refine z_iload_n hX dX10_chance_5 rfl 6 rfl ?_
  refine z_if_lt hX dX10_chance_6 30 9 (by decide) rfl (fun hc => ?_) (fun hc => ?_)
  · rw [if_pos hc] at h2_
    refine z_iconst hX dX10_chance_30 qi_m1 31 rfl ?_
    exact z_ireturn hX dX10_chance_31 (zend_i h2_)
  · rw [if_neg hc] at h2_
    refine z_iload_n hX dX10_chance_9 rfl 10 rfl ?_
    refine z_iconst hX dX10_chance_10 qi_1 11 rfl ?_
    refine z_icmp_lt hX dX10_chance_11 30 14 (by decide) rfl (fun hc => ?_) (fun hc => ?_)
    · rw [if_pos hc] at h2_
      refine z_iconst hX dX10_chance_30 qi_m1 31 rfl ?_
      exact z_ireturn hX dX10_chance_31 (zend_i h2_)
    · rw [if_neg hc] at h2_
      refine z_iload_n hX dX10_chance_14 rfl 15 rfl ?_
      refine z_bipush hX dX10_chance_15 qb_99 17 rfl ?_
      refine z_icmp_gt hX dX10_chance_17 30 20 (by decide) rfl (fun hc => ?_) (fun hc => ?_)
      · rw [if_pos hc] at h2_
        refine z_iconst hX dX10_chance_30 qi_m1 31 rfl ?_
        exact z_ireturn hX dX10_chance_31 (zend_i h2_)
      · rw [if_neg hc] at h2_
        refine z_iload_n hX dX10_chance_20 rfl 21 rfl ?_
        refine z_if_lt hX dX10_chance_21 30 24 (by decide) rfl (fun hc => ?_) (fun hc => ?_)
        · rw [if_pos hc] at h2_
          refine z_iconst hX dX10_chance_30 qi_m1 31 rfl ?_
          exact z_ireturn hX dX10_chance_31 (zend_i h2_)
        · rw [if_neg hc] at h2_
          refine z_iload_n hX dX10_chance_24 rfl 25 rfl ?_
          refine z_bipush hX dX10_chance_25 qb_8 27 rfl ?_
          refine z_icmp_le hX dX10_chance_27 32 30 (by decide) rfl (fun hc => ?_) (fun hc => ?_)
          · rw [if_pos hc] at h2_
            refine z_iload_n hX dX10_chance_32 rfl 33 rfl ?_
            refine z_istore hX dX10_chance_33 (by decide) 35 rfl ?_
            refine z_iconst hX dX10_chance_35 qi_0 36 rfl ?_
            refine z_istore hX dX10_chance_36 (by decide) 38 rfl ?_
            refine z_iconst hX dX10_chance_38 qi_0 39 rfl ?_
            refine z_istore hX dX10_chance_39 (by decide) 41 rfl ?_
            refine z_mask [true, false, true, true, true, true, true, false] ?_
            have hz := aX10_chance_L41 hX _ _ h2_
            exact hz
          · rw [if_neg hc] at h2_
            refine z_iconst hX dX10_chance_30 qi_m1 31 rfl ?_
            exact z_ireturn hX dX10_chance_31 (zend_i h2_)
def gX10_tried_J36 (x1 : Int32) (x2 : Int32) (x3 : Int32) (y0 : Int32) (M : zM) : Option (Int32 × zM) :=
  (if y0 = 0 then some ((-1), M)
  else (if x3 < 0 then some ((-1), M)
  else (if x3 ≤ 99 then zlet (zI M 98 51 x1) (fun M3_ => zlet (zI M3_ 98 52 x2) (fun M5_ => zcV (gX10_runs x3 M5_) (fun M7_ => zlet (zI M7_ 98 51 0) (fun M9_ => zlet (zI M9_ 98 52 (-1)) (fun M11_ => zcI (gX10_thingsOf 1 2 M11_) (fun v13_ => zcI (gX10_thingsOf 0 2 M11_) (fun v15_ => some ((v13_ - v15_), M11_))))))))
  else some ((-1), M))))
set_option maxRecDepth 100000 in
set_option maxHeartbeats 2000000 in
theorem aX10_tried_J36 {G : zG} {X : zX} {x1 : Int32} {x2 : Int32} {x3 : Int32} {y0 : Int32} (hX : zC G X cX10_tried 5 RX10 (some .int) 10)   {M : zM} {res : (Int32 × zM)}  (h : gX10_tried_J36 x1 x2 x3 y0 M = some res) : Z G X (zQi res) 36 [some (.ref 98), some (.int x1), some (.int x2), some (.int x3), none] [.int y0] M := by
  unfold gX10_tried_J36 at h
  refine z_istore hX dX10_tried_36 (by decide) 38 rfl ?_
  refine z_iload hX dX10_tried_38 rfl 40 rfl ?_
  refine z_if_eq hX dX10_tried_40 53 43 (by decide) rfl (fun hc => ?_) (fun hc => ?_)
  · rw [if_pos hc] at h
    refine z_iconst hX dX10_tried_53 qi_m1 54 rfl ?_
    exact z_ireturn hX dX10_tried_54 (zend_i h)
  · rw [if_neg hc] at h
    refine z_iload_n hX dX10_tried_43 rfl 44 rfl ?_
    refine z_if_lt hX dX10_tried_44 53 47 (by decide) rfl (fun hc => ?_) (fun hc => ?_)
    · rw [if_pos hc] at h
      refine z_iconst hX dX10_tried_53 qi_m1 54 rfl ?_
      exact z_ireturn hX dX10_tried_54 (zend_i h)
    · rw [if_neg hc] at h
      refine z_iload_n hX dX10_tried_47 rfl 48 rfl ?_
      refine z_bipush hX dX10_tried_48 qb_99 50 rfl ?_
      refine z_icmp_le hX dX10_tried_50 55 53 (by decide) rfl (fun hc => ?_) (fun hc => ?_)
      · rw [if_pos hc] at h
        refine z_aload_n hX dX10_tried_55 rfl 56 rfl ?_
        refine z_iload_n hX dX10_tried_56 rfl 57 rfl ?_
        refine z_putI hX pX10_360 dX10_tried_57 zs_98 (by decide) rfl 60 rfl ?_
        refine z_mem h (fun M3_ h4_ => ?_)
        refine z_aload_n hX dX10_tried_60 rfl 61 rfl ?_
        refine z_iload_n hX dX10_tried_61 rfl 62 rfl ?_
        refine z_putI hX pX10_114 dX10_tried_62 zs_98 (by decide) rfl 65 rfl ?_
        refine z_mem h4_ (fun M5_ h6_ => ?_)
        refine z_aload_n hX dX10_tried_65 rfl 66 rfl ?_
        refine z_iload_n hX dX10_tried_66 rfl 67 rfl ?_
        obtain ⟨M7_, hq, h8_⟩ := zcV_of h6_
        refine z_callV hX vX10_runs lX10_432 dX10_tried_67 zs_98 rfl (mX10_runs  hq) (by decide) rfl rfl (Nat.le_of_ble_eq_true rfl) 70 rfl (Qv.to (fun M' hv => ?_))
        subst hv
        refine z_aload_n hX dX10_tried_70 rfl 71 rfl ?_
        refine z_iconst hX dX10_tried_71 qi_0 72 rfl ?_
        refine z_putI hX pX10_360 dX10_tried_72 zs_98 (by decide) rfl 75 rfl ?_
        refine z_mem h8_ (fun M9_ h10_ => ?_)
        refine z_aload_n hX dX10_tried_75 rfl 76 rfl ?_
        refine z_iconst hX dX10_tried_76 qi_m1 77 rfl ?_
        refine z_putI hX pX10_114 dX10_tried_77 zs_98 (by decide) rfl 80 rfl ?_
        refine z_mem h10_ (fun M11_ h12_ => ?_)
        refine z_aload_n hX dX10_tried_80 rfl 81 rfl ?_
        refine z_iconst hX dX10_tried_81 qi_1 82 rfl ?_
        refine z_iconst hX dX10_tried_82 qi_2 83 rfl ?_
        obtain ⟨v13_, hq, h14_⟩ := zcI_of h12_
        refine z_callV hX vX10_thingsOf lX10_435 dX10_tried_83 zs_98 rfl (mX10_thingsOf  hq) (by decide) rfl rfl (Nat.le_of_ble_eq_true rfl) 86 rfl (Qi.to (fun v' M' hv => ?_))
        obtain ⟨rfl, rfl⟩ := hv
        refine z_aload_n hX dX10_tried_86 rfl 87 rfl ?_
        refine z_iconst hX dX10_tried_87 qi_0 88 rfl ?_
        refine z_iconst hX dX10_tried_88 qi_2 89 rfl ?_
        obtain ⟨v15_, hq, h16_⟩ := zcI_of h14_
        refine z_callV hX vX10_thingsOf lX10_435 dX10_tried_89 zs_98 rfl (mX10_thingsOf  hq) (by decide) rfl rfl (Nat.le_of_ble_eq_true rfl) 92 rfl (Qi.to (fun v' M' hv => ?_))
        obtain ⟨rfl, rfl⟩ := hv
        refine z_isub hX dX10_tried_92 93 rfl ?_
        exact z_ireturn hX dX10_tried_93 (zend_i h16_)
      · rw [if_neg hc] at h
        refine z_iconst hX dX10_tried_53 qi_m1 54 rfl ?_
        exact z_ireturn hX dX10_tried_54 (zend_i h)
def gX10_tried_J35 (x1 : Int32) (x2 : Int32) (x3 : Int32) (M : zM) : Option (Int32 × zM) :=
  gX10_tried_J36 x1 x2 x3 0 M
set_option maxRecDepth 100000 in
set_option maxHeartbeats 2000000 in
theorem aX10_tried_J35 {G : zG} {X : zX} {x1 : Int32} {x2 : Int32} {x3 : Int32} (hX : zC G X cX10_tried 5 RX10 (some .int) 10)   {M : zM} {res : (Int32 × zM)}  (h : gX10_tried_J35 x1 x2 x3 M = some res) : Z G X (zQi res) 35 [some (.ref 98), some (.int x1), some (.int x2), some (.int x3), none] [] M := by
  unfold gX10_tried_J35 at h
  refine z_iconst hX dX10_tried_35 qi_0 36 rfl ?_
  refine z_mask [true, true, true, true, false] ?_
  have hz := aX10_tried_J36 hX h
  exact hz
def gX10_tried (x1 : Int32) (x2 : Int32) (x3 : Int32) (M : zM) : Option (Int32 × zM) :=
  zlet (zI M 98 0 0) (fun M1_ => (if x1 = 2 then zcI (gX10_isMan x2 M1_) (fun v17_ => gX10_tried_J36 x1 x2 x3 v17_ M1_)
  else (if x1 < 0 then gX10_tried_J35 x1 x2 x3 M1_
  else (if 5 < x1 then gX10_tried_J35 x1 x2 x3 M1_
  else (if x2 = 0 then gX10_tried_J36 x1 x2 x3 1 M1_
  else gX10_tried_J35 x1 x2 x3 M1_)))))
set_option maxRecDepth 100000 in
set_option maxHeartbeats 2000000 in
theorem mX10_tried {G : zG} {x1 : Int32} {x2 : Int32} {x3 : Int32} {M : zM}  {res : (Int32 × zM)} (h : gX10_tried x1 x2 x3 M = some res) : Ct G 10 tX10_tried [.ref 98, .int x1, .int x2, .int x3] M (zQi res) := by
  unfold gX10_tried at h
  refine Ct.of (y := yX10_tried) rfl plX10 (Nat.le_of_ble_eq_true rfl) (fun X hX => ?_)
  replace hX : zC G X cX10_tried 5 RX10 (some .int) 10 := hX
  show Z G X _ 0 [some (.ref 98), some (.int x1), some (.int x2), some (.int x3), none] [] M
  refine z_aload_n hX dX10_tried_0 rfl 1 rfl ?_
  refine z_iconst hX dX10_tried_1 qi_0 2 rfl ?_
  refine z_putI hX pX10_154 dX10_tried_2 zs_98 (by decide) rfl 5 rfl ?_
  refine z_mem h (fun M1_ h2_ => ?_)
  refine z_iload_n hX dX10_tried_5 rfl 6 rfl ?_
  refine z_iconst hX dX10_tried_6 qi_2 7 rfl ?_
  refine z_icmp_ne hX dX10_tried_7 18 10 (by decide) rfl (fun hc => ?_) (fun hc => ?_)
  · rw [if_neg hc] at h2_
    refine z_iload_n hX dX10_tried_18 rfl 19 rfl ?_
    refine z_if_lt hX dX10_tried_19 35 22 (by decide) rfl (fun hc => ?_) (fun hc => ?_)
    · rw [if_pos hc] at h2_
      refine z_mask [true, true, true, true, false] ?_
      have hz := aX10_tried_J35 hX h2_
      exact hz
    · rw [if_neg hc] at h2_
      refine z_iload_n hX dX10_tried_22 rfl 23 rfl ?_
      refine z_iconst hX dX10_tried_23 qi_5 24 rfl ?_
      refine z_icmp_gt hX dX10_tried_24 35 27 (by decide) rfl (fun hc => ?_) (fun hc => ?_)
      · rw [if_pos hc] at h2_
        refine z_mask [true, true, true, true, false] ?_
        have hz := aX10_tried_J35 hX h2_
        exact hz
      · rw [if_neg hc] at h2_
        refine z_iload_n hX dX10_tried_27 rfl 28 rfl ?_
        refine z_if_ne hX dX10_tried_28 35 31 (by decide) rfl (fun hc => ?_) (fun hc => ?_)
        · rw [if_neg hc] at h2_
          refine z_mask [true, true, true, true, false] ?_
          have hz := aX10_tried_J35 hX h2_
          exact hz
        · rw [if_pos hc] at h2_
          refine z_iconst hX dX10_tried_31 qi_1 32 rfl ?_
          refine z_goto hX dX10_tried_32 36 (by decide) ?_
          refine z_mask [true, true, true, true, false] ?_
          have hz := aX10_tried_J36 hX h2_
          exact hz
  · rw [if_pos hc] at h2_
    refine z_aload_n hX dX10_tried_10 rfl 11 rfl ?_
    refine z_iload_n hX dX10_tried_11 rfl 12 rfl ?_
    obtain ⟨v17_, hq, h18_⟩ := zcI_of h2_
    refine z_callV hX vX10_isMan lX10_413 dX10_tried_12 zs_98 rfl (mX10_isMan  hq) (by decide) rfl rfl (Nat.le_of_ble_eq_true rfl) 15 rfl (Qi.to (fun v' M' hv => ?_))
    obtain ⟨rfl, rfl⟩ := hv
    refine z_goto hX dX10_tried_15 36 (by decide) ?_
    refine z_mask [true, true, true, true, false] ?_
    have hz := aX10_tried_J36 hX h18_
    exact hz
def gX10_undo (M : zM) : Option (Int32 × zM) :=
  zlet (zI M 98 0 0) (fun M1_ => (if (M1_.1 98 50) = 0 then some ((-1), M1_)
  else zlet (zI M1_ 98 50 ((M1_.1 98 50) - 1)) (fun M3_ => zcV (gX10_copies 0 (3 + (M3_.1 98 50)) M3_) (fun M5_ => some ((M5_.1 98 50), M5_)))))
set_option maxRecDepth 100000 in
set_option maxHeartbeats 2000000 in
theorem mX10_undo {G : zG}  {M : zM}  {res : (Int32 × zM)} (h : gX10_undo M = some res) : Ct G 2 tX10_undo [.ref 98] M (zQi res) := by
  unfold gX10_undo at h
  refine Ct.of (y := yX10_undo) rfl plX10 (Nat.le_of_ble_eq_true rfl) (fun X hX => ?_)
  replace hX : zC G X cX10_undo 1 RX10 (some .int) 2 := hX
  show Z G X _ 0 [some (.ref 98)] [] M
  refine z_aload_n hX dX10_undo_0 rfl 1 rfl ?_
  refine z_iconst hX dX10_undo_1 qi_0 2 rfl ?_
  refine z_putI hX pX10_154 dX10_undo_2 zs_98 (by decide) rfl 5 rfl ?_
  refine z_mem h (fun M1_ h2_ => ?_)
  refine z_aload_n hX dX10_undo_5 rfl 6 rfl ?_
  refine z_getI hX fX10_311 dX10_undo_6 zs_98 (by decide) rfl 9 rfl ?_
  refine z_if_ne hX dX10_undo_9 14 12 (by decide) rfl (fun hc => ?_) (fun hc => ?_)
  · rw [if_neg hc] at h2_
    refine z_aload_n hX dX10_undo_14 rfl 15 rfl ?_
    refine z_dup hX dX10_undo_15 rfl 16 rfl ?_
    refine z_getI hX fX10_311 dX10_undo_16 zs_98 (by decide) rfl 19 rfl ?_
    refine z_iconst hX dX10_undo_19 qi_1 20 rfl ?_
    refine z_isub hX dX10_undo_20 21 rfl ?_
    refine z_putI hX pX10_311 dX10_undo_21 zs_98 (by decide) rfl 24 rfl ?_
    refine z_mem h2_ (fun M3_ h4_ => ?_)
    refine z_aload_n hX dX10_undo_24 rfl 25 rfl ?_
    refine z_iconst hX dX10_undo_25 qi_0 26 rfl ?_
    refine z_iconst hX dX10_undo_26 qi_3 27 rfl ?_
    refine z_aload_n hX dX10_undo_27 rfl 28 rfl ?_
    refine z_getI hX fX10_311 dX10_undo_28 zs_98 (by decide) rfl 31 rfl ?_
    refine z_iadd hX dX10_undo_31 32 rfl ?_
    obtain ⟨M5_, hq, h6_⟩ := zcV_of h4_
    refine z_callV hX vX10_copies lX10_407 dX10_undo_32 zs_98 rfl (mX10_copies  hq) (by decide) rfl rfl (Nat.le_of_ble_eq_true rfl) 35 rfl (Qv.to (fun M' hv => ?_))
    subst hv
    refine z_aload_n hX dX10_undo_35 rfl 36 rfl ?_
    refine z_getI hX fX10_311 dX10_undo_36 zs_98 (by decide) rfl 39 rfl ?_
    exact z_ireturn hX dX10_undo_39 (zend_i h6_)
  · rw [if_pos hc] at h2_
    refine z_iconst hX dX10_undo_12 qi_m1 13 rfl ?_
    exact z_ireturn hX dX10_undo_13 (zend_i h2_)
